/-! open hands: the class's looks, passes -/
section QH
variable {D : am_D} {N sz S : Nat} {ts os : Nat → Nat} {own : Nat → Int32}
/-- the ends at a depth, in the class -/
def q_en (D : am_D) (d le re : Nat) : Prop := D.1 102 (2 * d) = Int32.ofNat (le % 8) ∧ D.1 102 (2 * d + 1) = Int32.ofNat (re % 8) ∧ D.1 103 (2 * d) = Int32.ofNat (q_wt le) ∧ D.1 103 (2 * d + 1) = Int32.ofNat (q_wt re)
theorem q_own_h (hw : q_rw sz ts os) (hc : q_cr sz ts os own S) {i h : Nat} (hi : i < sz) (hh : h < 4) : own (ts i) = Int32.ofNat h ↔ (S.testBit i = true ∧ os i = h) := by
  have hos := (hw.2.1 i hi).2
  rw [hc.2.1 i hi]
  by_cases c : S.testBit i = true
  · rw [if_pos c]
    exact ⟨fun q => ⟨c, q_ofN (by omega) (by omega) q⟩, fun q => by rw [q.2]⟩
  · rw [if_neg c]
    exact ⟨fun q => by have := q_ofN (a := 4) (b := h) (by omega) (by omega) q; omega, fun q => absurd q.1 c⟩
theorem q175 (hw : q_rw sz ts os) (ho : q_ow D sz ts os) (hc : q_cr sz ts os own S) {d le re h i s : Nat} (hd : d ≤ 9) (he : q_en D d le re) (hi : i < sz) (hs : s < 2) (hh : h < 4) : m175 D (Int32.ofNat d) (Int32.ofNat h) (Int32.ofNat S) (Int32.ofNat i) (Int32.ofNat s) = if q_lg own le re h (2 * ts i + s) then 1 else 0 := by
  have h9 := hw.1
  obtain ⟨hts, hos⟩ := hw.2.1 i hi
  have hb := q_nb1 S hc.1 i (by omega)
  have hown := q_own_h hw hc hi hh
  have e1 : (2 : Int32) * Int32.ofNat d + Int32.ofNat s = Int32.ofNat (2 * d + s) := by rw [show (2 : Int32) = Int32.ofNat 2 from rfl, q_mul, q_add]
  have e2 : D.1 102 (2 * d + s) = Int32.ofNat ((if s = 0 then le else re) % 8) := by
    obtain rfl | rfl : s = 0 ∨ s = 1 := by omega
    · exact he.1
    · exact he.2.1
  have o1 : (2 * ts i + s) / 2 = ts i := by omega
  have o2 : (2 * ts i + s) % 2 = s := by omega
  have a1 := q_lo7 _ hts
  have a2 := q_hi7 _ hts
  have hlg : q_lg own le re h (2 * ts i + s) ↔ ((S.testBit i = true ∧ os i = h) ∧ (q_lo (ts i) = (if s = 0 then le else re) % 8 ∨ q_hi (ts i) = (if s = 0 then le else re) % 8)) := by
    unfold q_lg
    rw [o1, o2, hown]
  have hsh : q_sh (ts i) (Int32.ofNat ((if s = 0 then le else re) % 8)) ↔ (q_lo (ts i) = (if s = 0 then le else re) % 8 ∨ q_hi (ts i) = (if s = 0 then le else re) % 8) := by
    constructor
    · exact fun q => q.imp (fun z => q_ofN (by omega) (by omega) z) (fun z => q_ofN (by omega) (by omega) z)
    · exact fun q => q.imp (fun z => by rw [z]) (fun z => by rw [z])
  unfold m175
  rw [q_rt _ (by omega) (show i < 9 by omega), q_rt _ (by omega) (show i < 9 by omega), (ho.2 i hi).1, (ho.2 i hi).2, e1, q_rt _ (by omega) (show 2 * d + s < 20 by omega), e2, q253 hts]
  by_cases c : S.testBit i = true
  · have hb2 : ¬ (Int32.ofNat S >>> (Int32.ofNat i &&& 31)) &&& 1 = 0 := fun q => by rw [hb.mp q] at c; cases c
    rw [if_neg hb2]
    by_cases f : os i = h
    · rw [if_pos (show Int32.ofNat (os i) = Int32.ofNat h by rw [f])]
      by_cases g : q_sh (ts i) (Int32.ofNat ((if s = 0 then le else re) % 8))
      · rw [if_pos g, if_neg (show ¬ (1 : Int32) = 0 by decide), if_pos (hlg.mpr ⟨⟨c, f⟩, hsh.mp g⟩)]
      · rw [if_neg g, if_pos rfl, if_neg (fun q => g (hsh.mpr (hlg.mp q).2))]
    · rw [if_neg (show ¬ Int32.ofNat (os i) = Int32.ofNat h from fun q => f (q_ofN (by omega) (by omega) q)), if_neg (fun q => f (hlg.mp q).1.2)]
  · rw [if_pos (show (Int32.ofNat S >>> (Int32.ofNat i &&& 31)) &&& 1 = 0 from hb.mpr (by simpa using c)), if_neg (fun q => c (hlg.mp q).1.1)]
theorem q174_L (hw : q_rw sz ts os) (ho : q_ow D sz ts os) (hc : q_cr sz ts os own S) {d le re h : Nat} (hd : d ≤ 9) (he : q_en D d le re) (hh : h < 4) : ∀ (j o m : Nat), o + j = 2 * sz → j < m → (m174_L3 N D (Int32.ofNat d) (Int32.ofNat h) (Int32.ofNat S) m (Int32.ofNat o) = some 1 ∧ ∃ i s, i < sz ∧ s < 2 ∧ q_lg own le re h (2 * ts i + s)) ∨ (m174_L3 N D (Int32.ofNat d) (Int32.ofNat h) (Int32.ofNat S) m (Int32.ofNat o) = some 0 ∧ ∀ o', o ≤ o' → o' < 2 * sz → ¬ q_lg own le re h (2 * ts (o' / 2) + o' % 2))
  | 0, o, m + 1, hj, hm => by
    have h9 := hw.1
    right
    rw [m174_L3, ho.1, show (2 : Int32) = Int32.ofNat 2 from rfl, q_mul, if_pos (q_yle (by omega) (by omega))]
    exact ⟨rfl, fun o' h1 h2 => by omega⟩
  | j + 1, o, m + 1, hj, hm => by
    have h9 := hw.1
    have e175 := q175 hw ho hc hd he (show o / 2 < sz by omega) (show o % 2 < 2 by omega) hh
    rw [m174_L3, ho.1, show (2 : Int32) = Int32.ofNat 2 from rfl, q_mul, if_neg (q_nle (by omega) (by omega)), q_mod (by omega) (by omega), q_div (by omega) (by omega), e175]
    by_cases c : q_lg own le re h (2 * ts (o / 2) + o % 2)
    · left
      rw [if_pos c, if_neg (show ¬ (1 : Int32) = 0 by decide)]
      exact ⟨rfl, o / 2, o % 2, by omega, by omega, c⟩
    · rw [if_neg c, if_pos rfl]
      simp only [am_lt]
      rw [show Int32.ofNat o + 1 = Int32.ofNat (o + 1) from q_add o 1]
      rcases q174_L hw ho hc hd he hh j (o + 1) m (by omega) (by omega) with h1 | ⟨h1, h2⟩
      · exact Or.inl h1
      · refine Or.inr ⟨h1, fun o' h3 h4 => ?_⟩
        by_cases q : o' = o
        · rw [q]; exact c
        · exact h2 o' (by omega) h4
  | _, _, 0, _, hm => by omega
/-- whether a hand can lay -/
theorem q174 (hN : 2000 ≤ N) (hw : q_rw sz ts os) (ho : q_ow D sz ts os) (hc : q_cr sz ts os own S) {d le re h : Nat} (hd : d ≤ 9) (he : q_en D d le re) (hh : h < 4) : (m174 N D (Int32.ofNat d) (Int32.ofNat h) (Int32.ofNat S) = some 1 ∧ ∃ o', o' < 56 ∧ q_lg own le re h o') ∨ (m174 N D (Int32.ofNat d) (Int32.ofNat h) (Int32.ofNat S) = some 0 ∧ ∀ o', o' < 56 → ¬ q_lg own le re h o') := by
  have h9 := hw.1
  unfold m174
  rcases q174_L (N := N) hw ho hc hd he hh (2 * sz) 0 N (by omega) (by omega) with ⟨h1, i, s, hi, hs, h2⟩ | ⟨h1, h2⟩
  · left
    have h1' : m174_L3 N D (Int32.ofNat d) (Int32.ofNat h) (Int32.ofNat S) N 0 = some 1 := h1
    have hts := (hw.2.1 i hi).1
    rw [h1', Option.bind_some, if_neg (show ¬ (1 : Nat) = 0 by omega)]
    exact ⟨rfl, 2 * ts i + s, by omega, h2⟩
  · right
    have h1' : m174_L3 N D (Int32.ofNat d) (Int32.ofNat h) (Int32.ofNat S) N 0 = some 0 := h1
    rw [h1', Option.bind_some, if_pos rfl]
    refine ⟨rfl, fun o' ho' hl => ?_⟩
    by_cases q : ∃ i, i < sz ∧ ts i = o' / 2
    · obtain ⟨i, hi, e⟩ := q
      have h3 := h2 (2 * i + o' % 2) (by omega) (by omega)
      rw [show (2 * i + o' % 2) / 2 = i by omega, show (2 * i + o' % 2) % 2 = o' % 2 by omega, e, show 2 * (o' / 2) + o' % 2 = o' by omega] at h3
      exact h3 hl
    · have := hc.2.2 (o' / 2) (by omega) (fun i hi e => q ⟨i, hi, e⟩)
      have hl1 := hl.1
      rw [this] at hl1
      have := q_ofN (a := 4) (b := h) (by omega) (by omega) hl1
      omega
def q_sg (h : Nat) : Int32 := if h % 2 = 0 then 1 else -1
theorem q_sg4 : ∀ h, h < 4 → q_sg ((h + 1) % 4) = -q_sg h ∧ (if m187 (Int32.ofNat h) = 0 then (1 : Int32) else -1) = q_sg h ∧ m185 (Int32.ofNat h) = Int32.ofNat ((h + 1) % 4) ∧ q_sg h * q_sg h = 1 := by decide +kernel
theorem q_d5 : ∀ k, k < 700 → -(Int32.ofNat k / 5) = (-Int32.ofNat k) / 5 := by decide +kernel
theorem q_d5' {A B : Nat} (hA : A < 700) (hB : B < 700) : (if 0 ≤ Int32.ofNat A - Int32.ofNat B then (Int32.ofNat A - Int32.ofNat B) / 5 else -(-(Int32.ofNat A - Int32.ofNat B) / 5)) = (Int32.ofNat A - Int32.ofNat B) / 5 := by
  by_cases c : B ≤ A
  · rw [q_sub c, if_pos (show (0 : Int32) ≤ Int32.ofNat (A - B) from q_yle (a := 0) (b := A - B) (by omega) (by omega))]
  · have h := q_dlt (a := A) (b := B) (by omega) (by omega)
    rw [if_neg (show ¬ (0 : Int32) ≤ Int32.ofNat A - Int32.ofNat B from Int32.not_le.mpr h), q_sneg (by omega), Int32.neg_neg, q_d5 _ (by omega)]
theorem q_d5n {A B : Nat} (hA : A < 700) (hB : B < 700) : -((Int32.ofNat A - Int32.ofNat B) / 5) = (Int32.ofNat B - Int32.ofNat A) / 5 := by
  by_cases c : B ≤ A
  · rw [q_sub c, q_d5 _ (by omega), ← q_sneg c]
  · rw [q_sneg (show A ≤ B by omega), ← q_d5 _ (by omega), Int32.neg_neg, q_sub (by omega)]
/-- what a block brings, in the class -/
theorem q179 (hN : 2000 ≤ N) (hw : q_rw sz ts os) (ho : q_ow D sz ts os) (hc : q_cr sz ts os own S) {h : Nat} (hh : h < 4) : m179 N D (Int32.ofNat S) = some (q_sg h * q_bk own h) := by
  have p0 := q_pips_le own (Int32.ofNat 0)
  have p1 := q_pips_le own (Int32.ofNat 1)
  have p2 := q_pips_le own (Int32.ofNat 2)
  have p3 := q_pips_le own (Int32.ofNat 3)
  have e1 := q178 hN hw ho hc (h := 1) (by omega)
  have e0 := q178 hN hw ho hc (h := 0) (by omega)
  have e1' : m178 N D (1 : Int32) (Int32.ofNat S) = _ := e1
  have e0' : m178 N D (0 : Int32) (Int32.ofNat S) = _ := e0
  unfold m179
  rw [e1', Option.bind_some, e0', Option.bind_some]
  congr 1
  have key : ∀ A B, A < 700 → B < 700 → q_mo own h = Int32.ofNat A - Int32.ofNat B → q_bk own h = (Int32.ofNat A - Int32.ofNat B) / 5 := fun A B hA hB hm => by
    unfold q_bk
    rw [hm]
    exact q_d5' hA hB
  obtain rfl | rfl | rfl | rfl : h = 0 ∨ h = 1 ∨ h = 2 ∨ h = 3 := by omega
  · have hm : q_mo own 0 = Int32.ofNat (q_pips own (Int32.ofNat 1) + q_pips own (Int32.ofNat 3)) - Int32.ofNat (q_pips own (Int32.ofNat 0) + q_pips own (Int32.ofNat 2)) := by
      show Int32.ofNat (q_pips own (Int32.ofNat 1)) + Int32.ofNat (q_pips own (Int32.ofNat 3)) - Int32.ofNat (q_pips own (Int32.ofNat 0)) - Int32.ofNat (q_pips own (Int32.ofNat 2)) = _
      rw [q_add, q_ssub]
    rw [key _ _ (by omega) (by omega) hm]
    show _ = (1 : Int32) * _
    rw [Int32.one_mul]
  · have hm : q_mo own 1 = Int32.ofNat (q_pips own (Int32.ofNat 0) + q_pips own (Int32.ofNat 2)) - Int32.ofNat (q_pips own (Int32.ofNat 1) + q_pips own (Int32.ofNat 3)) := by
      show Int32.ofNat (q_pips own (Int32.ofNat 2)) + Int32.ofNat (q_pips own (Int32.ofNat 0)) - Int32.ofNat (q_pips own (Int32.ofNat 1)) - Int32.ofNat (q_pips own (Int32.ofNat 3)) = _
      rw [q_add, q_ssub, Nat.add_comm (q_pips own (Int32.ofNat 2))]
    rw [key _ _ (by omega) (by omega) hm]
    show _ = (-1 : Int32) * _
    rw [Int32.neg_mul, Int32.one_mul, q_d5n (by omega) (by omega)]
  · have hm : q_mo own 2 = Int32.ofNat (q_pips own (Int32.ofNat 1) + q_pips own (Int32.ofNat 3)) - Int32.ofNat (q_pips own (Int32.ofNat 0) + q_pips own (Int32.ofNat 2)) := by
      show Int32.ofNat (q_pips own (Int32.ofNat 3)) + Int32.ofNat (q_pips own (Int32.ofNat 1)) - Int32.ofNat (q_pips own (Int32.ofNat 2)) - Int32.ofNat (q_pips own (Int32.ofNat 0)) = _
      rw [q_add, q_ssub, Nat.add_comm (q_pips own (Int32.ofNat 3)), Nat.add_comm (q_pips own (Int32.ofNat 2))]
    rw [key _ _ (by omega) (by omega) hm]
    show _ = (1 : Int32) * _
    rw [Int32.one_mul]
  · have hm : q_mo own 3 = Int32.ofNat (q_pips own (Int32.ofNat 0) + q_pips own (Int32.ofNat 2)) - Int32.ofNat (q_pips own (Int32.ofNat 1) + q_pips own (Int32.ofNat 3)) := by
      show Int32.ofNat (q_pips own (Int32.ofNat 0)) + Int32.ofNat (q_pips own (Int32.ofNat 2)) - Int32.ofNat (q_pips own (Int32.ofNat 3)) - Int32.ofNat (q_pips own (Int32.ofNat 1)) = _
      rw [q_add, q_ssub, Nat.add_comm (q_pips own (Int32.ofNat 3))]
    rw [key _ _ (by omega) (by omega) hm]
    show _ = (-1 : Int32) * _
    rw [Int32.neg_mul, Int32.one_mul, q_d5n (by omega) (by omega)]
theorem q_hmod {h r r' h' : Nat} (e2 : h' = ((h + 1) % 4 + (r' - (r + 1))) % 4) (e3 : r + 1 ≤ r') : h' = (h + (r' - r)) % 4 ∧ r ≤ r' := by omega
/-- hands that can't lay pass -/
theorem q173_6 (hN : 2000 ≤ N) {rec : am_D → Int32 → Int32 → Int32 → Int32 → Option (Int32 × am_D)} (hw : q_rw sz ts os) (ho : q_ow D sz ts os) (hc : q_cr sz ts os own S) {d le re : Nat} (hd : d ≤ 9) (he : q_en D d le re) (v2 : Int32) : ∀ (j r h k m : Nat), r + j = 4 → h < 4 → j < m → 4 - r ≤ k → ∃ h' r', m173b_L6 rec N D (Int32.ofNat d) v2 (Int32.ofNat S) m (Int32.ofNat h) (Int32.ofNat r) = some (Int32.ofNat h', Int32.ofNat r') ∧ h' = (h + (r' - r)) % 4 ∧ r ≤ r' ∧ r' ≤ 4 ∧ (r < r' → ∀ o', o' < 56 → ¬ q_lg own le re h o') ∧ ((r' = 4 ∧ (0 < j → ∀ g, g < 4 → q_sg h * q_op k own le re h r = q_sg g * q_bk own g)) ∨ (r' < 4 ∧ (∃ o', o' < 56 ∧ q_lg own le re h' o') ∧ q_sg h * q_op k own le re h r = q_sg h' * q_op (k - (r' - r)) own le re h' r'))
  | 0, r, h, k, m + 1, hr, hh, hm, hk => by
    obtain rfl : r = 4 := by omega
    refine ⟨h, 4, ?_, by omega, by omega, by omega, fun q => by omega, Or.inl ⟨rfl, fun q => by omega⟩⟩
    rw [m173b_L6, if_pos (show (4 : Int32) ≤ Int32.ofNat 4 by decide)]
  | j + 1, r, h, k, m + 1, hr, hh, hm, hk => by
    obtain ⟨g1, g2, g3, g4⟩ := q_sg4 h hh
    rw [m173b_L6, if_neg (show ¬ (4 : Int32) ≤ Int32.ofNat r from q_nle (a := r) (b := 4) (by omega) (by omega))]
    rcases q174 hN hw ho hc hd he hh with ⟨h1, h2⟩ | ⟨h1, h2⟩
    · rw [h1, Option.bind_some, if_neg (show ¬ (1 : Int32) = 0 by decide)]
      exact ⟨h, r, rfl, by omega, by omega, by omega, fun q => by omega, Or.inr ⟨by omega, h2, by rw [Nat.sub_self, Nat.sub_zero]⟩⟩
    · rw [h1, Option.bind_some, if_pos rfl]
      simp only [am_lt]
      rw [g3, show Int32.ofNat r + 1 = Int32.ofNat (r + 1) from q_add r 1]
      obtain ⟨k', hk'⟩ : ∃ k', k = k' + 1 := ⟨k - 1, by omega⟩
      have hnone : q_fd (q_op k') own le re h 56 0 none = none := (q_fd_none _ _ _ _ _ 56 0).mpr (fun o' _ h4 => h2 o' (by omega))
      have hop : q_op k own le re h r = if r = 3 then q_bk own h else -q_op k' own le re ((h + 1) % 4) (r + 1) := by
        rw [hk']
        show (match q_fd (q_op k') own le re h 56 0 none with
          | some b => b.1
          | none => if r = 3 then q_bk own h else -q_op k' own le re ((h + 1) % 4) (r + 1)) = _
        rw [hnone]
      have hgg : ∀ g, g < 4 → q_sg h * q_bk own h = q_sg g * q_bk own g := fun g hg => by
        have a := q179 hN hw ho hc hh
        have b := q179 hN hw ho hc hg
        rw [a] at b
        exact Option.some.inj b
      obtain ⟨h', r', e1, e2, e3, e4, e5, e6⟩ := q173_6 hN (rec := rec) hw ho hc hd he v2 j (r + 1) ((h + 1) % 4) k' m (by omega) (by omega) (by omega) (by omega)
      refine ⟨h', r', e1, (q_hmod e2 e3).1, (q_hmod e2 e3).2, e4, fun _ => h2, ?_⟩
      rcases e6 with ⟨f1, f2⟩ | ⟨f1, f2, f3⟩
      · refine Or.inl ⟨f1, fun _ g hg => ?_⟩
        rw [hop]
        by_cases c : r = 3
        · rw [if_pos c]; exact hgg g hg
        · rw [if_neg c, Int32.mul_neg, ← Int32.neg_mul, ← g1]
          exact f2 (by omega) g hg
      · refine Or.inr ⟨f1, f2, ?_⟩
        rw [hop, if_neg (by omega), Int32.mul_neg, ← Int32.neg_mul, ← g1, f3, show k' - (r' - (r + 1)) = k - (r' - r) by omega]
  | _, _, _, _, 0, _, _, hm, _ => by omega
end QH
