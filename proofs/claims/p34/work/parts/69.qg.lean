/-! open hands: the class's masks and rows -/
section QG
variable {D : am_D} {N sz S : Nat} {ts os : Nat → Nat} {own : Nat → Int32}
theorem q_nb1 : ∀ S, S < 512 → ∀ i, i < 9 → ((Int32.ofNat S >>> (Int32.ofNat i &&& 31)) &&& 1 = 0 ↔ S.testBit i = false) := by decide +kernel
theorem q_nb2a : ∀ S, S < 512 → ∀ i, i < 9 → Int32.ofNat S &&& (((1 : Int32) <<< (Int32.ofNat i &&& 31)) ^^^ (-1 : Int32)) = Int32.ofNat (if S.testBit i = true then S ^^^ 2 ^ i else S) := by decide +kernel
theorem q_nb2b (S i j : Nat) (hb : S.testBit i = true) : (S ^^^ 2 ^ i).testBit j = (S.testBit j && decide (j ≠ i)) := by
  rw [Nat.testBit_xor, Nat.testBit_two_pow]
  by_cases c : j = i
  · rw [c, hb]; simp
  · rw [decide_eq_false (show ¬ i = j from fun q => c q.symm), decide_eq_true (show j ≠ i from c), Bool.xor_false, Bool.and_true]
theorem q_nb2c : ∀ i, i < 9 → 2 ^ i < 2 ^ 9 := by decide
theorem q_nb2d (S i : Nat) (hS : S < 2 ^ 9) (hi : i < 9) : S ^^^ 2 ^ i < 2 ^ 9 := Nat.xor_lt_two_pow hS (q_nb2c i hi)
theorem q_nb2 (S : Nat) (hS : S < 512) (i : Nat) (hi : i < 9) (hb : S.testBit i = true) : Int32.ofNat S &&& (((1 : Int32) <<< (Int32.ofNat i &&& 31)) ^^^ (-1 : Int32)) = Int32.ofNat (S ^^^ 2 ^ i) ∧ S ^^^ 2 ^ i < 512 ∧ ∀ j, j < 9 → (S ^^^ 2 ^ i).testBit j = (S.testBit j && decide (j ≠ i)) := by
  have h1 := q_nb2a S hS i hi
  rw [if_pos hb] at h1
  exact ⟨h1, q_nb2d S i hS hi, fun j _ => q_nb2b S i j hb⟩
theorem q_nb3 : ∀ k, k < 10 → (((1 : Int32) <<< (Int32.ofNat k &&& 31)) - (1 : Int32)) = Int32.ofNat (2 ^ k - 1) ∧ 2 ^ k - 1 < 512 ∧ ∀ j, j < 9 → (2 ^ k - 1).testBit j = decide (j < k) := by decide +kernel
/-- a tile is among the first of the row -/
def q_im (ts : Nat → Nat) : Nat → Nat → Nat
  | 0, _ => 0
  | m + 1, t => if ts m = t then 1 else q_im ts m t
theorem q_im_iff : ∀ (m t : Nat), q_im ts m t = 1 ↔ ∃ i, i < m ∧ ts i = t
  | 0, t => ⟨fun h => (by cases h), fun ⟨i, hi, _⟩ => (by omega)⟩
  | m + 1, t => by
    show (if ts m = t then 1 else q_im ts m t) = 1 ↔ _
    by_cases c : ts m = t
    · rw [if_pos c]
      exact ⟨fun _ => ⟨m, by omega, c⟩, fun _ => rfl⟩
    · rw [if_neg c, q_im_iff m t]
      constructor
      · rintro ⟨i, h1, h2⟩; exact ⟨i, by omega, h2⟩
      · rintro ⟨i, h1, h2⟩
        refine ⟨i, ?_, h2⟩
        by_cases d : i = m
        · rw [d] at h2; exact absurd h2 c
        · omega
theorem q_im_S (G : Nat → Nat) : ∀ m : Nat, (∀ i, i < m → ts i < 28) → (∀ i j, i < m → j < m → ts i = ts j → i = j) → q_S (fun i => G (ts i)) 0 m = q_S (fun t => if q_im ts m t = 1 then G t else 0) 0 28
  | 0, _, _ => by
    symm
    exact (q_S_zero 28 0).mpr (fun t _ _ => by rw [if_neg (by intro h; cases h)])
  | m + 1, h1, h2 => by
    rw [q_S_last, Nat.zero_add, q_im_S G m (fun i hi => h1 i (by omega)) (fun i j hi hj => h2 i j (by omega) (by omega))]
    have hm := h1 m (by omega)
    have hnot : ¬ q_im ts m (ts m) = 1 := fun q => by
      obtain ⟨i, hi, e⟩ := (q_im_iff m (ts m)).mp q
      have := h2 i m (by omega) (by omega) e
      omega
    have := q_S_upd (f := fun t => if q_im ts m t = 1 then G t else 0) (g := fun t => if q_im ts (m + 1) t = 1 then G t else 0) (p := ts m) 28 0 (by omega) (by omega) (fun t _ _ ht => by
      show _ = if (if ts m = t then 1 else q_im ts m t) = 1 then G t else 0
      rw [if_neg (show ¬ ts m = t from fun q => ht q.symm)])
    rw [if_neg hnot, if_pos (show q_im ts (m + 1) (ts m) = 1 from if_pos rfl)] at this
    omega
/-- the class's row of tiles, owners; the mask of those that are left -/
def q_rw (sz : Nat) (ts os : Nat → Nat) : Prop := sz ≤ 9 ∧ (∀ i, i < sz → ts i < 28 ∧ os i < 4) ∧ (∀ i j, i < j → j < sz → ts i < ts j)
theorem q_rw_inj (h : q_rw sz ts os) : ∀ i j, i < sz → j < sz → ts i = ts j → i = j := fun i j hi hj e => by
  rcases Nat.lt_trichotomy i j with c | c | c
  · have := h.2.2 i j c hj; omega
  · exact c
  · have := h.2.2 j i c hi; omega
def q_cr (sz : Nat) (ts os : Nat → Nat) (own : Nat → Int32) (S : Nat) : Prop := S < 512 ∧ (∀ i, i < sz → own (ts i) = if S.testBit i = true then Int32.ofNat (os i) else Int32.ofNat 4) ∧ (∀ t, t < 28 → (∀ i, i < sz → ts i ≠ t) → own t = Int32.ofNat 4)
/-- sums over places and over tiles -/
theorem q_cr_S (hw : q_rw sz ts os) (hc : q_cr sz ts os own S) {h : Nat} (hh : h < 4) (w : Nat → Nat) : q_S (fun i => if S.testBit i = true ∧ os i = h then w (ts i) else 0) 0 sz = q_S (fun t => if own t = Int32.ofNat h then w t else 0) 0 28 := by
  have e1 : q_S (fun i => if S.testBit i = true ∧ os i = h then w (ts i) else 0) 0 sz = q_S (fun i => (fun t => if own t = Int32.ofNat h then w t else 0) (ts i)) 0 sz := q_S_congr _ _ (fun i _ hi => by
    have ho := (hw.2.1 i (by omega)).2
    show _ = if own (ts i) = Int32.ofNat h then w (ts i) else 0
    rw [hc.2.1 i (by omega)]
    by_cases c : S.testBit i = true
    · rw [if_pos c]
      by_cases d : os i = h
      · rw [if_pos ⟨c, d⟩, if_pos (by rw [d])]
      · rw [if_neg (fun q => d q.2), if_neg (fun q => d (q_ofN (by omega) (by omega) q))]
    · rw [if_neg c, if_neg (fun q => c q.1), if_neg (fun q => by have := q_ofN (a := 4) (b := h) (by omega) (by omega) q; omega)])
  rw [e1, q_im_S (ts := ts) (fun t => if own t = Int32.ofNat h then w t else 0) sz (fun i hi => (hw.2.1 i hi).1) (q_rw_inj hw)]
  refine q_S_congr _ _ (fun t _ ht => ?_)
  show (if q_im ts sz t = 1 then (if own t = Int32.ofNat h then w t else 0) else 0) = _
  by_cases c : q_im ts sz t = 1
  · rw [if_pos c]
  · rw [if_neg c, hc.2.2 t (by omega) (fun i hi e => c ((q_im_iff sz t).mpr ⟨i, hi, e⟩)), if_neg (fun q => by have := q_ofN (a := 4) (b := h) (by omega) (by omega) q; omega)]
/-- one tile is laid -/
theorem q_cr_up (hw : q_rw sz ts os) (hc : q_cr sz ts os own S) {i : Nat} (hi : i < sz) (hb : S.testBit i = true) : q_cr sz ts os (upd own (ts i) (Int32.ofNat 4)) (S ^^^ 2 ^ i) := by
  have h9 := hw.1
  obtain ⟨-, b1, b2⟩ := q_nb2 S hc.1 i (by omega) hb
  refine ⟨b1, fun j hj => ?_, fun t ht hn => ?_⟩
  · rw [b2 j (by omega)]
    show (if ts j = ts i then Int32.ofNat 4 else own (ts j)) = _
    by_cases c : j = i
    · subst c
      rw [if_pos rfl]
      simp
    · rw [if_neg (fun q => c (q_rw_inj hw j i hj hi q)), hc.2.1 j hj]
      simp [c]
  · show (if t = ts i then Int32.ofNat 4 else own t) = _
    rw [if_neg (fun q => hn i hi q.symm)]
    exact hc.2.2 t ht hn
/-- the rows of the class -/
def q_ow (D : am_D) (sz : Nat) (ts os : Nat → Nat) : Prop := D.1 99 4 = Int32.ofNat sz ∧ ∀ i, i < sz → D.1 100 i = Int32.ofNat (ts i) ∧ D.1 101 i = Int32.ofNat (os i)
theorem q177_L (hw : q_rw sz ts os) (ho : q_ow D sz ts os) {h : Nat} (hS : S < 512) (hh : h < 4) : ∀ (k i a m : Nat), i + k = sz → k < m → m177_L5 N D (Int32.ofNat h) (Int32.ofNat S) m (Int32.ofNat a) (Int32.ofNat i) = some (Int32.ofNat (a + q_S (fun i => if S.testBit i = true ∧ os i = h then 1 else 0) i k))
  | 0, i, a, m + 1, hi, hm => by
    have h9 := hw.1
    obtain rfl : i = sz := by omega
    rw [m177_L5, ho.1, if_pos (q_yle (by omega) (Nat.le_refl _))]
    rfl
  | k + 1, i, a, m + 1, hi, hm => by
    have h9 := hw.1
    have hi' : i < sz := by omega
    have hos := (hw.2.1 i hi').2
    rw [m177_L5, ho.1, if_neg (q_nle (by omega) hi'), q_rt _ (by omega) (show i < 9 by omega), (ho.2 i hi').2]
    simp only [am_lt]
    have e : (if (Int32.ofNat S >>> (Int32.ofNat i &&& 31)) &&& 1 = 0 then (0 : Int32) else (if Int32.ofNat (os i) = Int32.ofNat h then 1 else 0)) = Int32.ofNat (if S.testBit i = true ∧ os i = h then 1 else 0) := by
      have hb := q_nb1 S hS i (by omega)
      by_cases c : S.testBit i = true
      · rw [if_neg (fun q => by rw [hb.mp q] at c; cases c)]
        by_cases d : os i = h
        · rw [if_pos (by rw [d]), if_pos ⟨c, d⟩]; rfl
        · rw [if_neg (fun q => d (q_ofN (by omega) (by omega) q)), if_neg (fun q => d q.2)]; rfl
      · rw [if_pos (hb.mpr (by simpa using c)), if_neg (fun q => c q.1)]; rfl
    rw [e, q_add, show Int32.ofNat i + 1 = Int32.ofNat (i + 1) from q_add i 1, q177_L hw ho hS hh k (i + 1) _ m (by omega) (by omega)]
    congr 2
    exact Nat.add_assoc _ _ _
  | _, _, _, 0, _, hm => by omega
theorem q177 (hN : 2000 ≤ N) (hw : q_rw sz ts os) (ho : q_ow D sz ts os) {h : Nat} (hc : q_cr sz ts os own S) (hh : h < 4) : m177 N D (Int32.ofNat h) (Int32.ofNat S) = some (Int32.ofNat (q_cnt own (Int32.ofNat h))) := by
  have h9 := hw.1
  have h1 := q177_L (N := N) hw ho hc.1 hh sz 0 0 N (by omega) (by omega)
  have h1' : m177_L5 N D (Int32.ofNat h) (Int32.ofNat S) N 0 0 = _ := h1
  unfold m177
  rw [h1', Option.bind_some, Nat.zero_add, q_cr_S hw hc hh (fun _ => 1), q_cnt_def]
theorem q178_L (hw : q_rw sz ts os) (ho : q_ow D sz ts os) {h : Nat} (hS : S < 512) (hh : h < 2) : ∀ (k i a m : Nat), i + k = sz → k < m → m178_L5 N D (Int32.ofNat h) (Int32.ofNat S) m (Int32.ofNat a) (Int32.ofNat i) = some (Int32.ofNat (a + q_S (fun i => if S.testBit i = true ∧ os i % 2 = h then q_pip (ts i) else 0) i k))
  | 0, i, a, m + 1, hi, hm => by
    have h9 := hw.1
    obtain rfl : i = sz := by omega
    rw [m178_L5, ho.1, if_pos (q_yle (by omega) (Nat.le_refl _))]
    rfl
  | k + 1, i, a, m + 1, hi, hm => by
    have h9 := hw.1
    have hi' : i < sz := by omega
    obtain ⟨hts, hos⟩ := hw.2.1 i hi'
    rw [m178_L5, ho.1, if_neg (q_nle (by omega) hi'), q_rt _ (by omega) (show i < 9 by omega), q_rt _ (by omega) (show i < 9 by omega), (ho.2 i hi').2, (ho.2 i hi').1, show (2 : Int32) = Int32.ofNat 2 from rfl, q_mod (by omega) (by omega), q251 hts]
    simp only [am_lt]
    have e : (if (if (Int32.ofNat S >>> (Int32.ofNat i &&& 31)) &&& 1 = 0 then (0 : Int32) else (if Int32.ofNat (os i % 2) = Int32.ofNat h then 1 else 0)) = 0 then (0 : Int32) else Int32.ofNat (q_pip (ts i))) = Int32.ofNat (if S.testBit i = true ∧ os i % 2 = h then q_pip (ts i) else 0) := by
      have hb := q_nb1 S hS i (by omega)
      by_cases c : S.testBit i = true
      · have hb2 : ¬ (Int32.ofNat S >>> (Int32.ofNat i &&& 31)) &&& 1 = 0 := fun q => by rw [hb.mp q] at c; cases c
        rw [if_neg hb2]
        by_cases d : os i % 2 = h
        · rw [if_pos (show Int32.ofNat (os i % 2) = Int32.ofNat h by rw [d]), if_neg (show ¬ (1 : Int32) = 0 by decide), if_pos ⟨c, d⟩]
        · rw [if_neg (show ¬ Int32.ofNat (os i % 2) = Int32.ofNat h from fun q => d (q_ofN (by omega) (by omega) q)), if_pos rfl, if_neg (fun q => d q.2)]; rfl
      · rw [if_pos (show (Int32.ofNat S >>> (Int32.ofNat i &&& 31)) &&& 1 = 0 from hb.mpr (by simpa using c)), if_pos rfl, if_neg (fun q => c q.1)]; rfl
    rw [e, q_add, show Int32.ofNat i + 1 = Int32.ofNat (i + 1) from q_add i 1, q178_L hw ho hS hh k (i + 1) _ m (by omega) (by omega)]
    congr 2
    exact Nat.add_assoc _ _ _
  | _, _, _, 0, _, hm => by omega
theorem q178 (hN : 2000 ≤ N) (hw : q_rw sz ts os) (ho : q_ow D sz ts os) {h : Nat} (hc : q_cr sz ts os own S) (hh : h < 2) : m178 N D (Int32.ofNat h) (Int32.ofNat S) = some (Int32.ofNat (q_pips own (Int32.ofNat h) + q_pips own (Int32.ofNat (h + 2)))) := by
  have h9 := hw.1
  have h1 := q178_L (N := N) hw ho hc.1 hh sz 0 0 N (by omega) (by omega)
  have h1' : m178_L5 N D (Int32.ofNat h) (Int32.ofNat S) N 0 0 = _ := h1
  unfold m178
  rw [h1', Option.bind_some, Nat.zero_add]
  congr 2
  rw [q_pips_def, q_pips_def, ← q_cr_S hw hc (show h < 4 by omega) q_pip, ← q_cr_S hw hc (show h + 2 < 4 by omega) q_pip, ← q_S_add]
  refine q_S_congr _ _ (fun i _ hi => ?_)
  have hos := (hw.2.1 i (by omega)).2
  by_cases c : S.testBit i = true
  · by_cases d : os i % 2 = h
    · rw [if_pos ⟨c, d⟩]
      by_cases e : os i = h
      · rw [if_pos ⟨c, e⟩, if_neg (fun q => by have := q.2; omega)]; rfl
      · rw [if_neg (fun q => e q.2), if_pos ⟨c, by omega⟩, Nat.zero_add]
    · rw [if_neg (fun q => d q.2), if_neg (fun q => by have := q.2; omega), if_neg (fun q => by have := q.2; omega)]
  · rw [if_neg (fun q => c q.1), if_neg (fun q => c q.1), if_neg (fun q => c q.1)]
end QG
