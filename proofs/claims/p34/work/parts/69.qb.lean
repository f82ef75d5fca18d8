/-! open hands: what the model's loop is made of -/
section QB
variable {D E : am_D} {N : Nat}
theorem o130 : ∀ a, a < 16 → ∀ b, b < 16 → m130 (Int32.ofNat a) (Int32.ofNat b) = Int32.ofNat (q_wt a + q_wt b) := by decide +kernel
theorem o131 (hB : q_B D) {t e : Nat} (ht : t < 28) (he : e < 16) (he7 : e % 8 < 7) (hs : q_lo t = e % 8 ∨ q_hi t = e % 8) : m131 D (Int32.ofNat t) (Int32.ofNat e) = some (Int32.ofNat (q_eb t e)) := by
  obtain ⟨-, -, hp⟩ := q_eb_ok t ht e he he7 hs
  unfold m131 q_eb
  rw [q52 hB ht, Option.bind_some]
  by_cases c : q_lo t = q_hi t
  · rw [if_pos c, if_neg (show ¬ Int32.ofNat 1 = 0 by decide), if_pos (show 0 ≤ Int32.ofNat t ∧ Int32.ofNat t < 28 from q_in (n := 28) (by omega) ht), q_tn (by omega), (hB t ht).1, if_pos c, show (8 : Int32) = Int32.ofNat 8 from rfl, q_add]
  · rw [if_neg c, if_pos (show Int32.ofNat 0 = 0 from rfl), if_neg c, show (8 : Int32) = Int32.ofNat 8 from rfl, q_mod (by omega) (by omega), q54 hB ht, Option.bind_some, q_sub hp]
theorem q136_L (hB : q_B D) {v : Int32} : ∀ (k i a m : Nat), i + k = 28 → k < m → m136_L4 N D v m (Int32.ofNat a) (Int32.ofNat i) = some (Int32.ofNat (a + q_S (fun t => if D.1 115 t = v then q_pip t else 0) i k))
  | 0, i, a, m + 1, hi, hm => by
    obtain rfl : i = 28 := by omega
    rw [m136_L4, if_pos (show (28 : Int32) ≤ Int32.ofNat 28 by decide)]
    rfl
  | k + 1, i, a, m + 1, hi, hm => by
    have h28 : i < 28 := by omega
    rw [m136_L4, if_neg (show ¬ (28 : Int32) ≤ Int32.ofNat i from q_nle (a := i) (b := 28) (by omega) h28), if_pos (show 0 ≤ Int32.ofNat i ∧ Int32.ofNat i < 28 from q_in (n := 28) (by omega) h28), q_tn (by omega), q51 hB h28]
    simp only [am_lt]
    have e : (if D.1 115 i = v then ((some (Int32.ofNat (q_pip i)) : Option Int32).bind fun q7 => some q7) else some 0) = some (Int32.ofNat (if D.1 115 i = v then q_pip i else 0)) := by
      by_cases c : D.1 115 i = v
      · rw [if_pos c, if_pos c]; rfl
      · rw [if_neg c, if_neg c]; rfl
    rw [e, Option.bind_some, q_add, show Int32.ofNat i + 1 = Int32.ofNat (i + 1) from q_add i 1, q136_L hB k (i + 1) _ m (by omega) (by omega)]
    congr 2
    exact Nat.add_assoc _ _ _
  | _, _, _, 0, _, hm => by omega
theorem q136 (hN : 2000 ≤ N) (hB : q_B D) (v : Int32) : m136 N D v = some (Int32.ofNat (q_pips (D.1 115) v)) := by
  have h := q136_L (N := N) hB (v := v) 28 0 0 N (by omega) (by omega)
  have h' : m136_L4 N D v N 0 0 = _ := h
  unfold m136
  rw [h', Option.bind_some, Nat.zero_add, q_pips_def]
theorem q137_L {v : Int32} : ∀ (k i b m : Nat), i + k = 28 → k < m → b ≤ 1 → m137_L4 N D v m (Int32.ofNat b) (Int32.ofNat i) = some (Int32.ofNat (if b = 1 ∧ q_S (fun t => if D.1 115 t = v then 1 else 0) i k = 0 then 1 else 0))
  | 0, i, b, m + 1, hi, hm, hb => by
    obtain rfl : i = 28 := by omega
    rw [m137_L4, if_pos (show (28 : Int32) ≤ Int32.ofNat 28 by decide)]
    obtain rfl | rfl : b = 0 ∨ b = 1 := by omega
    · rfl
    · rfl
  | k + 1, i, b, m + 1, hi, hm, hb => by
    have h28 : i < 28 := by omega
    rw [m137_L4, if_neg (show ¬ (28 : Int32) ≤ Int32.ofNat i from q_nle (a := i) (b := 28) (by omega) h28), if_pos (show 0 ≤ Int32.ofNat i ∧ Int32.ofNat i < 28 from q_in (n := 28) (by omega) h28), q_tn (by omega)]
    simp only [am_lt]
    have e : (if Int32.ofNat b = 0 then (some (0 : Int32)) else (if D.1 115 i = v then (some (0 : Int32)) else (some (1 : Int32)))) = some (Int32.ofNat (if b = 1 ∧ ¬ D.1 115 i = v then 1 else 0)) := by
      obtain rfl | rfl : b = 0 ∨ b = 1 := by omega
      · rfl
      · rw [if_neg (show ¬ Int32.ofNat 1 = 0 by decide)]
        by_cases c : D.1 115 i = v
        · rw [if_pos c, if_neg (fun q => q.2 c)]; rfl
        · rw [if_neg c, if_pos ⟨rfl, c⟩]; rfl
    rw [e, Option.bind_some, show Int32.ofNat i + 1 = Int32.ofNat (i + 1) from q_add i 1, q137_L k (i + 1) _ m (by omega) (by omega) (by split <;> omega)]
    congr 2
    show _ = (if b = 1 ∧ (if D.1 115 i = v then 1 else 0) + q_S _ (i + 1) k = 0 then 1 else 0)
    generalize q_S (fun t => if D.1 115 t = v then 1 else 0) (i + 1) k = s
    by_cases c : D.1 115 i = v
    · simp [c]
    · simp [c]
  | _, _, _, 0, _, hm, _ => by omega
theorem q137 (hN : 2000 ≤ N) (v : Int32) : m137 N D v = some (Int32.ofNat (if q_cnt (D.1 115) v = 0 then 1 else 0)) := by
  have h := q137_L (N := N) (D := D) (v := v) 28 0 1 N (by omega) (by omega) (by omega)
  have h' : m137_L4 N D v N 1 0 = _ := h
  unfold m137
  rw [h', Option.bind_some, q_cnt_def]
  simp only [true_and]
  by_cases c : q_S (fun t => if D.1 115 t = v then 1 else 0) 0 28 = 0
  · rw [if_pos c]; rfl
  · rw [if_neg c]; rfl
/-- the next tile that can be laid -/
theorem q138_L (hB : q_B D) {own : Nat → Int32} {le re h d : Nat} (hd : d < 63) (hown : ∀ t, t < 28 → D.1 115 t = own t) (hle : D.1 120 d = Int32.ofNat le) (hre : D.1 121 d = Int32.ofNat re) (le16 : le < 16) (re16 : re < 16) : ∀ (j o m : Nat), o + j = 56 → j < m → (∃ r, m138_L7 N D (Int32.ofNat d) (Int32.ofNat h) m (Int32.ofNat o) = some (0, r) ∧ ∀ o', o ≤ o' → o' < o + j → ¬ q_lg own le re h o') ∨ (∃ i, i < j ∧ q_lg own le re h (o + i) ∧ (∀ o', o ≤ o' → o' < o + i → ¬ q_lg own le re h o') ∧ m138_L7 N D (Int32.ofNat d) (Int32.ofNat h) m (Int32.ofNat o) = some (1, Int32.ofNat (o + i), Int32.ofNat (if (o + i) % 2 = 0 then le else re)))
  | 0, o, m + 1, ho, hm => by
    left
    obtain rfl : o = 56 := by omega
    rw [m138_L7, if_pos (show (56 : Int32) ≤ Int32.ofNat 56 by decide)]
    exact ⟨_, rfl, fun o' h1 h2 => by omega⟩
  | j + 1, o, m + 1, ho, hm => by
    have h56 : o < 56 := by omega
    have ht : o / 2 < 28 := by omega
    have i64 : 0 ≤ Int32.ofNat d ∧ Int32.ofNat d < 64 := q_in (n := 64) (by omega) (by omega)
    have i28 : 0 ≤ Int32.ofNat (o / 2) ∧ Int32.ofNat (o / 2) < 28 := q_in (n := 28) (by omega) ht
    have eend : (if Int32.ofNat (o % 2) = 0 then (if 0 ≤ Int32.ofNat d ∧ Int32.ofNat d < 64 then some (D.1 120 (Int32.ofNat d).toNatClampNeg) else none) else (if 0 ≤ Int32.ofNat d ∧ Int32.ofNat d < 64 then some (D.1 121 (Int32.ofNat d).toNatClampNeg) else none)) = some (Int32.ofNat (if o % 2 = 0 then le else re)) := by
      rw [if_pos i64, if_pos i64, q_tn (by omega), hle, hre]
      by_cases c : o % 2 = 0
      · rw [if_pos (show Int32.ofNat (o % 2) = 0 by rw [c]; rfl), if_pos c]
      · rw [if_neg (show ¬ Int32.ofNat (o % 2) = 0 from fun q => c (q_ofN (b := 0) (by omega) (by omega) q)), if_neg c]
    have e8 : (if o % 2 = 0 then le else re) < 16 := by split <;> omega
    rw [m138_L7, if_neg (show ¬ (56 : Int32) ≤ Int32.ofNat o from q_nle (a := o) (b := 56) (by omega) h56), show (2 : Int32) = Int32.ofNat 2 from rfl, q_mod (by omega) (by omega), q_div (by omega) (by omega), eend, Option.bind_some, if_pos i28, q_tn (by omega), hown _ ht, show (8 : Int32) = Int32.ofNat 8 from rfl, q_mod (by omega) (by omega), q53 hB ht]
    simp only [am_lt]
    rw [show Int32.ofNat o + 1 = Int32.ofNat (o + 1) from q_add o 1]
    have hq : q_sh (o / 2) (Int32.ofNat ((if o % 2 = 0 then le else re) % 8)) ↔ (q_lo (o / 2) = (if o % 2 = 0 then le else re) % 8 ∨ q_hi (o / 2) = (if o % 2 = 0 then le else re) % 8) := by
      have a1 := q_lo7 _ ht
      have a2 := q_hi7 _ ht
      constructor
      · exact fun q => q.imp (fun z => q_ofN (by omega) (by omega) z) (fun z => q_ofN (by omega) (by omega) z)
      · exact fun q => q.imp (fun z => by rw [z]) (fun z => by rw [z])
    by_cases c : q_lg own le re h o
    · right
      refine ⟨0, by omega, by rw [Nat.add_zero]; exact c, fun o' h1 h2 => by omega, ?_⟩
      rw [if_pos c.1, if_pos (hq.mpr c.2), Option.bind_some, if_neg (show ¬ (1 : Int32) = 0 by decide), Nat.add_zero]
    · have hstep : (if own (o / 2) = Int32.ofNat h then ((some (if q_sh (o / 2) (Int32.ofNat ((if o % 2 = 0 then le else re) % 8)) then (1 : Int32) else 0)).bind fun q13 => (if q13 = 0 then (m138_L7 N D (Int32.ofNat d) (Int32.ofNat h) m (Int32.ofNat (o + 1))) else (some (1, Int32.ofNat o, Int32.ofNat (if o % 2 = 0 then le else re))))) else m138_L7 N D (Int32.ofNat d) (Int32.ofNat h) m (Int32.ofNat (o + 1))) = m138_L7 N D (Int32.ofNat d) (Int32.ofNat h) m (Int32.ofNat (o + 1)) := by
        by_cases c1 : own (o / 2) = Int32.ofNat h
        · rw [if_pos c1, if_neg (fun q => c ⟨c1, hq.mp q⟩), Option.bind_some, if_pos rfl]
        · rw [if_neg c1]
      rw [hstep]
      rcases q138_L hB hd hown hle hre le16 re16 j (o + 1) m (by omega) (by omega) with ⟨r, h1, h2⟩ | ⟨i, h1, h2, h3, h4⟩
      · left
        refine ⟨r, h1, fun o' h3 h4 => ?_⟩
        by_cases q : o' = o
        · rw [q]; exact c
        · exact h2 o' (by omega) (by omega)
      · right
        refine ⟨i + 1, by omega, by rw [show o + (i + 1) = o + 1 + i by omega]; exact h2, fun o' h5 h6 => ?_, by rw [show o + (i + 1) = o + 1 + i by omega]; exact h4⟩
        by_cases q : o' = o
        · rw [q]; exact c
        · exact h3 o' (by omega) (by omega)
  | _, _, 0, _, hm => by omega
/-- nothing is left to try -/
theorem q138_0 (hN : 2000 ≤ N) (hB : q_B D) {own : Nat → Int32} {le re h d o : Nat} (hd : d < 63) (ho : o ≤ 56) (hown : ∀ t, t < 28 → D.1 115 t = own t) (hle : D.1 120 d = Int32.ofNat le) (hre : D.1 121 d = Int32.ofNat re) (le16 : le < 16) (re16 : re < 16) (ht : D.1 116 d = Int32.ofNat o) (hn : ∀ o', o ≤ o' → o' < 56 → ¬ q_lg own le re h o') : m138 N D (Int32.ofNat d) (Int32.ofNat h) = some (0, am_uI D 116 d 56) := by
  have i64 : 0 ≤ Int32.ofNat d ∧ Int32.ofNat d < 64 := q_in (n := 64) (by omega) (by omega)
  unfold m138
  rw [if_pos i64, q_tn (by omega), ht]
  simp only [am_lt]
  rcases q138_L (N := N) (h := h) hB hd hown hle hre le16 re16 (56 - o) o N (by omega) (by omega) with ⟨r, h1, -⟩ | ⟨i, h1, h2, -⟩
  · rw [h1, Option.bind_some]
    dsimp only
    rw [if_pos rfl, if_pos i64]
  · exact absurd h2 (hn (o + i) (by omega) (by omega))
/-- a tile is tried -/
theorem q138_1 (hN : 2000 ≤ N) (hB : q_B D) {own : Nat → Int32} {le re h d o : Nat} (hd : d < 63) (ho : o ≤ 56) (hown : ∀ t, t < 28 → D.1 115 t = own t) (hle : D.1 120 d = Int32.ofNat le) (hre : D.1 121 d = Int32.ofNat re) (le16 : le < 16) (re16 : re < 16) (le7 : le % 8 < 7) (re7 : re % 8 < 7) (ht : D.1 116 d = Int32.ofNat o) (hy : ∃ o', o ≤ o' ∧ o' < 56 ∧ q_lg own le re h o') : ∃ o1 E, o ≤ o1 ∧ o1 < 56 ∧ q_lg own le re h o1 ∧ (∀ o', o ≤ o' → o' < o1 → ¬ q_lg own le re h o') ∧ m138 N D (Int32.ofNat d) (Int32.ofNat h) = some (1, E) ∧
    (∀ t, t < 28 → E.1 115 t = upd own (o1 / 2) (Int32.ofNat 4) t) ∧ (∀ j, E.1 116 j = if j = d then Int32.ofNat (o1 + 1) else D.1 116 j) ∧ (∀ j, E.1 118 j = if j = d then Int32.ofNat (o1 / 2) else D.1 118 j) ∧ (∀ j, E.1 119 j = if j = d then Int32.ofNat (q_gn le re o1) else D.1 119 j) ∧ (∀ j, E.1 120 j = if j = d + 1 then Int32.ofNat (q_l1' le o1) else D.1 120 j) ∧ (∀ j, E.1 121 j = if j = d + 1 then Int32.ofNat (q_r1' re o1) else D.1 121 j) ∧ (∀ j, E.1 123 j = if j = d + 1 then Int32.ofNat 0 else D.1 123 j) ∧ (∀ a, a < 115 ∨ a = 117 ∨ a = 122 ∨ 123 < a → E.1 a = D.1 a) ∧ E.2 = D.2 := by
  have i64 : 0 ≤ Int32.ofNat d ∧ Int32.ofNat d < 64 := q_in (n := 64) (by omega) (by omega)
  have i64' : 0 ≤ Int32.ofNat d + 1 ∧ Int32.ofNat d + 1 < 64 := by
    rw [show Int32.ofNat d + 1 = Int32.ofNat (d + 1) from q_add d 1]; exact q_in (n := 64) (by omega) (by omega)
  have n64 : (Int32.ofNat d).toNatClampNeg = d := q_tn (by omega)
  have n64' : (Int32.ofNat d + 1).toNatClampNeg = d + 1 := by rw [show Int32.ofNat d + 1 = Int32.ofNat (d + 1) from q_add d 1, q_tn (by omega)]
  rcases q138_L (N := N) (h := h) hB hd hown hle hre le16 re16 (56 - o) o N (by omega) (by omega) with ⟨r, -, h2⟩ | ⟨i, h1, h2, h3, h4⟩
  · obtain ⟨o', g1, g2, g3⟩ := hy
    exact absurd g3 (h2 o' g1 (by omega))
  · obtain ⟨o1, ho1⟩ : ∃ o1, o1 = o + i := ⟨_, rfl⟩
    rw [← ho1] at h2 h3 h4
    have ht28 : o1 / 2 < 28 := by omega
    have i28 : 0 ≤ Int32.ofNat (o1 / 2) ∧ Int32.ofNat (o1 / 2) < 28 := q_in (n := 28) (by omega) ht28
    have n28 : (Int32.ofNat (o1 / 2)).toNatClampNeg = o1 / 2 := q_tn (by omega)
    obtain ⟨e, he⟩ : ∃ e, e = (if o1 % 2 = 0 then le else re) := ⟨_, rfl⟩
    have h2' : q_lo (o1 / 2) = e % 8 ∨ q_hi (o1 / 2) = e % 8 := by rw [he]; exact h2.2
    have e16 : e < 16 := by rw [he]; split <;> omega
    have e7 : e % 8 < 7 := by rw [he]; split <;> omega
    rw [← he] at h4
    obtain ⟨b1, b2, b3⟩ := q_eb_ok _ ht28 e e16 e7 h2'
    have e131 := o131 hB ht28 e16 e7 h2'
    have d2 : (2 : Int32) = Int32.ofNat 2 := rfl
    have l1 : q_l1' le o1 < 16 ∧ q_l1' le o1 % 8 < 7 ∧ q_r1' re o1 < 16 ∧ q_r1' re o1 % 8 < 7 := by
      unfold q_l1' q_r1'
      by_cases c : o1 % 2 = 0
      · rw [if_pos c] at he
        rw [if_pos c, if_neg (show ¬ o1 % 2 = 1 by omega), ← he]
        omega
      · rw [if_neg c] at he
        rw [if_neg c, if_pos (show o1 % 2 = 1 by omega), ← he]
        omega
    have w1 := q_wt_le _ l1.1 l1.2.1
    have w2 := q_wt_le _ l1.2.2.1 l1.2.2.2
    -- the states on the way
    obtain ⟨D35, hD35⟩ : ∃ D35, D35 = am_uI (am_uI (am_uI D 116 d (Int32.ofNat (o1 + 1))) 118 d (Int32.ofNat (o1 / 2))) 115 (o1 / 2) 4 := ⟨_, rfl⟩
    obtain ⟨D43, hD43⟩ : ∃ D43, D43 = am_uI D35 120 (d + 1) (Int32.ofNat (q_l1' le o1)) := ⟨_, rfl⟩
    obtain ⟨D51, hD51⟩ : ∃ D51, D51 = am_uI D43 121 (d + 1) (Int32.ofNat (q_r1' re o1)) := ⟨_, rfl⟩
    have g120 : D35.1 120 d = Int32.ofNat le := by rw [hD35, q_uI_ne _ (by omega), q_uI_ne _ (by omega), q_uI_ne _ (by omega)]; exact hle
    have g121 : D43.1 121 d = Int32.ofNat re := by rw [hD43, hD35, q_uI_ne _ (by omega), q_uI_ne _ (by omega), q_uI_ne _ (by omega), q_uI_ne _ (by omega)]; exact hre
    have q38 : (if Int32.ofNat (o1 % 2) = 0 then (some (Int32.ofNat (q_eb (o1 / 2) e))) else (some (D35.1 120 d))) = some (Int32.ofNat (q_l1' le o1)) := by
      unfold q_l1'
      by_cases c : o1 % 2 = 0
      · rw [if_pos c] at he
        rw [if_pos (show Int32.ofNat (o1 % 2) = 0 by rw [c]; rfl), if_pos c, he]
      · rw [if_neg (show ¬ Int32.ofNat (o1 % 2) = 0 from fun q => c (q_ofN (b := 0) (by omega) (by omega) q)), if_neg c, g120]
    have q46' : (if Int32.ofNat (o1 % 2) = (1 : Int32) then (some (Int32.ofNat (q_eb (o1 / 2) e))) else (some (D43.1 121 d))) = some (Int32.ofNat (q_r1' re o1)) := by
      unfold q_r1'
      by_cases c : o1 % 2 = 1
      · rw [if_neg (by omega)] at he
        rw [if_pos (show Int32.ofNat (o1 % 2) = (1 : Int32) by rw [c]; rfl), if_pos c, he]
      · rw [if_neg (show ¬ Int32.ofNat (o1 % 2) = (1 : Int32) from fun q => c (q_ofN (b := 1) (by omega) (by omega) q)), if_neg c, g121]
    obtain ⟨D54, hD54⟩ : ∃ D54, D54 = am_uI D51 123 (d + 1) 0 := ⟨_, rfl⟩
    have v120 : D54.1 120 (d + 1) = Int32.ofNat (q_l1' le o1) := by rw [hD54, hD51, hD43, q_uI_ne _ (by omega), q_uI_ne _ (by omega), q_uIs]
    have v121 : D54.1 121 (d + 1) = Int32.ofNat (q_r1' re o1) := by rw [hD54, hD51, q_uI_ne _ (by omega), q_uIs]
    have hgn : m65 (m130 (Int32.ofNat (q_l1' le o1)) (Int32.ofNat (q_r1' re o1))) = Int32.ofNat (q_gn le re o1) := by
      rw [o130 _ l1.1 _ l1.2.2.1, (q_fi1 _ (by omega)).2]
      rfl
    refine ⟨o1, am_uI D54 119 d (Int32.ofNat (q_gn le re o1)), by omega, by omega, h2, h3, ?_, fun t ht' => ?_, fun j => ?_, fun j => ?_, fun j => ?_, fun j => ?_, fun j => ?_, fun j => ?_, fun a ha => ?_, ?_⟩
    · unfold m138
      rw [if_pos i64, n64, ht]
      simp only [am_lt]
      rw [h4, Option.bind_some]
      dsimp only
      rw [if_neg (show ¬ (1 : Nat) = 0 by omega), d2, q_mod (by omega) (by omega), q_div (by omega) (by omega), o131 hB ht28 e16 e7 h2', Option.bind_some, show Int32.ofNat o1 + 1 = Int32.ofNat (o1 + 1) from q_add o1 1]
      simp only [i64, i64', i28, and_self, if_true, n64, n64', n28]
      rw [← hD35, q38, Option.bind_some, ← hD43, q46', Option.bind_some, ← hD51, ← hD54, v120, v121, hgn]
    · rw [hD54, hD51, hD43, hD35, q_uI_ne _ (by omega), q_uI_ne _ (by omega), q_uI_ne _ (by omega), q_uI_ne _ (by omega), q_uI_at, q_uI_ne _ (by omega), q_uI_ne _ (by omega), hown t ht']
      unfold upd
      by_cases c : t = o1 / 2
      · rw [if_pos ⟨rfl, c⟩, if_pos c]; rfl
      · rw [if_neg (fun q => c q.2), if_neg c]
    · rw [hD54, hD51, hD43, hD35, q_uI_ne _ (by omega), q_uI_ne _ (by omega), q_uI_ne _ (by omega), q_uI_ne _ (by omega), q_uI_ne _ (by omega), q_uI_ne _ (by omega), q_uI_at]
      by_cases c : j = d
      · rw [if_pos ⟨rfl, c⟩, if_pos c]
      · rw [if_neg (fun q => c q.2), if_neg c]
    · rw [hD54, hD51, hD43, hD35, q_uI_ne _ (by omega), q_uI_ne _ (by omega), q_uI_ne _ (by omega), q_uI_ne _ (by omega), q_uI_ne _ (by omega), q_uI_at, q_uI_ne _ (by omega)]
      by_cases c : j = d
      · rw [if_pos ⟨rfl, c⟩, if_pos c]
      · rw [if_neg (fun q => c q.2), if_neg c]
    · rw [q_uI_at, hD54, hD51, hD43, hD35, q_uI_ne _ (by omega), q_uI_ne _ (by omega), q_uI_ne _ (by omega), q_uI_ne _ (by omega), q_uI_ne _ (by omega), q_uI_ne _ (by omega)]
      by_cases c : j = d
      · rw [if_pos ⟨rfl, c⟩, if_pos c]
      · rw [if_neg (fun q => c q.2), if_neg c]
    · rw [hD54, hD51, hD43, hD35, q_uI_ne _ (by omega), q_uI_ne _ (by omega), q_uI_ne _ (by omega), q_uI_at, q_uI_ne _ (by omega), q_uI_ne _ (by omega), q_uI_ne _ (by omega)]
      by_cases c : j = d + 1
      · rw [if_pos ⟨rfl, c⟩, if_pos c]
      · rw [if_neg (fun q => c q.2), if_neg c]
    · rw [hD54, hD51, hD43, hD35, q_uI_ne _ (by omega), q_uI_ne _ (by omega), q_uI_at, q_uI_ne _ (by omega), q_uI_ne _ (by omega), q_uI_ne _ (by omega), q_uI_ne _ (by omega)]
      by_cases c : j = d + 1
      · rw [if_pos ⟨rfl, c⟩, if_pos c]
      · rw [if_neg (fun q => c q.2), if_neg c]
    · rw [hD54, hD51, hD43, hD35, q_uI_ne _ (by omega), q_uI_at, q_uI_ne _ (by omega), q_uI_ne _ (by omega), q_uI_ne _ (by omega), q_uI_ne _ (by omega), q_uI_ne _ (by omega)]
      by_cases c : j = d + 1
      · rw [if_pos ⟨rfl, c⟩, if_pos c]; rfl
      · rw [if_neg (fun q => c q.2), if_neg c]
    · rw [hD54, hD51, hD43, hD35, q_uI_ne _ (by omega), q_uI_ne _ (by omega), q_uI_ne _ (by omega), q_uI_ne _ (by omega), q_uI_ne _ (by omega), q_uI_ne _ (by omega), q_uI_ne _ (by omega)]
    · rw [hD54, hD51, hD43, hD35]; rfl
theorem q139 {d : Nat} (hd : d < 64) : m139 D (Int32.ofNat d) = some (am_uI (am_uI (am_uI D 116 d 0) 122 d 0) 117 d 0) := by
  have i64 : 0 ≤ Int32.ofNat d ∧ Int32.ofNat d < 64 := q_in (n := 64) (by omega) hd
  unfold m139
  simp only [am_lt, i64, and_self, if_true, q_tn (show d < 2147483648 by omega)]
end QB
