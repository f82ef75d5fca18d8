/-! what holds between the calls; what leaves it as it is -/
theorem q_C4_eq {c c' : Nat → Nat → Int32} {s s' : Nat → Int32} {n p : Nat} {T V : Nat → Nat} (hc : ∀ i, i ≤ 10 → c' i = c i) (hs : s' = s) (h : q_C4 c s n p T V) : q_C4 c' s' n p T V := by
  subst hs
  unfold q_C4 q_ch q_pl q_hd q_gl at h ⊢
  rw [hc 0 (by omega), hc 1 (by omega), hc 2 (by omega), hc 3 (by omega), hc 4 (by omega), hc 5 (by omega), hc 6 (by omega), hc 7 (by omega), hc 8 (by omega), hc 9 (by omega), hc 10 (by omega)]
  exact h
theorem q_C_eq {c c' : Nat → Nat → Int32} {s s' : Nat → Int32} (hc : ∀ i, i ≤ 10 → c' i = c i) (hs : s' = s) (h : q_C c s) : q_C c' s' := by
  obtain ⟨n, p, T, V, h⟩ := h
  exact ⟨n, p, T, V, q_C4_eq hc hs h⟩
/-- ways to take so many of so many -/
def q_bin : Nat → Nat → Nat
  | _, 0 => 1
  | 0, _ + 1 => 0
  | n + 1, k + 1 => q_bin n k + q_bin n (k + 1)
def q_I (D : am_D) : Prop := q_B D ∧ q_C (q_c D 1) (q_s D 0) ∧
  (D.1 0 7 = D.1 106 3 ∧ (D.1 106 3 = 0 ∨ D.1 106 3 = 1) ∧ (D.1 106 3 = 1 → q_C (q_c D 12) (q_s D 7))) ∧
  (∃ o m, o < 6 ∧ m ≤ 6 ∧ D.1 23 1 = Int32.ofNat o ∧ D.1 23 2 = Int32.ofNat m ∧ D.1 106 2 = Int32.ofNat m ∧ ∀ j, j < m → q_C (q_c D (25 + 11 * ((o + j) % 6))) (q_s D (j + 1))) ∧
  (∃ l, l ≤ 60 ∧ D.1 91 1 = Int32.ofNat l ∧ D.1 106 5 = Int32.ofNat l ∧ ∀ k, k < l → D.1 92 k = D.1 108 k ∧ ∃ w, 33 ≤ w ∧ w ≤ 126 ∧ D.1 108 k = Int32.ofNat w) ∧
  (∀ f, f < 22 → ∀ t, t ≤ f → D.2.1 98 (f * 22 + t) = Int64.ofNat (q_bin f t))
/-- only what is written ahead of each use differs -/
def q_E (D D' : am_D) : Prop := (∀ a, a ≤ 92 ∨ (107 ≤ a ∧ a ≤ 110) → D'.1 a = D.1 a) ∧ (D'.1 106 2 = D.1 106 2 ∧ D'.1 106 3 = D.1 106 3 ∧ D'.1 106 5 = D.1 106 5) ∧ D'.2.1 98 = D.2.1 98
theorem q_E.rf (D : am_D) : q_E D D := ⟨fun _ _ => rfl, ⟨rfl, rfl, rfl⟩, rfl⟩
theorem q_E.tr {D D' D'' : am_D} (h : q_E D D') (k : q_E D' D'') : q_E D D'' := ⟨fun a ha => (k.1 a ha).trans (h.1 a ha), ⟨k.2.1.1.trans h.2.1.1, k.2.1.2.1.trans h.2.1.2.1, k.2.1.2.2.trans h.2.1.2.2⟩, k.2.2.trans h.2.2⟩
theorem q_E_uI {D : am_D} {a j : Nat} {x : Int32} (h : (92 < a ∧ a < 106) ∨ 110 < a ∨ (a = 106 ∧ j ≠ 2 ∧ j ≠ 3 ∧ j ≠ 5)) : q_E D (am_uI D a j x) := by
  refine ⟨fun b hb => ?_, ⟨?_, ?_, ?_⟩, rfl⟩
  · funext i
    show (if b = a ∧ i = j then x else D.1 b i) = D.1 b i
    rw [if_neg (by omega)]
  · show (if 106 = a ∧ 2 = j then x else D.1 106 2) = D.1 106 2
    rw [if_neg (by omega)]
  · show (if 106 = a ∧ 3 = j then x else D.1 106 3) = D.1 106 3
    rw [if_neg (by omega)]
  · show (if 106 = a ∧ 5 = j then x else D.1 106 5) = D.1 106 5
    rw [if_neg (by omega)]
theorem q_E_uR {D : am_D} {a : Nat} {f : Nat → Int32} (h : (92 < a ∧ a < 106) ∨ 110 < a) : q_E D (am_uR D a f) := by
  refine ⟨fun b hb => ?_, ⟨?_, ?_, ?_⟩, rfl⟩
  · funext i
    show (if b = a then f i else D.1 b i) = D.1 b i
    rw [if_neg (by omega)]
  · show (if 106 = a then f 2 else D.1 106 2) = D.1 106 2
    rw [if_neg (by omega)]
  · show (if 106 = a then f 3 else D.1 106 3) = D.1 106 3
    rw [if_neg (by omega)]
  · show (if 106 = a then f 5 else D.1 106 5) = D.1 106 5
    rw [if_neg (by omega)]
theorem q_E_uJ {D : am_D} {a j : Nat} {x : Int64} (h : a ≠ 98) : q_E D (am_uJ D a j x) := by
  refine ⟨fun b hb => rfl, ⟨rfl, rfl, rfl⟩, ?_⟩
  funext i
  show (if 98 = a ∧ i = j then x else D.2.1 98 i) = D.2.1 98 i
  rw [if_neg (by omega)]
theorem q_E_uK {D : am_D} {a j : Nat} {x : UInt64} : q_E D (am_uK D a j x) := ⟨fun _ _ => rfl, ⟨rfl, rfl, rfl⟩, rfl⟩
theorem q_E_c {D D' : am_D} (h : q_E D D') {b : Nat} (hb : b ≤ 80) : ∀ i, i ≤ 10 → q_c D' b i = q_c D b i := fun i hi => h.1 (b + i) (Or.inl (by omega))
theorem q_E_s {D D' : am_D} (h : q_E D D') (o : Nat) : q_s D' o = q_s D o := by
  unfold q_s
  rw [h.1 107 (Or.inr (by omega))]
theorem q_E_K {D D' : am_D} (h : q_E D D') {n p : Nat} {T V : Nat → Nat} (k : q_K D n p T V) : q_K D' n p T V := q_C4_eq (q_E_c h (by omega)) (q_E_s h 0) k
theorem q_E_B {D D' : am_D} (h : q_E D D') (k : q_B D) : q_B D' := by
  unfold q_B at k ⊢
  rw [h.1 109 (Or.inr (by omega)), h.1 110 (Or.inr (by omega))]
  exact k
theorem q_E_I {D D' : am_D} (h : q_E D D') (k : q_I D) : q_I D' := by
  obtain ⟨k1, k2, ⟨k3, k4, k5⟩, ⟨o, m, h1, h2, h3, h4, h5, h6⟩, ⟨l, g1, g2, g3, g4⟩, k6⟩ := k
  refine ⟨q_E_B h k1, q_C_eq (q_E_c h (by omega)) (q_E_s h 0) k2, ⟨?_, ?_, ?_⟩, ⟨o, m, h1, h2, ?_, ?_, ?_, fun j hj => q_C_eq (q_E_c h (by omega)) (q_E_s h (j + 1)) (h6 j hj)⟩, ⟨l, g1, ?_, ?_, ?_⟩, ?_⟩
  · rw [h.1 0 (by omega), h.2.1.2.1]; exact k3
  · rw [h.2.1.2.1]; exact k4
  · rw [h.2.1.2.1]; exact fun q => q_C_eq (q_E_c h (by omega)) (q_E_s h 7) (k5 q)
  · rw [h.1 23 (by omega)]; exact h3
  · rw [h.1 23 (by omega)]; exact h4
  · rw [h.2.1.1]; exact h5
  · rw [h.1 91 (by omega)]; exact g2
  · rw [h.2.1.2.2]; exact g3
  · rw [h.1 92 (by omega), h.1 108 (by omega)]; exact g4
  · rw [h.2.2]; exact k6
theorem q_I_K {D : am_D} (h : q_I D) : ∃ n p T V, q_K D n p T V := h.2.1
/-- a call of the class and the same of the model -/
def q_G (A M : am_D → Option (Int32 × am_D)) (D : am_D) : Prop := ∃ r D1 b D2, A D = some (r, D1) ∧ M D1 = some (b, D2) ∧ D2.1 106 0 = r ∧ (r = 0 → D2.2.1 124 0 = b.toInt64) ∧ q_I D2
theorem q47 (D : am_D) (r : Nat) (hr : r < 4) : m47 D (Int32.ofNat r) = (Int32.ofNat (if r = 0 then 1 else 0), am_uI D 106 0 (Int32.ofNat r)) := by
  unfold m47
  simp (disch := omega) only [q_l0, q_l1, q_l2, q_l3, q_l4, q_l5, q_l6, q_l7, q_l8, q_l9, q_l10, q_l13, q_l15, q_l17, q_l18, q_l19, q_l21, q_l22, q_l23, q_l25, q_l27, q_l28, q_l31, q_l33, q_l41, q_l43, q_l44, q_l45, q_l48, q_l49, q_l51, q_l52, q_l53, q_l54, q_l56, q_l57, q_l58, q_l59, q_l60, q_l62, q_l63, q_l64, q_l73, q_l81, q_l99, q_l108, q_l109, q_l112, q_l116, q_l126, q_l127, q_l128, q_l137, q_l165, q_l484, q_l1023, q_l1320, q_l4095, q_l4096, q_lm, am_lt, q_le, q_lt, q_tn, q_add, q_ite, Nat.zero_le, and_self, true_and, and_true, if_true, if_false, ite_self, q_eq]
  by_cases h : r = 0 <;> simp [h]
theorem q_uJs (D : am_D) (a j : Nat) (x : Int64) : (am_uJ D a j x).2.1 a j = x := by
  show (if a = a ∧ j = j then x else D.2.1 a j) = x
  rw [if_pos ⟨rfl, rfl⟩]
theorem q_uIs (D : am_D) (a j : Nat) (x : Int32) : (am_uI D a j x).1 a j = x := by
  show (if a = a ∧ j = j then x else D.1 a j) = x
  rw [if_pos ⟨rfl, rfl⟩]
/-- both refuse, for the same ground -/
theorem q_G_ex {A M : am_D → Option (Int32 × am_D)} {D : am_D} (hI : q_I D) (r : Nat) (hr : 0 < r ∧ r < 4) (h1 : A D = some (Int32.ofNat r, D)) (h2 : M D = some (0, am_uI D 106 0 (Int32.ofNat r))) : q_G A M D :=
  ⟨_, _, _, _, h1, h2, q_uIs _ _ _ _, fun h => by rw [q_l0, q_eq (by omega) (by omega)] at h; omega, q_E_I (q_E_uI (by omega)) hI⟩
/-- both answer alike; the class's objects change by D', the model's by D2 -/
theorem q_G_ok {A M : am_D → Option (Int32 × am_D)} {D D' D2 : am_D} (x : Int32) (h1 : A D = some (0, am_uJ D' 124 0 x.toInt64)) (h2 : M (am_uJ D' 124 0 x.toInt64) = some (x, D2)) (h3 : D2.1 106 0 = 0) (h4 : D2.2.1 124 = (am_uJ D' 124 0 x.toInt64).2.1 124) (h5 : q_I D2) : q_G A M D :=
  ⟨_, _, _, _, h1, h2, h3, fun _ => by rw [h4, q_uJs], h5⟩
/-- nothing is changed -/
theorem q_G_rd {A M : am_D → Option (Int32 × am_D)} {D : am_D} (hI : q_I D) (x : Int32) (h1 : A D = some (0, am_uJ D 124 0 x.toInt64)) (h2 : M (am_uJ D 124 0 x.toInt64) = some (x, am_uI (am_uJ D 124 0 x.toInt64) 106 0 0)) : q_G A M D :=
  q_G_ok x h1 h2 (q_uIs _ _ _ _) rfl (q_E_I ((q_E_uJ (by omega)).tr (q_E_uI (by omega))) hI)
/-! numbers that are asked for -/
theorem q46 {v : Int32} {a b : Nat} (hb : b < 2147483647) (hab : a ≤ b) : (∃ i, a ≤ i ∧ i ≤ b ∧ v = Int32.ofNat i ∧ m46 v (Int32.ofNat a) (Int32.ofNat b) = 1) ∨ (m46 v (Int32.ofNat a) (Int32.ofNat b) = 0 ∧ (v < Int32.ofNat a ∨ Int32.ofNat b < v)) := by
  unfold m46
  by_cases h1 : v < Int32.ofNat a
  · right; simp [h1]
  · by_cases h2 : Int32.ofNat b < v
    · right; simp [h1, h2]
    · left
      have h1' := Int32.not_lt.mp h1
      have h2' := Int32.not_lt.mp h2
      have h0 : (0 : Int32) ≤ Int32.ofNat a := q_yle (a := 0) (by omega) (by omega)
      obtain ⟨i, hi, e⟩ := q_of (n := b + 1) (by omega) (Int32.le_trans h0 h1') (by
        rw [Int32.lt_iff_toInt_lt, q_ti (by omega)]
        rw [Int32.le_iff_toInt_le, q_ti (by omega)] at h2'
        omega)
      refine ⟨i, ?_, by omega, e, by simp [h1, h2]⟩
      rw [e, q_le (by omega) (by omega)] at h1'
      exact h1'
theorem q40 (v : Int32) : (∃ i, i < 4 ∧ v = Int32.ofNat i ∧ m40 v = 1 ∧ m48 v = 1) ∨ (m40 v = 0 ∧ m48 v = 0) := by
  rcases q46 (v := v) (a := 0) (b := 3) (by omega) (by omega) with ⟨i, h1, h2, h3, h4⟩ | ⟨h1, h2⟩
  · left
    refine ⟨i, by omega, h3, ?_, h4⟩
    have e : ¬ 4 ≤ i := by omega
    unfold m40
    subst h3
    simp (disch := omega) only [q_l0, q_l1, q_l2, q_l3, q_l4, q_l5, q_l6, q_l7, q_l8, q_l9, q_l10, q_l13, q_l15, q_l17, q_l18, q_l19, q_l21, q_l22, q_l23, q_l25, q_l27, q_l28, q_l31, q_l33, q_l41, q_l43, q_l44, q_l45, q_l48, q_l49, q_l51, q_l52, q_l53, q_l54, q_l56, q_l57, q_l58, q_l59, q_l60, q_l62, q_l63, q_l64, q_l73, q_l81, q_l99, q_l108, q_l109, q_l112, q_l116, q_l126, q_l127, q_l128, q_l137, q_l165, q_l484, q_l1023, q_l1320, q_l4095, q_l4096, q_lm, am_lt, q_le, q_lt, q_tn, q_add, q_ite, Nat.zero_le, and_self, true_and, and_true, if_true, if_false, ite_self, e, Nat.not_lt_zero]
  · right
    refine ⟨?_, h1⟩
    unfold m40
    rcases h2 with h2 | h2
    · exact if_pos h2
    · by_cases h3 : v < 0
      · rw [if_pos h3]
      · rw [if_neg h3, if_pos (by
          rw [Int32.lt_iff_toInt_lt, q_ti (by omega)] at h2
          rw [q_l4, Int32.le_iff_toInt_le, q_ti (by omega)]
          omega)]
theorem q41 (v : Int32) : (∃ i, i < 28 ∧ v = Int32.ofNat i ∧ m41 v = 1 ∧ m49 v = 1) ∨ (m41 v = 0 ∧ m49 v = 0) := by
  rcases q46 (v := v) (a := 0) (b := 27) (by omega) (by omega) with ⟨i, h1, h2, h3, h4⟩ | ⟨h1, h2⟩
  · left
    refine ⟨i, by omega, h3, ?_, h4⟩
    have e : ¬ 28 ≤ i := by omega
    unfold m41
    subst h3
    simp (disch := omega) only [q_l0, q_l1, q_l2, q_l3, q_l4, q_l5, q_l6, q_l7, q_l8, q_l9, q_l10, q_l13, q_l15, q_l17, q_l18, q_l19, q_l21, q_l22, q_l23, q_l25, q_l27, q_l28, q_l31, q_l33, q_l41, q_l43, q_l44, q_l45, q_l48, q_l49, q_l51, q_l52, q_l53, q_l54, q_l56, q_l57, q_l58, q_l59, q_l60, q_l62, q_l63, q_l64, q_l73, q_l81, q_l99, q_l108, q_l109, q_l112, q_l116, q_l126, q_l127, q_l128, q_l137, q_l165, q_l484, q_l1023, q_l1320, q_l4095, q_l4096, q_lm, am_lt, q_le, q_lt, q_tn, q_add, q_ite, Nat.zero_le, and_self, true_and, and_true, if_true, if_false, ite_self, e, Nat.not_lt_zero]
  · right
    refine ⟨?_, h1⟩
    unfold m41
    rcases h2 with h2 | h2
    · exact if_pos h2
    · by_cases h3 : v < 0
      · rw [if_pos h3]
      · rw [if_neg h3, if_pos (by
          rw [Int32.lt_iff_toInt_lt, q_ti (by omega)] at h2
          rw [q_l28, Int32.le_iff_toInt_le, q_ti (by omega)]
          omega)]
theorem q42 (v : Int32) : (∃ i, i < 7 ∧ v = Int32.ofNat i ∧ m42 v = 1 ∧ m46 v 0 6 = 1) ∨ (m42 v = 0 ∧ m46 v 0 6 = 0) := by
  rcases q46 (v := v) (a := 0) (b := 6) (by omega) (by omega) with ⟨i, h1, h2, h3, h4⟩ | ⟨h1, h2⟩
  · left
    refine ⟨i, by omega, h3, ?_, h4⟩
    have e : ¬ 7 ≤ i := by omega
    unfold m42
    subst h3
    simp (disch := omega) only [q_l0, q_l1, q_l2, q_l3, q_l4, q_l5, q_l6, q_l7, q_l8, q_l9, q_l10, q_l13, q_l15, q_l17, q_l18, q_l19, q_l21, q_l22, q_l23, q_l25, q_l27, q_l28, q_l31, q_l33, q_l41, q_l43, q_l44, q_l45, q_l48, q_l49, q_l51, q_l52, q_l53, q_l54, q_l56, q_l57, q_l58, q_l59, q_l60, q_l62, q_l63, q_l64, q_l73, q_l81, q_l99, q_l108, q_l109, q_l112, q_l116, q_l126, q_l127, q_l128, q_l137, q_l165, q_l484, q_l1023, q_l1320, q_l4095, q_l4096, q_lm, am_lt, q_le, q_lt, q_tn, q_add, q_ite, Nat.zero_le, and_self, true_and, and_true, if_true, if_false, ite_self, e, Nat.not_lt_zero]
  · right
    refine ⟨?_, h1⟩
    unfold m42
    rcases h2 with h2 | h2
    · exact if_pos h2
    · by_cases h3 : v < 0
      · rw [if_pos h3]
      · rw [if_neg h3, if_pos (by
          rw [Int32.lt_iff_toInt_lt, q_ti (by omega)] at h2
          rw [q_l7, Int32.le_iff_toInt_le, q_ti (by omega)]
          omega)]
theorem q43 (v : Int32) : (∃ i, i < 2 ∧ v = Int32.ofNat i ∧ m43 v = 1 ∧ m50 v = 1 ∧ m46 v 0 1 = 1) ∨ (m43 v = 0 ∧ m50 v = 0 ∧ m46 v 0 1 = 0) := by
  rcases q46 (v := v) (a := 0) (b := 1) (by omega) (by omega) with ⟨i, h1, h2, h3, h4⟩ | ⟨h1, h2⟩
  · left
    refine ⟨i, by omega, h3, ?_, h4, h4⟩
    subst h3
    obtain rfl | rfl : i = 0 ∨ i = 1 := by omega
    · rfl
    · rfl
  · right
    refine ⟨?_, h1, h1⟩
    unfold m43
    rw [if_neg (fun e => by subst e; revert h2; decide), if_neg (fun e => by subst e; revert h2; decide)]
