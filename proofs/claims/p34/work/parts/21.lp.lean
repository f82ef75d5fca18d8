/-! the loops over tiles -/
def q_B (D : am_D) : Prop := ∀ t : Nat, t < 28 → D.1 109 t = Int32.ofNat (q_lo t) ∧ D.1 110 t = Int32.ofNat (q_hi t)
/-- the model's places -/
def q_P (D : am_D) : Nat → Int32 := fun t => D.1 107 (25 + t)
/-- a tile has a value -/
abbrev q_sh (t : Nat) (e : Int32) : Prop := Int32.ofNat (q_lo t) = e ∨ Int32.ofNat (q_hi t) = e
theorem q249 {t : Nat} (h : t < 28) : m249 (Int32.ofNat t) = Int32.ofNat (q_lo t) := by
  have h1 : ¬ 28 ≤ t := by omega
  unfold m249
  simp (disch := omega) only [q_l0, q_l1, q_l2, q_l3, q_l4, q_l5, q_l6, q_l7, q_l8, q_l9, q_l10, q_l13, q_l15, q_l17, q_l18, q_l19, q_l21, q_l22, q_l23, q_l25, q_l27, q_l28, q_l31, q_l33, q_l41, q_l43, q_l44, q_l45, q_l48, q_l49, q_l51, q_l52, q_l53, q_l54, q_l56, q_l57, q_l58, q_l59, q_l60, q_l62, q_l63, q_l64, q_l73, q_l81, q_l99, q_l108, q_l109, q_l112, q_l116, q_l126, q_l127, q_l128, q_l137, q_l165, q_l484, q_l1023, q_l1320, q_l4095, q_l4096, q_lm, am_lt, q_le, q_lt, q_tn, q_add, q_ite, Nat.zero_le, and_self, true_and, and_true, if_true, if_false, ite_self, h1, Nat.not_lt_zero, q_low t h]
theorem q250 {t : Nat} (h : t < 28) : m250 (Int32.ofNat t) = Int32.ofNat (q_hi t) := by
  have h1 : ¬ 28 ≤ t := by omega
  unfold m250
  simp (disch := omega) only [q_l0, q_l1, q_l2, q_l3, q_l4, q_l5, q_l6, q_l7, q_l8, q_l9, q_l10, q_l13, q_l15, q_l17, q_l18, q_l19, q_l21, q_l22, q_l23, q_l25, q_l27, q_l28, q_l31, q_l33, q_l41, q_l43, q_l44, q_l45, q_l48, q_l49, q_l51, q_l52, q_l53, q_l54, q_l56, q_l57, q_l58, q_l59, q_l60, q_l62, q_l63, q_l64, q_l73, q_l81, q_l99, q_l108, q_l109, q_l112, q_l116, q_l126, q_l127, q_l128, q_l137, q_l165, q_l484, q_l1023, q_l1320, q_l4095, q_l4096, q_lm, am_lt, q_le, q_lt, q_tn, q_add, q_ite, Nat.zero_le, and_self, true_and, and_true, if_true, if_false, ite_self, h1, Nat.not_lt_zero, q_high t h]
theorem q251 {t : Nat} (h : t < 28) : m251 (Int32.ofNat t) = Int32.ofNat (q_pip t) := by
  have h1 : ¬ 28 ≤ t := by omega
  unfold m251
  simp (disch := omega) only [q_l0, q_l1, q_l2, q_l3, q_l4, q_l5, q_l6, q_l7, q_l8, q_l9, q_l10, q_l13, q_l15, q_l17, q_l18, q_l19, q_l21, q_l22, q_l23, q_l25, q_l27, q_l28, q_l31, q_l33, q_l41, q_l43, q_l44, q_l45, q_l48, q_l49, q_l51, q_l52, q_l53, q_l54, q_l56, q_l57, q_l58, q_l59, q_l60, q_l62, q_l63, q_l64, q_l73, q_l81, q_l99, q_l108, q_l109, q_l112, q_l116, q_l126, q_l127, q_l128, q_l137, q_l165, q_l484, q_l1023, q_l1320, q_l4095, q_l4096, q_lm, am_lt, q_le, q_lt, q_tn, q_add, q_ite, Nat.zero_le, and_self, true_and, and_true, if_true, if_false, ite_self, h1, Nat.not_lt_zero, q_high t h, q_low t h]
  rfl
theorem q252 {t : Nat} (h : t < 28) : m252 (Int32.ofNat t) = Int32.ofNat (if q_lo t = q_hi t then 1 else 0) := by
  have h1 := q_lo7 t h
  have h2 := q_hi7 t h
  unfold m252
  rw [q249 h, q250 h]
  simp (disch := omega) only [q_l0, q_l1, q_l2, q_l3, q_l4, q_l5, q_l6, q_l7, q_l8, q_l9, q_l10, q_l13, q_l15, q_l17, q_l18, q_l19, q_l21, q_l22, q_l23, q_l25, q_l27, q_l28, q_l31, q_l33, q_l41, q_l43, q_l44, q_l45, q_l48, q_l49, q_l51, q_l52, q_l53, q_l54, q_l56, q_l57, q_l58, q_l59, q_l60, q_l62, q_l63, q_l64, q_l73, q_l81, q_l99, q_l108, q_l109, q_l112, q_l116, q_l126, q_l127, q_l128, q_l137, q_l165, q_l484, q_l1023, q_l1320, q_l4095, q_l4096, q_lm, am_lt, q_le, q_lt, q_tn, q_add, q_ite, Nat.zero_le, and_self, true_and, and_true, if_true, if_false, ite_self, q_eq]
theorem q253 {t : Nat} (h : t < 28) (e : Int32) : m253 (Int32.ofNat t) e = if q_sh t e then 1 else 0 := by
  unfold m253 q_sh
  rw [q249 h, q250 h]
  by_cases h1 : Int32.ofNat (q_lo t) = e <;> by_cases h2 : Int32.ofNat (q_hi t) = e <;> simp [h1, h2]
theorem q51 {D : am_D} (hB : q_B D) {t : Nat} (h : t < 28) : m51 D (Int32.ofNat t) = some (Int32.ofNat (q_pip t)) := by
  unfold m51
  simp (disch := omega) only [q_l0, q_l1, q_l2, q_l3, q_l4, q_l5, q_l6, q_l7, q_l8, q_l9, q_l10, q_l13, q_l15, q_l17, q_l18, q_l19, q_l21, q_l22, q_l23, q_l25, q_l27, q_l28, q_l31, q_l33, q_l41, q_l43, q_l44, q_l45, q_l48, q_l49, q_l51, q_l52, q_l53, q_l54, q_l56, q_l57, q_l58, q_l59, q_l60, q_l62, q_l63, q_l64, q_l73, q_l81, q_l99, q_l108, q_l109, q_l112, q_l116, q_l126, q_l127, q_l128, q_l137, q_l165, q_l484, q_l1023, q_l1320, q_l4095, q_l4096, q_lm, am_lt, q_le, q_lt, q_tn, q_add, q_ite, Nat.zero_le, and_self, true_and, and_true, if_true, if_false, ite_self, h, (hB t h).1, (hB t h).2]
  rfl
theorem q52 {D : am_D} (hB : q_B D) {t : Nat} (h : t < 28) : m52 D (Int32.ofNat t) = some (Int32.ofNat (if q_lo t = q_hi t then 1 else 0)) := by
  have h1 := q_lo7 t h
  have h2 := q_hi7 t h
  unfold m52
  simp (disch := omega) only [q_l0, q_l1, q_l2, q_l3, q_l4, q_l5, q_l6, q_l7, q_l8, q_l9, q_l10, q_l13, q_l15, q_l17, q_l18, q_l19, q_l21, q_l22, q_l23, q_l25, q_l27, q_l28, q_l31, q_l33, q_l41, q_l43, q_l44, q_l45, q_l48, q_l49, q_l51, q_l52, q_l53, q_l54, q_l56, q_l57, q_l58, q_l59, q_l60, q_l62, q_l63, q_l64, q_l73, q_l81, q_l99, q_l108, q_l109, q_l112, q_l116, q_l126, q_l127, q_l128, q_l137, q_l165, q_l484, q_l1023, q_l1320, q_l4095, q_l4096, q_lm, am_lt, q_le, q_lt, q_tn, q_add, q_ite, Nat.zero_le, and_self, true_and, and_true, if_true, if_false, ite_self, h, (hB t h).1, (hB t h).2, q_eq]
  split <;> rfl
theorem q53 {D : am_D} (hB : q_B D) {t : Nat} (h : t < 28) (e : Int32) : m53 D (Int32.ofNat t) e = some (if q_sh t e then 1 else 0) := by
  unfold m53 q_sh
  simp (disch := omega) only [q_l0, q_l1, q_l2, q_l3, q_l4, q_l5, q_l6, q_l7, q_l8, q_l9, q_l10, q_l13, q_l15, q_l17, q_l18, q_l19, q_l21, q_l22, q_l23, q_l25, q_l27, q_l28, q_l31, q_l33, q_l41, q_l43, q_l44, q_l45, q_l48, q_l49, q_l51, q_l52, q_l53, q_l54, q_l56, q_l57, q_l58, q_l59, q_l60, q_l62, q_l63, q_l64, q_l73, q_l81, q_l99, q_l108, q_l109, q_l112, q_l116, q_l126, q_l127, q_l128, q_l137, q_l165, q_l484, q_l1023, q_l1320, q_l4095, q_l4096, q_lm, am_lt, q_le, q_lt, q_tn, q_add, q_ite, Nat.zero_le, and_self, true_and, and_true, if_true, if_false, ite_self, h, (hB t h).1, (hB t h).2]
  by_cases h1 : Int32.ofNat (q_lo t) = e <;> by_cases h2 : Int32.ofNat (q_hi t) = e <;> simp [h1, h2] <;> rfl
theorem q54 {D : am_D} (hB : q_B D) {t : Nat} (h : t < 28) (e : Int32) : m54 D (Int32.ofNat t) e = some (Int32.ofNat (q_pip t) - e) := by
  unfold m54
  simp (disch := omega) only [q_l0, q_l1, q_l2, q_l3, q_l4, q_l5, q_l6, q_l7, q_l8, q_l9, q_l10, q_l13, q_l15, q_l17, q_l18, q_l19, q_l21, q_l22, q_l23, q_l25, q_l27, q_l28, q_l31, q_l33, q_l41, q_l43, q_l44, q_l45, q_l48, q_l49, q_l51, q_l52, q_l53, q_l54, q_l56, q_l57, q_l58, q_l59, q_l60, q_l62, q_l63, q_l64, q_l73, q_l81, q_l99, q_l108, q_l109, q_l112, q_l116, q_l126, q_l127, q_l128, q_l137, q_l165, q_l484, q_l1023, q_l1320, q_l4095, q_l4096, q_lm, am_lt, q_le, q_lt, q_tn, q_add, q_ite, Nat.zero_le, and_self, true_and, and_true, if_true, if_false, ite_self, h, (hB t h).1, (hB t h).2]
  rfl
theorem q56 (D : am_D) {t : Nat} (h : t < 28) (v : Int32) : m56 D v (Int32.ofNat t) = some (if q_P D t = v then 1 else 0) := by
  have h3 : 25 + t < 1320 := by omega
  unfold m56 q_P
  simp (disch := omega) only [q_l0, q_l1, q_l2, q_l3, q_l4, q_l5, q_l6, q_l7, q_l8, q_l9, q_l10, q_l13, q_l15, q_l17, q_l18, q_l19, q_l21, q_l22, q_l23, q_l25, q_l27, q_l28, q_l31, q_l33, q_l41, q_l43, q_l44, q_l45, q_l48, q_l49, q_l51, q_l52, q_l53, q_l54, q_l56, q_l57, q_l58, q_l59, q_l60, q_l62, q_l63, q_l64, q_l73, q_l81, q_l99, q_l108, q_l109, q_l112, q_l116, q_l126, q_l127, q_l128, q_l137, q_l165, q_l484, q_l1023, q_l1320, q_l4095, q_l4096, q_lm, am_lt, q_le, q_lt, q_tn, q_add, q_ite, Nat.zero_le, and_self, true_and, and_true, if_true, if_false, ite_self, h3]
  split <;> rfl
theorem q_b1 (c : Prop) [Decidable c] : ((if c then (1 : Int32) else 0) = 0) = ¬ c := by split <;> simp_all
theorem q_b2 (c : Prop) [Decidable c] : ((if c then 1 else 0) = 0) = ¬ c := by split <;> simp_all
theorem q203 (D : am_D) {t : Nat} (h : t < 28) : m203 D (Int32.ofNat t) = D.1 7 t := by
  unfold m203 am_rat
  simp (disch := omega) only [q_l0, q_l1, q_l2, q_l3, q_l4, q_l5, q_l6, q_l7, q_l8, q_l9, q_l10, q_l13, q_l15, q_l17, q_l18, q_l19, q_l21, q_l22, q_l23, q_l25, q_l27, q_l28, q_l31, q_l33, q_l41, q_l43, q_l44, q_l45, q_l48, q_l49, q_l51, q_l52, q_l53, q_l54, q_l56, q_l57, q_l58, q_l59, q_l60, q_l62, q_l63, q_l64, q_l73, q_l81, q_l99, q_l108, q_l109, q_l112, q_l116, q_l126, q_l127, q_l128, q_l137, q_l165, q_l484, q_l1023, q_l1320, q_l4095, q_l4096, q_lm, am_lt, q_le, q_lt, q_tn, q_add, q_ite, Nat.zero_le, and_self, true_and, and_true, if_true, if_false, ite_self, h]

theorem q204_L {N : Nat} {D : am_D} {v : Int32} : ∀ (k i a n : Nat), i + k = 28 → k < n → m204_L4 N D v n (Int32.ofNat a) (Int32.ofNat i) = some (Int32.ofNat (a + q_S (fun t => if D.1 7 t = v then 1 else 0) i k))
  | 0, i, a, n + 1, hi, hn => by
    obtain rfl : i = 28 := by omega
    rw [m204_L4]
    simp (disch := omega) only [q_l0, q_l1, q_l2, q_l3, q_l4, q_l5, q_l6, q_l7, q_l8, q_l9, q_l10, q_l13, q_l15, q_l17, q_l18, q_l19, q_l21, q_l22, q_l23, q_l25, q_l27, q_l28, q_l31, q_l33, q_l41, q_l43, q_l44, q_l45, q_l48, q_l49, q_l51, q_l52, q_l53, q_l54, q_l56, q_l57, q_l58, q_l59, q_l60, q_l62, q_l63, q_l64, q_l73, q_l81, q_l99, q_l108, q_l109, q_l112, q_l116, q_l126, q_l127, q_l128, q_l137, q_l165, q_l484, q_l1023, q_l1320, q_l4095, q_l4096, q_lm, am_lt, q_le, q_lt, q_tn, q_add, q_ite, Nat.zero_le, and_self, true_and, and_true, if_true, if_false, ite_self, Nat.le_refl]
    rfl
  | k + 1, i, a, n + 1, hi, hn => by
    have h1 : ¬ 28 ≤ i := by omega
    have h2 : i < 28 := by omega
    have h3 : 25 + i < 1320 := by omega
    by_cases c0 : D.1 7 i = v <;> (
      rw [m204_L4]
      simp (disch := omega) only [q_l0, q_l1, q_l2, q_l3, q_l4, q_l5, q_l6, q_l7, q_l8, q_l9, q_l10, q_l13, q_l15, q_l17, q_l18, q_l19, q_l21, q_l22, q_l23, q_l25, q_l27, q_l28, q_l31, q_l33, q_l41, q_l43, q_l44, q_l45, q_l48, q_l49, q_l51, q_l52, q_l53, q_l54, q_l56, q_l57, q_l58, q_l59, q_l60, q_l62, q_l63, q_l64, q_l73, q_l81, q_l99, q_l108, q_l109, q_l112, q_l116, q_l126, q_l127, q_l128, q_l137, q_l165, q_l484, q_l1023, q_l1320, q_l4095, q_l4096, q_lm, am_lt, q_le, q_lt, q_tn, q_add, q_ite, Nat.zero_le, and_self, true_and, and_true, if_true, if_false, ite_self, h1, h2, h3, Option.bind_some, q_eq, not_true_eq_false, not_false_eq_true, or_true, true_or, or_self, and_false, false_and, Nat.one_ne_zero, Nat.reduceAdd, c0]
      rw [q204_L k (i + 1) _ n (by omega) (by omega)]
      simp [q_S, Nat.add_assoc, c0])
  | _, _, _, 0, _, hn => by omega
theorem q205_L {N : Nat} {D : am_D} {v : Int32} : ∀ (k i a n : Nat), i + k = 28 → k < n → m205_L4 N D v n (Int32.ofNat a) (Int32.ofNat i) = some (Int32.ofNat (a + q_S (fun t => if D.1 7 t = v then q_pip t else 0) i k))
  | 0, i, a, n + 1, hi, hn => by
    obtain rfl : i = 28 := by omega
    rw [m205_L4]
    simp (disch := omega) only [q_l0, q_l1, q_l2, q_l3, q_l4, q_l5, q_l6, q_l7, q_l8, q_l9, q_l10, q_l13, q_l15, q_l17, q_l18, q_l19, q_l21, q_l22, q_l23, q_l25, q_l27, q_l28, q_l31, q_l33, q_l41, q_l43, q_l44, q_l45, q_l48, q_l49, q_l51, q_l52, q_l53, q_l54, q_l56, q_l57, q_l58, q_l59, q_l60, q_l62, q_l63, q_l64, q_l73, q_l81, q_l99, q_l108, q_l109, q_l112, q_l116, q_l126, q_l127, q_l128, q_l137, q_l165, q_l484, q_l1023, q_l1320, q_l4095, q_l4096, q_lm, am_lt, q_le, q_lt, q_tn, q_add, q_ite, Nat.zero_le, and_self, true_and, and_true, if_true, if_false, ite_self, Nat.le_refl]
    rfl
  | k + 1, i, a, n + 1, hi, hn => by
    have h1 : ¬ 28 ≤ i := by omega
    have h2 : i < 28 := by omega
    have h3 : 25 + i < 1320 := by omega
    by_cases c0 : D.1 7 i = v <;> (
      rw [m205_L4]
      simp (disch := omega) only [q_l0, q_l1, q_l2, q_l3, q_l4, q_l5, q_l6, q_l7, q_l8, q_l9, q_l10, q_l13, q_l15, q_l17, q_l18, q_l19, q_l21, q_l22, q_l23, q_l25, q_l27, q_l28, q_l31, q_l33, q_l41, q_l43, q_l44, q_l45, q_l48, q_l49, q_l51, q_l52, q_l53, q_l54, q_l56, q_l57, q_l58, q_l59, q_l60, q_l62, q_l63, q_l64, q_l73, q_l81, q_l99, q_l108, q_l109, q_l112, q_l116, q_l126, q_l127, q_l128, q_l137, q_l165, q_l484, q_l1023, q_l1320, q_l4095, q_l4096, q_lm, am_lt, q_le, q_lt, q_tn, q_add, q_ite, Nat.zero_le, and_self, true_and, and_true, if_true, if_false, ite_self, h1, h2, h3, Option.bind_some, q_eq, not_true_eq_false, not_false_eq_true, or_true, true_or, or_self, and_false, false_and, Nat.one_ne_zero, Nat.reduceAdd, q251 h2, c0]
      rw [q205_L k (i + 1) _ n (by omega) (by omega)]
      simp [q_S, Nat.add_assoc, c0])
  | _, _, _, 0, _, hn => by omega
theorem q206_L {N : Nat} {D : am_D} {v : Int32} : ∀ (k i a n : Nat), i + k = 28 → k < n → m206_L4 N D v n (Int32.ofNat a) (Int32.ofNat i) = some (Int32.ofNat (a + q_S (fun t => if D.1 7 t = v ∧ q_lo t = q_hi t then 1 else 0) i k))
  | 0, i, a, n + 1, hi, hn => by
    obtain rfl : i = 28 := by omega
    rw [m206_L4]
    simp (disch := omega) only [q_l0, q_l1, q_l2, q_l3, q_l4, q_l5, q_l6, q_l7, q_l8, q_l9, q_l10, q_l13, q_l15, q_l17, q_l18, q_l19, q_l21, q_l22, q_l23, q_l25, q_l27, q_l28, q_l31, q_l33, q_l41, q_l43, q_l44, q_l45, q_l48, q_l49, q_l51, q_l52, q_l53, q_l54, q_l56, q_l57, q_l58, q_l59, q_l60, q_l62, q_l63, q_l64, q_l73, q_l81, q_l99, q_l108, q_l109, q_l112, q_l116, q_l126, q_l127, q_l128, q_l137, q_l165, q_l484, q_l1023, q_l1320, q_l4095, q_l4096, q_lm, am_lt, q_le, q_lt, q_tn, q_add, q_ite, Nat.zero_le, and_self, true_and, and_true, if_true, if_false, ite_self, Nat.le_refl]
    rfl
  | k + 1, i, a, n + 1, hi, hn => by
    have h1 : ¬ 28 ≤ i := by omega
    have h2 : i < 28 := by omega
    have h3 : 25 + i < 1320 := by omega
    by_cases c0 : D.1 7 i = v <;> by_cases c1 : q_lo i = q_hi i <;> (
      rw [m206_L4]
      simp (disch := omega) only [q_l0, q_l1, q_l2, q_l3, q_l4, q_l5, q_l6, q_l7, q_l8, q_l9, q_l10, q_l13, q_l15, q_l17, q_l18, q_l19, q_l21, q_l22, q_l23, q_l25, q_l27, q_l28, q_l31, q_l33, q_l41, q_l43, q_l44, q_l45, q_l48, q_l49, q_l51, q_l52, q_l53, q_l54, q_l56, q_l57, q_l58, q_l59, q_l60, q_l62, q_l63, q_l64, q_l73, q_l81, q_l99, q_l108, q_l109, q_l112, q_l116, q_l126, q_l127, q_l128, q_l137, q_l165, q_l484, q_l1023, q_l1320, q_l4095, q_l4096, q_lm, am_lt, q_le, q_lt, q_tn, q_add, q_ite, Nat.zero_le, and_self, true_and, and_true, if_true, if_false, ite_self, h1, h2, h3, Option.bind_some, q_eq, not_true_eq_false, not_false_eq_true, or_true, true_or, or_self, and_false, false_and, Nat.one_ne_zero, Nat.reduceAdd, q252 h2, c0, c1]
      rw [q206_L k (i + 1) _ n (by omega) (by omega)]
      simp [q_S, Nat.add_assoc, c0, c1])
  | _, _, _, 0, _, hn => by omega
theorem q57_L {N : Nat} {D : am_D} {v : Int32} : ∀ (k i a n : Nat), i + k = 28 → k < n → m57_L4 N D v n (Int32.ofNat a) (Int32.ofNat i) = some (Int32.ofNat (a + q_S (fun t => if q_P D t = v then 1 else 0) i k))
  | 0, i, a, n + 1, hi, hn => by
    obtain rfl : i = 28 := by omega
    rw [m57_L4]
    simp (disch := omega) only [q_l0, q_l1, q_l2, q_l3, q_l4, q_l5, q_l6, q_l7, q_l8, q_l9, q_l10, q_l13, q_l15, q_l17, q_l18, q_l19, q_l21, q_l22, q_l23, q_l25, q_l27, q_l28, q_l31, q_l33, q_l41, q_l43, q_l44, q_l45, q_l48, q_l49, q_l51, q_l52, q_l53, q_l54, q_l56, q_l57, q_l58, q_l59, q_l60, q_l62, q_l63, q_l64, q_l73, q_l81, q_l99, q_l108, q_l109, q_l112, q_l116, q_l126, q_l127, q_l128, q_l137, q_l165, q_l484, q_l1023, q_l1320, q_l4095, q_l4096, q_lm, am_lt, q_le, q_lt, q_tn, q_add, q_ite, Nat.zero_le, and_self, true_and, and_true, if_true, if_false, ite_self, Nat.le_refl]
    rfl
  | k + 1, i, a, n + 1, hi, hn => by
    have h1 : ¬ 28 ≤ i := by omega
    have h2 : i < 28 := by omega
    have h3 : 25 + i < 1320 := by omega
    by_cases c0 : D.1 107 (25 + i) = v <;> (
      rw [m57_L4]
      simp (disch := omega) only [q_l0, q_l1, q_l2, q_l3, q_l4, q_l5, q_l6, q_l7, q_l8, q_l9, q_l10, q_l13, q_l15, q_l17, q_l18, q_l19, q_l21, q_l22, q_l23, q_l25, q_l27, q_l28, q_l31, q_l33, q_l41, q_l43, q_l44, q_l45, q_l48, q_l49, q_l51, q_l52, q_l53, q_l54, q_l56, q_l57, q_l58, q_l59, q_l60, q_l62, q_l63, q_l64, q_l73, q_l81, q_l99, q_l108, q_l109, q_l112, q_l116, q_l126, q_l127, q_l128, q_l137, q_l165, q_l484, q_l1023, q_l1320, q_l4095, q_l4096, q_lm, am_lt, q_le, q_lt, q_tn, q_add, q_ite, Nat.zero_le, and_self, true_and, and_true, if_true, if_false, ite_self, h1, h2, h3, Option.bind_some, q_eq, not_true_eq_false, not_false_eq_true, or_true, true_or, or_self, and_false, false_and, Nat.one_ne_zero, Nat.reduceAdd, c0]
      rw [q57_L k (i + 1) _ n (by omega) (by omega)]
      simp [q_S, Nat.add_assoc, c0, q_P])
  | _, _, _, 0, _, hn => by omega
theorem q58_L {N : Nat} {D : am_D} {v : Int32} (hB : q_B D) : ∀ (k i a n : Nat), i + k = 28 → k < n → m58_L4 N D v n (Int32.ofNat a) (Int32.ofNat i) = some (Int32.ofNat (a + q_S (fun t => if q_P D t = v then q_pip t else 0) i k))
  | 0, i, a, n + 1, hi, hn => by
    obtain rfl : i = 28 := by omega
    rw [m58_L4]
    simp (disch := omega) only [q_l0, q_l1, q_l2, q_l3, q_l4, q_l5, q_l6, q_l7, q_l8, q_l9, q_l10, q_l13, q_l15, q_l17, q_l18, q_l19, q_l21, q_l22, q_l23, q_l25, q_l27, q_l28, q_l31, q_l33, q_l41, q_l43, q_l44, q_l45, q_l48, q_l49, q_l51, q_l52, q_l53, q_l54, q_l56, q_l57, q_l58, q_l59, q_l60, q_l62, q_l63, q_l64, q_l73, q_l81, q_l99, q_l108, q_l109, q_l112, q_l116, q_l126, q_l127, q_l128, q_l137, q_l165, q_l484, q_l1023, q_l1320, q_l4095, q_l4096, q_lm, am_lt, q_le, q_lt, q_tn, q_add, q_ite, Nat.zero_le, and_self, true_and, and_true, if_true, if_false, ite_self, Nat.le_refl]
    rfl
  | k + 1, i, a, n + 1, hi, hn => by
    have h1 : ¬ 28 ≤ i := by omega
    have h2 : i < 28 := by omega
    have h3 : 25 + i < 1320 := by omega
    by_cases c0 : q_P D i = v <;> (
      rw [m58_L4]
      simp (disch := omega) only [q_l0, q_l1, q_l2, q_l3, q_l4, q_l5, q_l6, q_l7, q_l8, q_l9, q_l10, q_l13, q_l15, q_l17, q_l18, q_l19, q_l21, q_l22, q_l23, q_l25, q_l27, q_l28, q_l31, q_l33, q_l41, q_l43, q_l44, q_l45, q_l48, q_l49, q_l51, q_l52, q_l53, q_l54, q_l56, q_l57, q_l58, q_l59, q_l60, q_l62, q_l63, q_l64, q_l73, q_l81, q_l99, q_l108, q_l109, q_l112, q_l116, q_l126, q_l127, q_l128, q_l137, q_l165, q_l484, q_l1023, q_l1320, q_l4095, q_l4096, q_lm, am_lt, q_le, q_lt, q_tn, q_add, q_ite, Nat.zero_le, and_self, true_and, and_true, if_true, if_false, ite_self, h1, h2, h3, Option.bind_some, q_eq, not_true_eq_false, not_false_eq_true, or_true, true_or, or_self, and_false, false_and, Nat.one_ne_zero, Nat.reduceAdd, q56 D h2, q51 hB h2, c0]
      rw [q58_L hB k (i + 1) _ n (by omega) (by omega)]
      simp [q_S, Nat.add_assoc, c0])
  | _, _, _, 0, _, hn => by omega
theorem q81_L {N : Nat} {D : am_D} {v : Int32} (hB : q_B D) : ∀ (k i a n : Nat), i + k = 28 → k < n → m81_L4 N D v n (Int32.ofNat a) (Int32.ofNat i) = some (Int32.ofNat (a + q_S (fun t => if q_P D t = v ∧ q_lo t = q_hi t then 1 else 0) i k))
  | 0, i, a, n + 1, hi, hn => by
    obtain rfl : i = 28 := by omega
    rw [m81_L4]
    simp (disch := omega) only [q_l0, q_l1, q_l2, q_l3, q_l4, q_l5, q_l6, q_l7, q_l8, q_l9, q_l10, q_l13, q_l15, q_l17, q_l18, q_l19, q_l21, q_l22, q_l23, q_l25, q_l27, q_l28, q_l31, q_l33, q_l41, q_l43, q_l44, q_l45, q_l48, q_l49, q_l51, q_l52, q_l53, q_l54, q_l56, q_l57, q_l58, q_l59, q_l60, q_l62, q_l63, q_l64, q_l73, q_l81, q_l99, q_l108, q_l109, q_l112, q_l116, q_l126, q_l127, q_l128, q_l137, q_l165, q_l484, q_l1023, q_l1320, q_l4095, q_l4096, q_lm, am_lt, q_le, q_lt, q_tn, q_add, q_ite, Nat.zero_le, and_self, true_and, and_true, if_true, if_false, ite_self, Nat.le_refl]
    rfl
  | k + 1, i, a, n + 1, hi, hn => by
    have h1 : ¬ 28 ≤ i := by omega
    have h2 : i < 28 := by omega
    have h3 : 25 + i < 1320 := by omega
    by_cases c0 : q_P D i = v <;> by_cases c1 : q_lo i = q_hi i <;> (
      rw [m81_L4]
      simp (disch := omega) only [q_l0, q_l1, q_l2, q_l3, q_l4, q_l5, q_l6, q_l7, q_l8, q_l9, q_l10, q_l13, q_l15, q_l17, q_l18, q_l19, q_l21, q_l22, q_l23, q_l25, q_l27, q_l28, q_l31, q_l33, q_l41, q_l43, q_l44, q_l45, q_l48, q_l49, q_l51, q_l52, q_l53, q_l54, q_l56, q_l57, q_l58, q_l59, q_l60, q_l62, q_l63, q_l64, q_l73, q_l81, q_l99, q_l108, q_l109, q_l112, q_l116, q_l126, q_l127, q_l128, q_l137, q_l165, q_l484, q_l1023, q_l1320, q_l4095, q_l4096, q_lm, am_lt, q_le, q_lt, q_tn, q_add, q_ite, Nat.zero_le, and_self, true_and, and_true, if_true, if_false, ite_self, h1, h2, h3, Option.bind_some, q_eq, not_true_eq_false, not_false_eq_true, or_true, true_or, or_self, and_false, false_and, Nat.one_ne_zero, Nat.reduceAdd, q56 D h2, q52 hB h2, c0, c1]
      rw [q81_L hB k (i + 1) _ n (by omega) (by omega)]
      simp [q_S, Nat.add_assoc, c0, c1])
  | _, _, _, 0, _, hn => by omega
theorem q204 {N : Nat} (hN : 2000 ≤ N) {D : am_D} (v : Int32) : m204 N D v = some (Int32.ofNat (q_cnt (D.1 7) v)) := by
  unfold m204
  show (m204_L4 N D v N (Int32.ofNat 0) (Int32.ofNat 0)).bind _ = _
  rw [q204_L 28 0 0 N (by omega) (by omega), Nat.zero_add, q_cnt_def]
  rfl
theorem q205 {N : Nat} (hN : 2000 ≤ N) {D : am_D} (v : Int32) : m205 N D v = some (Int32.ofNat (q_pips (D.1 7) v)) := by
  unfold m205
  show (m205_L4 N D v N (Int32.ofNat 0) (Int32.ofNat 0)).bind _ = _
  rw [q205_L 28 0 0 N (by omega) (by omega), Nat.zero_add, q_pips_def]
  rfl
theorem q206 {N : Nat} (hN : 2000 ≤ N) {D : am_D} (v : Int32) : m206 N D v = some (Int32.ofNat (q_dbl (D.1 7) v)) := by
  unfold m206
  show (m206_L4 N D v N (Int32.ofNat 0) (Int32.ofNat 0)).bind _ = _
  rw [q206_L 28 0 0 N (by omega) (by omega), Nat.zero_add, q_dbl_def]
  rfl
theorem q57 {N : Nat} (hN : 2000 ≤ N) {D : am_D} (v : Int32) : m57 N D v = some (Int32.ofNat (q_cnt (q_P D) v)) := by
  unfold m57
  show (m57_L4 N D v N (Int32.ofNat 0) (Int32.ofNat 0)).bind _ = _
  rw [q57_L 28 0 0 N (by omega) (by omega), Nat.zero_add, q_cnt_def]
  rfl
theorem q58 {N : Nat} (hN : 2000 ≤ N) {D : am_D} (hB : q_B D) (v : Int32) : m58 N D v = some (Int32.ofNat (q_pips (q_P D) v)) := by
  unfold m58
  show (m58_L4 N D v N (Int32.ofNat 0) (Int32.ofNat 0)).bind _ = _
  rw [q58_L hB 28 0 0 N (by omega) (by omega), Nat.zero_add, q_pips_def]
  rfl
theorem q81 {N : Nat} (hN : 2000 ≤ N) {D : am_D} (hB : q_B D) (v : Int32) : m81 N D v = some (Int32.ofNat (q_dbl (q_P D) v)) := by
  unfold m81
  show (m81_L4 N D v N (Int32.ofNat 0) (Int32.ofNat 0)).bind _ = _
  rw [q81_L hB 28 0 0 N (by omega) (by omega), Nat.zero_add, q_dbl_def]
  rfl
/-- in all hands -/
def q_all (g : Int32 → Nat) : Nat := q_S (fun h => g (Int32.ofNat h)) 0 4

theorem q210_L {N : Nat} {D : am_D} (hN : 2000 ≤ N) : ∀ (k i a n : Nat), i + k = 4 → k < n → m210_L4 N D n (Int32.ofNat a) (Int32.ofNat i) = some (Int32.ofNat (a + q_S (fun t => q_cnt (D.1 7) (Int32.ofNat t)) i k))
  | 0, i, a, n + 1, hi, hn => by
    obtain rfl : i = 4 := by omega
    rw [m210_L4]
    simp (disch := omega) only [q_l0, q_l1, q_l2, q_l3, q_l4, q_l5, q_l6, q_l7, q_l8, q_l9, q_l10, q_l13, q_l15, q_l17, q_l18, q_l19, q_l21, q_l22, q_l23, q_l25, q_l27, q_l28, q_l31, q_l33, q_l41, q_l43, q_l44, q_l45, q_l48, q_l49, q_l51, q_l52, q_l53, q_l54, q_l56, q_l57, q_l58, q_l59, q_l60, q_l62, q_l63, q_l64, q_l73, q_l81, q_l99, q_l108, q_l109, q_l112, q_l116, q_l126, q_l127, q_l128, q_l137, q_l165, q_l484, q_l1023, q_l1320, q_l4095, q_l4096, q_lm, am_lt, q_le, q_lt, q_tn, q_add, q_ite, Nat.zero_le, and_self, true_and, and_true, if_true, if_false, ite_self, Nat.le_refl]
    rfl
  | k + 1, i, a, n + 1, hi, hn => by
    have h1 : ¬ 4 ≤ i := by omega
    have h2 : i < 4 := by omega
    have h3 : 25 + i < 1320 := by omega
    rw [m210_L4]
    simp (disch := omega) only [q_l0, q_l1, q_l2, q_l3, q_l4, q_l5, q_l6, q_l7, q_l8, q_l9, q_l10, q_l13, q_l15, q_l17, q_l18, q_l19, q_l21, q_l22, q_l23, q_l25, q_l27, q_l28, q_l31, q_l33, q_l41, q_l43, q_l44, q_l45, q_l48, q_l49, q_l51, q_l52, q_l53, q_l54, q_l56, q_l57, q_l58, q_l59, q_l60, q_l62, q_l63, q_l64, q_l73, q_l81, q_l99, q_l108, q_l109, q_l112, q_l116, q_l126, q_l127, q_l128, q_l137, q_l165, q_l484, q_l1023, q_l1320, q_l4095, q_l4096, q_lm, am_lt, q_le, q_lt, q_tn, q_add, q_ite, Nat.zero_le, and_self, true_and, and_true, if_true, if_false, ite_self, h1, h2, h3, Option.bind_some, q_eq, not_true_eq_false, not_false_eq_true, or_true, true_or, or_self, and_false, false_and, Nat.one_ne_zero, Nat.reduceAdd, q204 hN]
    rw [q210_L hN k (i + 1) _ n (by omega) (by omega)]
    simp [q_S, Nat.add_assoc]
  | _, _, _, 0, _, hn => by omega
theorem q211_L {N : Nat} {D : am_D} (hN : 2000 ≤ N) : ∀ (k i a n : Nat), i + k = 4 → k < n → m211_L4 N D n (Int32.ofNat a) (Int32.ofNat i) = some (Int32.ofNat (a + q_S (fun t => q_pips (D.1 7) (Int32.ofNat t)) i k))
  | 0, i, a, n + 1, hi, hn => by
    obtain rfl : i = 4 := by omega
    rw [m211_L4]
    simp (disch := omega) only [q_l0, q_l1, q_l2, q_l3, q_l4, q_l5, q_l6, q_l7, q_l8, q_l9, q_l10, q_l13, q_l15, q_l17, q_l18, q_l19, q_l21, q_l22, q_l23, q_l25, q_l27, q_l28, q_l31, q_l33, q_l41, q_l43, q_l44, q_l45, q_l48, q_l49, q_l51, q_l52, q_l53, q_l54, q_l56, q_l57, q_l58, q_l59, q_l60, q_l62, q_l63, q_l64, q_l73, q_l81, q_l99, q_l108, q_l109, q_l112, q_l116, q_l126, q_l127, q_l128, q_l137, q_l165, q_l484, q_l1023, q_l1320, q_l4095, q_l4096, q_lm, am_lt, q_le, q_lt, q_tn, q_add, q_ite, Nat.zero_le, and_self, true_and, and_true, if_true, if_false, ite_self, Nat.le_refl]
    rfl
  | k + 1, i, a, n + 1, hi, hn => by
    have h1 : ¬ 4 ≤ i := by omega
    have h2 : i < 4 := by omega
    have h3 : 25 + i < 1320 := by omega
    rw [m211_L4]
    simp (disch := omega) only [q_l0, q_l1, q_l2, q_l3, q_l4, q_l5, q_l6, q_l7, q_l8, q_l9, q_l10, q_l13, q_l15, q_l17, q_l18, q_l19, q_l21, q_l22, q_l23, q_l25, q_l27, q_l28, q_l31, q_l33, q_l41, q_l43, q_l44, q_l45, q_l48, q_l49, q_l51, q_l52, q_l53, q_l54, q_l56, q_l57, q_l58, q_l59, q_l60, q_l62, q_l63, q_l64, q_l73, q_l81, q_l99, q_l108, q_l109, q_l112, q_l116, q_l126, q_l127, q_l128, q_l137, q_l165, q_l484, q_l1023, q_l1320, q_l4095, q_l4096, q_lm, am_lt, q_le, q_lt, q_tn, q_add, q_ite, Nat.zero_le, and_self, true_and, and_true, if_true, if_false, ite_self, h1, h2, h3, Option.bind_some, q_eq, not_true_eq_false, not_false_eq_true, or_true, true_or, or_self, and_false, false_and, Nat.one_ne_zero, Nat.reduceAdd, q205 hN]
    rw [q211_L hN k (i + 1) _ n (by omega) (by omega)]
    simp [q_S, Nat.add_assoc]
  | _, _, _, 0, _, hn => by omega
theorem q210 {N : Nat} (hN : 2000 ≤ N) {D : am_D} : m210 N D = some (Int32.ofNat (q_all (q_cnt (D.1 7)))) := by
  unfold m210
  show (m210_L4 N D N (Int32.ofNat 0) (Int32.ofNat 0)).bind _ = _
  rw [q210_L hN 4 0 0 N (by omega) (by omega), Nat.zero_add]
  rfl
theorem q211 {N : Nat} (hN : 2000 ≤ N) {D : am_D} : m211 N D = some (Int32.ofNat (q_all (q_pips (D.1 7)))) := by
  unfold m211
  show (m211_L4 N D N (Int32.ofNat 0) (Int32.ofNat 0)).bind _ = _
  rw [q211_L hN 4 0 0 N (by omega) (by omega), Nat.zero_add]
  rfl
/-- the first tile at a place -/
def q_fst (f : Nat → Int32) (v : Int32) (i : Nat) : Nat → Int32
  | 0 => q_nn
  | k + 1 => if f i = v then Int32.ofNat i else q_fst f v (i + 1) k
theorem q_fst_congr {f g : Nat → Int32} {v : Int32} : ∀ (k i : Nat), (∀ t, i ≤ t → t < i + k → f t = g t) → q_fst f v i k = q_fst g v i k
  | 0, _, _ => rfl
  | k + 1, i, h => by
    show (if f i = v then _ else _) = if g i = v then _ else _
    rw [h i (Nat.le_refl _) (by omega), q_fst_congr k (i + 1) (fun t h1 h2 => h t (by omega) (by omega))]
theorem q207_L {N : Nat} {D : am_D} {v : Int32} : ∀ (k i n : Nat), i + k = 28 → k < n → ∃ q, m207_L2 N D v n (Int32.ofNat i) = some q ∧ (if q.1 = 0 then q_nn else q.2) = q_fst (D.1 7) v i k
  | 0, i, n + 1, hi, hn => by
    obtain rfl : i = 28 := by omega
    rw [m207_L2]
    simp (disch := omega) only [q_l0, q_l1, q_l2, q_l3, q_l4, q_l5, q_l6, q_l7, q_l8, q_l9, q_l10, q_l13, q_l15, q_l17, q_l18, q_l19, q_l21, q_l22, q_l23, q_l25, q_l27, q_l28, q_l31, q_l33, q_l41, q_l43, q_l44, q_l45, q_l48, q_l49, q_l51, q_l52, q_l53, q_l54, q_l56, q_l57, q_l58, q_l59, q_l60, q_l62, q_l63, q_l64, q_l73, q_l81, q_l99, q_l108, q_l109, q_l112, q_l116, q_l126, q_l127, q_l128, q_l137, q_l165, q_l484, q_l1023, q_l1320, q_l4095, q_l4096, q_lm, am_lt, q_le, q_lt, q_tn, q_add, q_ite, Nat.zero_le, and_self, true_and, and_true, if_true, if_false, ite_self, Nat.le_refl]
    exact ⟨_, rfl, rfl⟩
  | k + 1, i, n + 1, hi, hn => by
    have h1 : ¬ 28 ≤ i := by omega
    have h2 : i < 28 := by omega
    rw [m207_L2]
    by_cases c0 : D.1 7 i = v
    · simp (disch := omega) only [q_l0, q_l1, q_l2, q_l3, q_l4, q_l5, q_l6, q_l7, q_l8, q_l9, q_l10, q_l13, q_l15, q_l17, q_l18, q_l19, q_l21, q_l22, q_l23, q_l25, q_l27, q_l28, q_l31, q_l33, q_l41, q_l43, q_l44, q_l45, q_l48, q_l49, q_l51, q_l52, q_l53, q_l54, q_l56, q_l57, q_l58, q_l59, q_l60, q_l62, q_l63, q_l64, q_l73, q_l81, q_l99, q_l108, q_l109, q_l112, q_l116, q_l126, q_l127, q_l128, q_l137, q_l165, q_l484, q_l1023, q_l1320, q_l4095, q_l4096, q_lm, am_lt, q_le, q_lt, q_tn, q_add, q_ite, Nat.zero_le, and_self, true_and, and_true, if_true, if_false, ite_self, h1, h2, c0]
      exact ⟨_, rfl, by simp [q_fst, c0]⟩
    · simp (disch := omega) only [q_l0, q_l1, q_l2, q_l3, q_l4, q_l5, q_l6, q_l7, q_l8, q_l9, q_l10, q_l13, q_l15, q_l17, q_l18, q_l19, q_l21, q_l22, q_l23, q_l25, q_l27, q_l28, q_l31, q_l33, q_l41, q_l43, q_l44, q_l45, q_l48, q_l49, q_l51, q_l52, q_l53, q_l54, q_l56, q_l57, q_l58, q_l59, q_l60, q_l62, q_l63, q_l64, q_l73, q_l81, q_l99, q_l108, q_l109, q_l112, q_l116, q_l126, q_l127, q_l128, q_l137, q_l165, q_l484, q_l1023, q_l1320, q_l4095, q_l4096, q_lm, am_lt, q_le, q_lt, q_tn, q_add, q_ite, Nat.zero_le, and_self, true_and, and_true, if_true, if_false, ite_self, h1, h2, c0]
      simp only [q_fst, c0, if_false]
      exact q207_L k (i + 1) n (by omega) (by omega)
  | _, _, 0, _, hn => by omega
theorem q207 {N : Nat} (hN : 2000 ≤ N) {D : am_D} (v : Int32) : m207 N D v = some (q_fst (D.1 7) v 0 28) := by
  obtain ⟨q, h1, h2⟩ := q207_L (N := N) (D := D) (v := v) 28 0 N (by omega) (by omega)
  unfold m207
  show (m207_L2 N D v N (Int32.ofNat 0)).bind _ = _
  rw [h1, ← h2]
  show (if q.1 = 0 then some q_nn else some q.2) = _
  split <;> rfl
theorem q114_L {N : Nat} {D : am_D} {v : Int32} : ∀ (k i n : Nat), i + k = 28 → k < n → ∃ q, m114_L2 N D v n (Int32.ofNat i) = some q ∧ (if q.1 = 0 then q_nn else q.2) = q_fst (q_P D) v i k
  | 0, i, n + 1, hi, hn => by
    obtain rfl : i = 28 := by omega
    rw [m114_L2]
    simp (disch := omega) only [q_l0, q_l1, q_l2, q_l3, q_l4, q_l5, q_l6, q_l7, q_l8, q_l9, q_l10, q_l13, q_l15, q_l17, q_l18, q_l19, q_l21, q_l22, q_l23, q_l25, q_l27, q_l28, q_l31, q_l33, q_l41, q_l43, q_l44, q_l45, q_l48, q_l49, q_l51, q_l52, q_l53, q_l54, q_l56, q_l57, q_l58, q_l59, q_l60, q_l62, q_l63, q_l64, q_l73, q_l81, q_l99, q_l108, q_l109, q_l112, q_l116, q_l126, q_l127, q_l128, q_l137, q_l165, q_l484, q_l1023, q_l1320, q_l4095, q_l4096, q_lm, am_lt, q_le, q_lt, q_tn, q_add, q_ite, Nat.zero_le, and_self, true_and, and_true, if_true, if_false, ite_self, Nat.le_refl]
    exact ⟨_, rfl, rfl⟩
  | k + 1, i, n + 1, hi, hn => by
    have h1 : ¬ 28 ≤ i := by omega
    have h2 : i < 28 := by omega
    rw [m114_L2, q56 D h2]
    by_cases c0 : q_P D i = v
    · simp (disch := omega) only [q_l0, q_l1, q_l2, q_l3, q_l4, q_l5, q_l6, q_l7, q_l8, q_l9, q_l10, q_l13, q_l15, q_l17, q_l18, q_l19, q_l21, q_l22, q_l23, q_l25, q_l27, q_l28, q_l31, q_l33, q_l41, q_l43, q_l44, q_l45, q_l48, q_l49, q_l51, q_l52, q_l53, q_l54, q_l56, q_l57, q_l58, q_l59, q_l60, q_l62, q_l63, q_l64, q_l73, q_l81, q_l99, q_l108, q_l109, q_l112, q_l116, q_l126, q_l127, q_l128, q_l137, q_l165, q_l484, q_l1023, q_l1320, q_l4095, q_l4096, q_lm, am_lt, q_le, q_lt, q_tn, q_add, q_ite, Nat.zero_le, and_self, true_and, and_true, if_true, if_false, ite_self, h1, h2, c0, Option.bind_some, q_eq, Nat.one_ne_zero]
      exact ⟨_, rfl, by simp [q_fst, c0]⟩
    · simp (disch := omega) only [q_l0, q_l1, q_l2, q_l3, q_l4, q_l5, q_l6, q_l7, q_l8, q_l9, q_l10, q_l13, q_l15, q_l17, q_l18, q_l19, q_l21, q_l22, q_l23, q_l25, q_l27, q_l28, q_l31, q_l33, q_l41, q_l43, q_l44, q_l45, q_l48, q_l49, q_l51, q_l52, q_l53, q_l54, q_l56, q_l57, q_l58, q_l59, q_l60, q_l62, q_l63, q_l64, q_l73, q_l81, q_l99, q_l108, q_l109, q_l112, q_l116, q_l126, q_l127, q_l128, q_l137, q_l165, q_l484, q_l1023, q_l1320, q_l4095, q_l4096, q_lm, am_lt, q_le, q_lt, q_tn, q_add, q_ite, Nat.zero_le, and_self, true_and, and_true, if_true, if_false, ite_self, h1, h2, c0, Option.bind_some, q_eq]
      simp only [q_fst, c0, if_false]
      exact q114_L k (i + 1) n (by omega) (by omega)
  | _, _, 0, _, hn => by omega
theorem q114 {N : Nat} (hN : 2000 ≤ N) {D : am_D} (v : Int32) : m114 N D v = some (q_fst (q_P D) v 0 28) := by
  obtain ⟨q, h1, h2⟩ := q114_L (N := N) (D := D) (v := v) 28 0 N (by omega) (by omega)
  unfold m114
  show (m114_L2 N D v N (Int32.ofNat 0)).bind _ = _
  rw [h1, ← h2]
  show (if q.1 = 0 then some q_nn else some q.2) = _
  split <;> rfl
theorem q135 {N : Nat} (hN : 2000 ≤ N) {D : am_D} : m135 N D = some (Int32.ofNat 28 - Int32.ofNat (q_cnt (q_P D) 4) - Int32.ofNat (q_cnt (q_P D) 5)) := by
  unfold m135
  rw [q57 hN, q57 hN]
  rfl

