/-! begin, gather: the calls -/
section ME
variable {D : am_D}
theorem q83_L1 {N : Nat} {v : Int32} : ∀ (k i m : Nat) (E : am_D), i + k = 28 → k < m → ∃ E', m83_L39 N v m E (Int32.ofNat i) = some E' ∧ (∀ a, a ≠ 107 → E'.1 a = E.1 a) ∧ E'.2 = E.2 ∧ ∀ j, E'.1 107 j = if 25 + i ≤ j ∧ j < 53 then 5 else E.1 107 j
  | 0, i, m + 1, E, hi, hm => by
    obtain rfl : i = 28 := by omega
    rw [m83_L39]
    simp (disch := omega) only [q_l0, q_l1, q_l2, q_l3, q_l4, q_l5, q_l6, q_l7, q_l8, q_l9, q_l10, q_l13, q_l15, q_l17, q_l18, q_l19, q_l21, q_l22, q_l23, q_l25, q_l27, q_l28, q_l31, q_l33, q_l41, q_l43, q_l44, q_l45, q_l48, q_l49, q_l51, q_l52, q_l53, q_l54, q_l56, q_l57, q_l58, q_l59, q_l60, q_l62, q_l63, q_l64, q_l73, q_l81, q_l99, q_l108, q_l109, q_l112, q_l116, q_l126, q_l127, q_l128, q_l137, q_l165, q_l484, q_l1023, q_l1320, q_l4095, q_l4096, q_lm, am_lt, q_le, q_lt, q_tn, q_add, q_ite, Nat.zero_le, and_self, true_and, and_true, if_true, if_false, ite_self, Nat.le_refl]
    exact ⟨E, rfl, fun _ _ => rfl, rfl, fun j => by rw [if_neg (by omega)]⟩
  | k + 1, i, m + 1, E, hi, hm => by
    have h1 : ¬ 28 ≤ i := by omega
    have h2 : 25 + i < 1320 := by omega
    rw [m83_L39]
    simp (disch := omega) only [q_l0, q_l1, q_l2, q_l3, q_l4, q_l5, q_l6, q_l7, q_l8, q_l9, q_l10, q_l13, q_l15, q_l17, q_l18, q_l19, q_l21, q_l22, q_l23, q_l25, q_l27, q_l28, q_l31, q_l33, q_l41, q_l43, q_l44, q_l45, q_l48, q_l49, q_l51, q_l52, q_l53, q_l54, q_l56, q_l57, q_l58, q_l59, q_l60, q_l62, q_l63, q_l64, q_l73, q_l81, q_l99, q_l108, q_l109, q_l112, q_l116, q_l126, q_l127, q_l128, q_l137, q_l165, q_l484, q_l1023, q_l1320, q_l4095, q_l4096, q_lm, am_lt, q_le, q_lt, q_tn, q_add, q_ite, Nat.zero_le, and_self, true_and, and_true, if_true, if_false, ite_self, h1, h2]
    obtain ⟨E', e1, e2, e3, e4⟩ := q83_L1 k (i + 1) m (am_uI E 107 (25 + i) (Int32.ofNat 5)) (by omega) (by omega)
    refine ⟨E', e1, fun a ha => by rw [e2 a ha, q_uI_ne _ ha], e3, fun j => ?_⟩
    rw [e4 j, q_uI_at]
    by_cases c1 : j = 25 + i
    · subst c1
      rw [if_neg (by omega), if_pos ⟨rfl, rfl⟩, if_pos (by omega)]
    · rw [if_neg (show ¬ (107 = 107 ∧ j = 25 + i) by omega)]
      by_cases d : 25 + i ≤ j ∧ j < 53
      · rw [if_pos d, if_pos (by omega)]; rfl
      · rw [if_neg d, if_neg (by omega)]
  | _, _, 0, _, _, hm => by omega
theorem q83_L2 {N : Nat} {v : Int32} : ∀ (k i m : Nat) (E : am_D), i + k = 4 → k < m → ∃ E', m83_L63 N v m E (Int32.ofNat i) = some E' ∧ (∀ a, a ≠ 107 → E'.1 a = E.1 a) ∧ E'.2 = E.2 ∧ ∀ j, E'.1 107 j = if 17 + i ≤ j ∧ j < 21 then 0 else E.1 107 j
  | 0, i, m + 1, E, hi, hm => by
    obtain rfl : i = 4 := by omega
    rw [m83_L63]
    simp (disch := omega) only [q_l0, q_l1, q_l2, q_l3, q_l4, q_l5, q_l6, q_l7, q_l8, q_l9, q_l10, q_l13, q_l15, q_l17, q_l18, q_l19, q_l21, q_l22, q_l23, q_l25, q_l27, q_l28, q_l31, q_l33, q_l41, q_l43, q_l44, q_l45, q_l48, q_l49, q_l51, q_l52, q_l53, q_l54, q_l56, q_l57, q_l58, q_l59, q_l60, q_l62, q_l63, q_l64, q_l73, q_l81, q_l99, q_l108, q_l109, q_l112, q_l116, q_l126, q_l127, q_l128, q_l137, q_l165, q_l484, q_l1023, q_l1320, q_l4095, q_l4096, q_lm, am_lt, q_le, q_lt, q_tn, q_add, q_ite, Nat.zero_le, and_self, true_and, and_true, if_true, if_false, ite_self, Nat.le_refl]
    exact ⟨E, rfl, fun _ _ => rfl, rfl, fun j => by rw [if_neg (by omega)]⟩
  | k + 1, i, m + 1, E, hi, hm => by
    have h1 : ¬ 4 ≤ i := by omega
    have h2 : 17 + i < 1320 := by omega
    rw [m83_L63]
    simp (disch := omega) only [q_l0, q_l1, q_l2, q_l3, q_l4, q_l5, q_l6, q_l7, q_l8, q_l9, q_l10, q_l13, q_l15, q_l17, q_l18, q_l19, q_l21, q_l22, q_l23, q_l25, q_l27, q_l28, q_l31, q_l33, q_l41, q_l43, q_l44, q_l45, q_l48, q_l49, q_l51, q_l52, q_l53, q_l54, q_l56, q_l57, q_l58, q_l59, q_l60, q_l62, q_l63, q_l64, q_l73, q_l81, q_l99, q_l108, q_l109, q_l112, q_l116, q_l126, q_l127, q_l128, q_l137, q_l165, q_l484, q_l1023, q_l1320, q_l4095, q_l4096, q_lm, am_lt, q_le, q_lt, q_tn, q_add, q_ite, Nat.zero_le, and_self, true_and, and_true, if_true, if_false, ite_self, h1, h2]
    obtain ⟨E', e1, e2, e3, e4⟩ := q83_L2 k (i + 1) m (am_uI E 107 (17 + i) (Int32.ofNat 0)) (by omega) (by omega)
    refine ⟨E', e1, fun a ha => by rw [e2 a ha, q_uI_ne _ ha], e3, fun j => ?_⟩
    rw [e4 j, q_uI_at]
    by_cases c1 : j = 17 + i
    · subst c1
      rw [if_neg (by omega), if_pos ⟨rfl, rfl⟩, if_pos (by omega)]
    · rw [if_neg (show ¬ (107 = 107 ∧ j = 17 + i) by omega)]
      by_cases d : 17 + i ≤ j ∧ j < 21
      · rw [if_pos d, if_pos (by omega)]; rfl
      · rw [if_neg d, if_neg (by omega)]
  | _, _, 0, _, _, hm => by omega
theorem q_rf_fr {D : am_D} {a n : Nat} {x : Int32} (h : 1 ≤ a ∧ a ≤ 11) : q_fr D (am_rfill D a n x) := ⟨fun b hb => q_rf_ne _ (by omega), rfl⟩
/-- whether a round can begin -/
theorem q216 {N : Nat} (hN : 2000 ≤ N) {n p : Nat} {T V : Nat → Nat} (hK : q_K D n p T V) : m216 N D = some (Int32.ofNat (if p = 0 ∧ q_cnt (q_P D) (Int32.ofNat 5) = 0 then 1 else 0)) := by
  have hp := k_p3 hK
  have e0 : q_all (q_cnt (D.1 7)) = q_all (q_cnt (q_P D)) := by
    have : q_cnt (D.1 7) = q_cnt (q_P D) := funext fun v => q_cnt_congr (k_pl hK)
    rw [this]
  have e1 := q_part (k_pw hK)
  unfold m216
  rw [k_p' hK, q210 hN, e0]
  by_cases h0 : p = 0
  · have h4 : q_cnt (q_P D) (Int32.ofNat 4) = 0 := q_cnt_0.mpr (fun t ht e => by
      obtain ⟨k, hk, -⟩ := (k_in hK t ht).mp e
      have := k_p0 hK h0
      omega)
    by_cases h5 : q_cnt (q_P D) (Int32.ofNat 5) = 0
    · have h6 : q_all (q_cnt (q_P D)) = 28 := by omega
      simp (disch := omega) only [q_l0, q_l1, q_l2, q_l3, q_l4, q_l5, q_l6, q_l7, q_l8, q_l9, q_l10, q_l13, q_l15, q_l17, q_l18, q_l19, q_l21, q_l22, q_l23, q_l25, q_l27, q_l28, q_l31, q_l33, q_l41, q_l43, q_l44, q_l45, q_l48, q_l49, q_l51, q_l52, q_l53, q_l54, q_l56, q_l57, q_l58, q_l59, q_l60, q_l62, q_l63, q_l64, q_l73, q_l81, q_l99, q_l108, q_l109, q_l112, q_l116, q_l126, q_l127, q_l128, q_l137, q_l165, q_l484, q_l1023, q_l1320, q_l4095, q_l4096, q_lm, am_lt, q_le, q_lt, q_tn, q_add, q_ite, Nat.zero_le, and_self, true_and, and_true, if_true, if_false, ite_self, q_eq, h0, h5, h6, Option.bind_some]
    · have h6 : ¬ q_all (q_cnt (q_P D)) = 28 := by omega
      simp (disch := omega) only [q_l0, q_l1, q_l2, q_l3, q_l4, q_l5, q_l6, q_l7, q_l8, q_l9, q_l10, q_l13, q_l15, q_l17, q_l18, q_l19, q_l21, q_l22, q_l23, q_l25, q_l27, q_l28, q_l31, q_l33, q_l41, q_l43, q_l44, q_l45, q_l48, q_l49, q_l51, q_l52, q_l53, q_l54, q_l56, q_l57, q_l58, q_l59, q_l60, q_l62, q_l63, q_l64, q_l73, q_l81, q_l99, q_l108, q_l109, q_l112, q_l116, q_l126, q_l127, q_l128, q_l137, q_l165, q_l484, q_l1023, q_l1320, q_l4095, q_l4096, q_lm, am_lt, q_le, q_lt, q_tn, q_add, q_ite, Nat.zero_le, and_self, true_and, and_true, if_true, if_false, ite_self, q_eq, h0, h5, h6, Option.bind_some, and_false]
  · simp (disch := omega) only [q_l0, q_l1, q_l2, q_l3, q_l4, q_l5, q_l6, q_l7, q_l8, q_l9, q_l10, q_l13, q_l15, q_l17, q_l18, q_l19, q_l21, q_l22, q_l23, q_l25, q_l27, q_l28, q_l31, q_l33, q_l41, q_l43, q_l44, q_l45, q_l48, q_l49, q_l51, q_l52, q_l53, q_l54, q_l56, q_l57, q_l58, q_l59, q_l60, q_l62, q_l63, q_l64, q_l73, q_l81, q_l99, q_l108, q_l109, q_l112, q_l116, q_l126, q_l127, q_l128, q_l137, q_l165, q_l484, q_l1023, q_l1320, q_l4095, q_l4096, q_lm, am_lt, q_le, q_lt, q_tn, q_add, q_ite, Nat.zero_le, and_self, true_and, and_true, if_true, if_false, ite_self, q_eq, h0, false_and]
theorem g_begin {N : Nat} (hN : 2000 ≤ N) (hI : q_I D) (v1 : Int32) : q_G (fun D => m262 N D v1) (fun D => m82 N D v1) D := by
  obtain ⟨n, p, T, V, hK⟩ := q_I_K hI
  have hp := k_p3 hK
  have hB := hI.1
  have c5 := q_cnt_le (q_P D) (Int32.ofNat 5)
  have m0 : ∀ F : am_D, F.1 107 = D.1 107 → ((if (F.1 107 0) = 0 then ((m57 N F (5 : Int32)).bind fun q5 => (if q5 = 0 then (some (1 : Int32)) else (some (0 : Int32)))) else (some (0 : Int32)))) = some (Int32.ofNat (if p = 0 ∧ q_cnt (q_P D) (Int32.ofNat 5) = 0 then 1 else 0)) := fun F hF => by
    have hP : q_P F = q_P D := by unfold q_P; rw [hF]
    rw [hF, k_p hK, q57 hN, hP]
    by_cases h0 : p = 0
    · by_cases h5 : q_cnt (q_P D) (Int32.ofNat 5) = 0
      · simp (disch := omega) only [q_l0, q_l1, q_l2, q_l3, q_l4, q_l5, q_l6, q_l7, q_l8, q_l9, q_l10, q_l13, q_l15, q_l17, q_l18, q_l19, q_l21, q_l22, q_l23, q_l25, q_l27, q_l28, q_l31, q_l33, q_l41, q_l43, q_l44, q_l45, q_l48, q_l49, q_l51, q_l52, q_l53, q_l54, q_l56, q_l57, q_l58, q_l59, q_l60, q_l62, q_l63, q_l64, q_l73, q_l81, q_l99, q_l108, q_l109, q_l112, q_l116, q_l126, q_l127, q_l128, q_l137, q_l165, q_l484, q_l1023, q_l1320, q_l4095, q_l4096, q_lm, am_lt, q_le, q_lt, q_tn, q_add, q_ite, Nat.zero_le, and_self, true_and, and_true, if_true, if_false, ite_self, q_eq, h0, h5, Option.bind_some]
      · simp (disch := omega) only [q_l0, q_l1, q_l2, q_l3, q_l4, q_l5, q_l6, q_l7, q_l8, q_l9, q_l10, q_l13, q_l15, q_l17, q_l18, q_l19, q_l21, q_l22, q_l23, q_l25, q_l27, q_l28, q_l31, q_l33, q_l41, q_l43, q_l44, q_l45, q_l48, q_l49, q_l51, q_l52, q_l53, q_l54, q_l56, q_l57, q_l58, q_l59, q_l60, q_l62, q_l63, q_l64, q_l73, q_l81, q_l99, q_l108, q_l109, q_l112, q_l116, q_l126, q_l127, q_l128, q_l137, q_l165, q_l484, q_l1023, q_l1320, q_l4095, q_l4096, q_lm, am_lt, q_le, q_lt, q_tn, q_add, q_ite, Nat.zero_le, and_self, true_and, and_true, if_true, if_false, ite_self, q_eq, h0, h5, Option.bind_some, and_false]
    · simp (disch := omega) only [q_l0, q_l1, q_l2, q_l3, q_l4, q_l5, q_l6, q_l7, q_l8, q_l9, q_l10, q_l13, q_l15, q_l17, q_l18, q_l19, q_l21, q_l22, q_l23, q_l25, q_l27, q_l28, q_l31, q_l33, q_l41, q_l43, q_l44, q_l45, q_l48, q_l49, q_l51, q_l52, q_l53, q_l54, q_l56, q_l57, q_l58, q_l59, q_l60, q_l62, q_l63, q_l64, q_l73, q_l81, q_l99, q_l108, q_l109, q_l112, q_l116, q_l126, q_l127, q_l128, q_l137, q_l165, q_l484, q_l1023, q_l1320, q_l4095, q_l4096, q_lm, am_lt, q_le, q_lt, q_tn, q_add, q_ite, Nat.zero_le, and_self, true_and, and_true, if_true, if_false, ite_self, q_eq, h0, false_and]
  have c1 := q216 hN hK
  rcases q40 v1 with ⟨x, hx, rfl, e1, e2⟩ | ⟨e1, e2⟩
  · by_cases hc : p = 0 ∧ q_cnt (q_P D) (Int32.ofNat 5) = 0
    · rw [if_pos hc] at c1 m0
      obtain ⟨rfl, hc5⟩ := hc
      have h5 := q_cnt_0.mp hc5
      obtain ⟨D1, d1, d2⟩ := q_sav hI
      have p1 := (q_pre_1 d2).1
      obtain ⟨D', hD'⟩ : ∃ D', m217 D1 (Int32.ofNat x) = D' := ⟨_, rfl⟩
      have hfr : q_fr D1 D' := by
        rw [← hD']
        exact ((((((((q_rf_fr (by omega)).tr (q_rf_fr (by omega))).tr (q_rf_fr (by omega))).tr (q_fr_uI (by omega))).tr (q_fr_uI (by omega))).tr (q_fr_uI (by omega))).tr (q_fr_uI (by omega))).tr (q_fr_uI (by omega))).tr (q_fr_uI (by omega))
      have cD : ∀ a b, 1 ≤ a → a ≤ 11 → D'.1 a b = if a = 1 then (if b = 12 then D.1 1 12 + 1 else if b = 11 then 0 else if b = 9 then q_nn else if b = 8 then m185 (Int32.ofNat x) else if b = 7 then Int32.ofNat x else if b = 6 then 1 else D.1 1 b) else if a = 8 then (if b < 4 then D.1 1 10 else D.1 8 b) else if a = 9 then (if b < 4 then 0 else D.1 9 b) else if a = 10 then (if b < 4 then 0 else D.1 10 b) else D.1 a b := by
        intro a b h1 h2
        rw [← hD']
        unfold m217
        simp only [am_lt, q_uI_at, q_rf_at, p1 a (by omega), p1 1 (by omega)]
        obtain rfl | rfl | rfl | rfl | rfl | rfl | rfl | rfl | rfl | rfl | rfl : a = 1 ∨ a = 2 ∨ a = 3 ∨ a = 4 ∨ a = 5 ∨ a = 6 ∨ a = 7 ∨ a = 8 ∨ a = 9 ∨ a = 10 ∨ a = 11 := by omega
        all_goals simp
        rfl
      have b3 : q_dbl (D'.1 7) (Int32.ofNat x) = q_dbl (q_P D) (Int32.ofNat x) := q_dbl_congr (fun t ht => by rw [cD 7 t (by omega) (by omega)]; simp; exact k_pl hK t ht)
      obtain ⟨E1, f1, f2⟩ := q_pre_of hN hI d2 hfr (Int32.ofNat (q_dbl (q_P D) (Int32.ofNat x))).toInt64
      obtain ⟨s1, s2, s3, s4, s5, s6⟩ := q_pre_s f2
      obtain ⟨E2, hE2⟩ : ∃ E2, E2 = am_uI (am_uI (am_uI (am_uI (am_uI (am_uI E1 107 0 (1 : Int32)) 107 1 (Int32.ofNat x)) 107 2 ((Int32.ofNat x + (1 : Int32)) - (Int32.ofNat x + (1 : Int32)) / (4 : Int32) * (4 : Int32))) 107 4 (0 : Int32)) 107 5 (-1 : Int32)) 107 8 ((am_uI (am_uI (am_uI (am_uI (am_uI E1 107 0 (1 : Int32)) 107 1 (Int32.ofNat x)) 107 2 ((Int32.ofNat x + (1 : Int32)) - (Int32.ofNat x + (1 : Int32)) / (4 : Int32) * (4 : Int32))) 107 4 (0 : Int32)) 107 5 (-1 : Int32)).1 107 8 + (1 : Int32)) := ⟨_, rfl⟩
      have hm2 : q_fm E1 E2 := by
        rw [hE2]
        exact (((((q_fm_uI (by omega)).tr (q_fm_uI (by omega))).tr (q_fm_uI (by omega))).tr (q_fm_uI (by omega))).tr (q_fm_uI (by omega))).tr (q_fm_uI (by omega))
      have E2s : ∀ j, E2.1 107 j = if j = 8 then E1.1 107 8 + 1 else if j = 5 then q_nn else if j = 4 then 0 else if j = 2 then Int32.ofNat ((x + 1) % 4) else if j = 1 then Int32.ofNat x else if j = 0 then 1 else E1.1 107 j := fun j => by
        have : ((Int32.ofNat x + (1 : Int32)) - (Int32.ofNat x + (1 : Int32)) / (4 : Int32) * (4 : Int32)) = Int32.ofNat ((x + 1) % 4) := q_md4' x hx 1 (by omega)
        rw [hE2, this]
        simp only [q_uI_at, true_and]
        rfl
      have E2o : ∀ a, a ≠ 107 → E2.1 a = E1.1 a := fun a ha => by rw [hE2, q_uI_ne _ ha, q_uI_ne _ ha, q_uI_ne _ ha, q_uI_ne _ ha, q_uI_ne _ ha, q_uI_ne _ ha]
      obtain ⟨D2, h1, h2, h3, h4⟩ := q82_L (N := N) (v := Int32.ofNat x) 4 0 N E2 (by omega) (by omega)
      have hm3 : q_fm E2 D2 := ⟨fun a ha => h2 a (by omega), ⟨by rw [h2 106 (by omega)], by rw [h2 106 (by omega)], by rw [h2 106 (by omega)]⟩, fun o h5 h6 k hk => by
        show D2.1 107 _ = E2.1 107 _
        rw [h4, if_neg (by omega), if_neg (by omega)], h3⟩
      have s1' : ∀ k, k < 165 → E1.1 107 k = D.1 107 k := fun k hk => s1 k hk
      have hP2 : ∀ t, t < 28 → q_P D2 t = q_P D t := fun t ht => by
        show D2.1 107 (25 + t) = D.1 107 (25 + t)
        rw [h4, if_neg (by omega), if_neg (by omega), E2s, if_neg (by omega), if_neg (by omega), if_neg (by omega), if_neg (by omega), if_neg (by omega), if_neg (by omega), s1' _ (by omega)]
      have D2s : ∀ k, k < 165 → q_s D2 0 k = if 13 ≤ k ∧ k < 17 then D.1 107 3 else if (17 ≤ k ∧ k < 21) ∨ (21 ≤ k ∧ k < 25) then 0 else if k = 8 then D.1 107 8 + 1 else if k = 5 then q_nn else if k = 4 then 0 else if k = 2 then Int32.ofNat ((x + 1) % 4) else if k = 1 then Int32.ofNat x else if k = 0 then 1 else D.1 107 k := fun k hk => by
        show D2.1 107 k = _
        rw [h4, E2s, E2s, s1' 8 (by omega), s1' k hk, s1' 3 (by omega)]
        rfl
      have hC : q_C4 (q_c D' 1) (q_s D2 0) n 1 T V := by
        have z : ∀ i j, i ≤ 10 → q_c D' 1 i j = D'.1 (1 + i) j := fun _ _ _ => rfl
        refine c_beg hK h5 hx (fun i j h1 h2 => ?_) (fun j hj => ?_) (fun j hj => ?_) (fun j hj => ?_) (fun j => ?_) ?_ ?_ ?_ ?_ ?_ ?_ ?_ ?_ ?_ ?_ ?_ ?_ ?_ ?_ ?_ ?_ ?_ (fun k hk => ?_) (fun j hj => ?_) (fun j hj => ?_) (fun j hj => ?_)
        · show D'.1 (1 + i) j = D.1 (1 + i) j
          rw [cD _ _ (by omega) (by omega), if_neg (by omega), if_neg (by omega), if_neg (by omega), if_neg (by omega)]
        · show D'.1 8 j = D.1 1 10
          rw [cD _ _ (by omega) (by omega)]; simp [hj]
        · show D'.1 9 j = 0
          rw [cD _ _ (by omega) (by omega)]; simp [hj]
        · show D'.1 10 j = 0
          rw [cD _ _ (by omega) (by omega)]; simp [hj]
        · show D'.1 11 j = D.1 11 j
          rw [cD _ _ (by omega) (by omega)]; simp
        · show D'.1 1 6 = 1
          rw [cD _ _ (by omega) (by omega)]; simp
        · show D'.1 1 7 = _
          rw [cD _ _ (by omega) (by omega)]; simp
        · show D'.1 1 8 = _
          rw [cD _ _ (by omega) (by omega), (q_md4 x hx).1]; simp
        · show D'.1 1 9 = _
          rw [cD _ _ (by omega) (by omega)]; simp
        · show D'.1 1 10 = D.1 1 10
          rw [cD _ _ (by omega) (by omega)]; simp
        · show D'.1 1 11 = 0
          rw [cD _ _ (by omega) (by omega)]; simp
        · show D'.1 1 12 = D.1 1 12 + 1
          rw [cD _ _ (by omega) (by omega)]; simp
        · show D'.1 1 13 = D.1 1 13
          rw [cD _ _ (by omega) (by omega)]; simp
        · show D'.1 1 14 = D.1 1 14
          rw [cD _ _ (by omega) (by omega)]; simp
        · show D'.1 1 15 = D.1 1 15
          rw [cD _ _ (by omega) (by omega)]; simp
        · rw [D2s 0 (by omega)]; simp
        · rw [D2s 1 (by omega)]; simp
        · rw [D2s 2 (by omega)]; simp
        · rw [D2s 3 (by omega)]; simp; rfl
        · rw [D2s 4 (by omega)]; simp
        · rw [D2s 5 (by omega)]; simp
        · rw [D2s 8 (by omega)]; simp; rfl
        · rw [D2s k (by omega), if_neg (by omega), if_neg (by omega), if_neg (by omega), if_neg (by omega), if_neg (by omega), if_neg (by omega), if_neg (by omega), if_neg (by omega)]; rfl
        · rw [D2s _ (by omega), if_pos (by omega)]; rfl
        · rw [D2s _ (by omega), if_neg (by omega), if_pos (by omega)]
        · rw [D2s _ (by omega), if_neg (by omega), if_pos (by omega)]
      have hX : q_tx D' D2 := q_tx_same hI f2 (hm2.tr hm3) (by
        rw [← hD']
        unfold m217
        simp only [am_lt]
        rw [q_uI_ne _ (by omega), q_uI_ne _ (by omega), q_uI_ne _ (by omega), q_uI_ne _ (by omega), q_uI_ne _ (by omega), q_uI_ne _ (by omega), q_rf_ne _ (by omega), q_rf_ne _ (by omega), q_rf_ne _ (by omega)]) (by rw [h2 106 (by omega), E2o 106 (by omega)])
      refine q_G_mu (Int32.ofNat (q_dbl (q_P D) (Int32.ofNat x))) hI f2 (hm2.tr hm3) ⟨n, 1, T, V, hC⟩ hX ?_ ?_
      · show m262 N D _ = _
        unfold m262 m3
        rw [if_neg (by rw [e1]; decide), c1, Option.bind_some, if_neg (by decide), d1, Option.bind_some, hD']
        simp only [am_lt, q206 hN, b3, Option.bind_some]
        rfl
      · show m82 N _ _ = _
        have z : (am_uJ D' 124 0 (Int32.ofNat (q_dbl (q_P D) (Int32.ofNat x))).toInt64).1 107 = D.1 107 := by
          show D'.1 107 = _
          rw [hfr.1 107 (by omega), p1 107 (by omega)]
        have hB2 : q_B D2 := by
          intro t ht
          rw [(hm2.tr hm3).1 109 (by omega), (hm2.tr hm3).1 110 (by omega), s2 109 (by omega), s2 110 (by omega)]
          exact hB t ht
        have h1' : m82_L108 N (Int32.ofNat x) N E2 0 = some D2 := h1
        unfold m82
        rw [m0 _ z, Option.bind_some, e2]
        simp only [am_lt, q_10, if_false, show (Int32.ofNat 1 = 0) = False from q_10, q47a, f1, Option.bind_some, ← hE2, h1', q81 hN hB2, q_dbl_congr hP2]
    · rw [if_neg hc] at c1 m0
      refine q_G_ex hI 2 (by omega) ?_ ?_
      · show m262 N D _ = _
        unfold m262 m3
        rw [if_neg (by rw [e1]; decide), c1, Option.bind_some, if_pos (by decide)]
        rfl
      · show m82 N D _ = _
        unfold m82
        rw [m0 D rfl, Option.bind_some, e2]
        simp only [am_lt, q_10, if_false, show (Int32.ofNat 0 = 0) = True from by decide, if_true, q47c]
        rfl
  · refine q_G_ex hI 1 (by omega) ?_ ?_
    · show m262 N D _ = _
      unfold m262 m3
      rw [if_pos e1]
      rfl
    · show m82 N D _ = _
      unfold m82
      rw [m0 D rfl, Option.bind_some, e2]
      simp only [am_lt, if_true, q47b]
      rfl
theorem g_gather {N : Nat} (hN : 2000 ≤ N) (hI : q_I D) : q_G (fun D => m263 N D) (fun D => m83 N D) D := by
  obtain ⟨n, p, T, V, hK⟩ := q_I_K hI
  have hp := k_p3 hK
  by_cases hp1 : p = 1
  · refine q_G_ex hI 1 (by omega) ?_ ?_
    · show m263 N D = _
      have e4 : D.1 1 6 = 1 := by rw [k_p' hK, hp1]; rfl
      unfold m263 m4
      rw [if_pos e4]; rfl
    · show m83 N D = _
      have e4 : D.1 107 0 = 1 := by rw [k_p hK, hp1]; rfl
      unfold m83
      simp only [am_lt, e4, if_true, q47b]
      rfl
  · obtain ⟨D1, d1, d2⟩ := q_sav hI
    have p1 := (q_pre_1 d2).1
    have hc5 : q_cnt (D1.1 7) 5 = q_cnt (q_P D) (Int32.ofNat 5) := by rw [p1 7 (by omega)]; exact q_cnt_congr (k_pl hK)
    have hle := q_cnt_le (q_P D) (Int32.ofNat 5)
    obtain ⟨D', hD'⟩ : ∃ D', D' = am_uI (am_uI (m153 (am_rfill (am_rfill D1 7 28 5) 9 4 0)) 1 6 0) 1 9 (-1) := ⟨_, rfl⟩
    have hfr : q_fr D1 D' := by
      rw [hD']
      exact ((((((q_rf_fr (by omega)).tr (q_rf_fr (by omega))).tr (q_fr_uI (by omega))).tr (q_fr_uI (by omega))).tr (q_fr_uI (by omega))).tr (q_fr_uI (by omega))).tr (q_fr_uI (by omega))
    have cD : ∀ a b, 1 ≤ a → a ≤ 11 → D'.1 a b = if a = 1 then (if b = 9 then q_nn else if b = 6 then 0 else D.1 1 b) else if a = 2 then (if b = 6 then q_nn else if b = 5 then q_nn else if b = 4 then 0 else D.1 2 b) else if a = 9 then (if b < 4 then 0 else D.1 9 b) else if a = 7 then (if b < 28 then 5 else D.1 7 b) else D.1 a b := by
      intro a b h1 h2
      rw [hD']
      unfold m153
      simp only [am_lt, q_uI_at, q_rf_at, p1 a (by omega)]
      obtain rfl | rfl | rfl | rfl | rfl | rfl | rfl | rfl | rfl | rfl | rfl : a = 1 ∨ a = 2 ∨ a = 3 ∨ a = 4 ∨ a = 5 ∨ a = 6 ∨ a = 7 ∨ a = 8 ∨ a = 9 ∨ a = 10 ∨ a = 11 := by omega
      all_goals simp
      all_goals rfl
    have e218 : m218 N D1 = some (Int32.ofNat (28 - q_cnt (q_P D) (Int32.ofNat 5)), D') := by
      unfold m218
      rw [q204 hN, hc5, Option.bind_some, hD']
      simp only [am_lt]
      rw [q_l28, q_sub hle]
    obtain ⟨E1, f1, f2⟩ := q_pre_of hN hI d2 hfr (Int32.ofNat (28 - q_cnt (q_P D) (Int32.ofNat 5))).toInt64
    obtain ⟨s1, s2, s3, s4, s5, s6⟩ := q_pre_s f2
    have s1' : ∀ k, k < 165 → E1.1 107 k = D.1 107 k := fun k hk => s1 k hk
    have hcE : q_cnt (q_P E1) (Int32.ofNat 5) = q_cnt (q_P D) (Int32.ofNat 5) := q_cnt_congr (fun t ht => s1' (25 + t) (by omega))
    obtain ⟨E2, h1, h2, h3, h4⟩ := q83_L1 (N := N) (v := Int32.ofNat (28 - q_cnt (q_P D) (Int32.ofNat 5))) 28 0 N E1 (by omega) (by omega)
    obtain ⟨E3, k1, k2, k3, k4⟩ := q83_L2 (N := N) (v := Int32.ofNat (28 - q_cnt (q_P D) (Int32.ofNat 5))) 4 0 N E2 (by omega) (by omega)
    obtain ⟨D2, hD2⟩ : ∃ D2, D2 = am_uI (am_uI (am_uI E3 107 12 0) 107 5 (-1)) 107 0 0 := ⟨_, rfl⟩
    have hfm : q_fm E1 D2 := by
      rw [hD2]
      have a1 : q_fm E1 E2 := ⟨fun a ha => h2 a (by omega), ⟨by rw [h2 106 (by omega)], by rw [h2 106 (by omega)], by rw [h2 106 (by omega)]⟩, fun o h5 h6 k hk => by
        show E2.1 107 _ = E1.1 107 _
        rw [h4, if_neg (by omega)], h3⟩
      have a2 : q_fm E2 E3 := ⟨fun a ha => k2 a (by omega), ⟨by rw [k2 106 (by omega)], by rw [k2 106 (by omega)], by rw [k2 106 (by omega)]⟩, fun o h5 h6 k hk => by
        show E3.1 107 _ = E2.1 107 _
        rw [k4, if_neg (by omega)], k3⟩
      exact (((a1.tr a2).tr (q_fm_uI (by omega))).tr (q_fm_uI (by omega))).tr (q_fm_uI (by omega))
    have D2s : ∀ k, k < 165 → q_s D2 0 k = if k = 0 then 0 else if k = 5 then q_nn else if k = 12 then 0 else if 17 ≤ k ∧ k < 21 then 0 else if 25 ≤ k ∧ k < 53 then 5 else D.1 107 k := fun k hk => by
      show D2.1 107 k = _
      rw [hD2]
      simp only [q_uI_at, true_and]
      rw [k4, h4, s1' k hk]
      rfl
    have D2o : D2.1 106 5 = E1.1 106 5 := by rw [hD2, q_uI_ne _ (by omega), q_uI_ne _ (by omega), q_uI_ne _ (by omega), k2 106 (by omega), h2 106 (by omega)]
    have hC : q_C4 (q_c D' 1) (q_s D2 0) 0 0 T V := by
      refine c_gat hK hp1 ?_ ?_ ?_ (fun j hj => ?_) (fun j => ?_) (fun j hj => ?_) (fun j => ?_) (fun j => ?_) ?_ ?_ (fun j hj => ?_) ?_ ?_ ?_ (fun j hj => ?_) (fun j hj => ?_) (fun k hk => ?_)
      · show D'.1 2 4 = 0
        rw [cD _ _ (by omega) (by omega)]; simp
      · show D'.1 2 5 = _
        rw [cD _ _ (by omega) (by omega)]; simp
      · show D'.1 2 6 = _
        rw [cD _ _ (by omega) (by omega)]; simp
      · show D'.1 7 j = 5
        rw [cD _ _ (by omega) (by omega)]; simp [hj]
      · show D'.1 8 j = D.1 8 j
        rw [cD _ _ (by omega) (by omega)]; simp
      · show D'.1 9 j = 0
        rw [cD _ _ (by omega) (by omega)]; simp [hj]
      · show D'.1 10 j = D.1 10 j
        rw [cD _ _ (by omega) (by omega)]; simp
      · show D'.1 11 j = D.1 11 j
        rw [cD _ _ (by omega) (by omega)]; simp
      · show D'.1 1 6 = 0
        rw [cD _ _ (by omega) (by omega)]; simp
      · show D'.1 1 9 = _
        rw [cD _ _ (by omega) (by omega)]; simp
      · show D'.1 1 j = D.1 1 j
        rw [cD _ _ (by omega) (by omega), if_pos rfl, if_neg (by omega), if_neg (by omega)]
      · rw [D2s 0 (by omega)]; simp
      · rw [D2s 5 (by omega)]; simp
      · rw [D2s 12 (by omega)]; simp
      · rw [D2s _ (by omega), if_neg (by omega), if_neg (by omega), if_neg (by omega), if_pos (by omega)]
      · rw [D2s _ (by omega), if_neg (by omega), if_neg (by omega), if_neg (by omega), if_neg (by omega), if_pos (by omega)]
      · rw [D2s _ (by omega), if_neg (by omega), if_neg (by omega), if_neg (by omega), if_neg (by omega), if_neg (by omega)]; rfl
    have hX : q_tx D' D2 := q_tx_same hI f2 hfm (by
      rw [hD']
      unfold m153
      simp only [am_lt]
      rw [q_uI_ne _ (by omega), q_uI_ne _ (by omega), q_uI_ne _ (by omega), q_uI_ne _ (by omega), q_uI_ne _ (by omega), q_rf_ne _ (by omega), q_rf_ne _ (by omega)]) D2o
    refine q_G_mu (Int32.ofNat (28 - q_cnt (q_P D) (Int32.ofNat 5))) hI f2 hfm ⟨0, 0, T, V, hC⟩ hX ?_ ?_
    · show m263 N D = _
      have e4 : ¬ D.1 1 6 = 1 := by rw [k_p' hK, q_l1, q_eq (by omega) (by omega)]; exact hp1
      unfold m263 m4
      rw [if_neg e4, d1, Option.bind_some, e218]
      rfl
    · show m83 N _ = _
      have e4 : ¬ (am_uJ D' 124 0 (Int32.ofNat (28 - q_cnt (q_P D) (Int32.ofNat 5))).toInt64).1 107 0 = 1 := by
        show ¬ D'.1 107 0 = 1
        rw [hfr.1 107 (by omega), p1 107 (by omega), k_p hK, q_l1, q_eq (by omega) (by omega)]; exact hp1
      have z5 : m57 N E1 5 = some (Int32.ofNat (q_cnt (q_P D) (Int32.ofNat 5))) := by rw [q57 hN]; exact congrArg (fun x => some (Int32.ofNat x)) hcE
      have h1' : m83_L39 N (Int32.ofNat (28 - q_cnt (q_P D) (Int32.ofNat 5))) N E1 0 = some E2 := h1
      have k1' : m83_L63 N (Int32.ofNat (28 - q_cnt (q_P D) (Int32.ofNat 5))) N E2 0 = some E3 := k1
      have z6 : (28 : Int32) - Int32.ofNat (q_cnt (q_P D) (Int32.ofNat 5)) = Int32.ofNat (28 - q_cnt (q_P D) (Int32.ofNat 5)) := q_sub hle
      unfold m83
      simp only [am_lt, e4, if_false, q47a, q_10, f1, Option.bind_some, z5, z6, h1', k1', ← hD2]
end ME
