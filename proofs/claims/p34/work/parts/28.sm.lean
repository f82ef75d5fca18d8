/-! the model's copies -/
/-- row 107 with a copy of a place in another one -/
def q_mc (D E : am_D) (f t i : Nat) : Prop := (∀ a, a ≠ 107 → E.1 a = D.1 a) ∧ (∀ k, E.1 107 k = if 165 * t ≤ k ∧ k < 165 * t + i then D.1 107 (k - 165 * t + 165 * f) else D.1 107 k) ∧ E.2 = D.2
theorem q75_L {N f t : Nat} {D : am_D} (hf : f ≤ 7) (ht : t ≤ 7) (hne : f ≠ t) : ∀ (k i m : Nat) (E : am_D), i + k = 165 → k < m → q_mc D E f t i → ∃ E', m75_L2 N (Int32.ofNat f) (Int32.ofNat t) m E (Int32.ofNat i) = some E' ∧ q_mc D E' f t 165
  | 0, i, m + 1, E, hi, hm, h => by
    obtain rfl : i = 165 := by omega
    rw [m75_L2]
    simp (disch := omega) only [q_l0, q_l1, q_l2, q_l3, q_l4, q_l5, q_l6, q_l7, q_l8, q_l9, q_l10, q_l13, q_l15, q_l17, q_l18, q_l19, q_l21, q_l22, q_l23, q_l25, q_l27, q_l28, q_l31, q_l33, q_l41, q_l43, q_l44, q_l45, q_l48, q_l49, q_l51, q_l52, q_l53, q_l54, q_l56, q_l57, q_l58, q_l59, q_l60, q_l62, q_l63, q_l64, q_l73, q_l81, q_l99, q_l108, q_l109, q_l112, q_l116, q_l126, q_l127, q_l128, q_l137, q_l165, q_l484, q_l1023, q_l1320, q_l4095, q_l4096, q_lm, am_lt, q_le, q_lt, q_tn, q_add, q_ite, Nat.zero_le, and_self, true_and, and_true, if_true, if_false, ite_self, Nat.le_refl]
    exact ⟨E, rfl, h⟩
  | k + 1, i, m + 1, E, hi, hm, h => by
    have h1 : ¬ 165 ≤ i := by omega
    have h2 : 165 * f + i < 1320 := by omega
    have h3 : 165 * t + i < 1320 := by omega
    rw [m75_L2]
    simp (disch := omega) only [q_l0, q_l1, q_l2, q_l3, q_l4, q_l5, q_l6, q_l7, q_l8, q_l9, q_l10, q_l13, q_l15, q_l17, q_l18, q_l19, q_l21, q_l22, q_l23, q_l25, q_l27, q_l28, q_l31, q_l33, q_l41, q_l43, q_l44, q_l45, q_l48, q_l49, q_l51, q_l52, q_l53, q_l54, q_l56, q_l57, q_l58, q_l59, q_l60, q_l62, q_l63, q_l64, q_l73, q_l81, q_l99, q_l108, q_l109, q_l112, q_l116, q_l126, q_l127, q_l128, q_l137, q_l165, q_l484, q_l1023, q_l1320, q_l4095, q_l4096, q_lm, am_lt, q_le, q_lt, q_tn, q_add, q_ite, Nat.zero_le, and_self, true_and, and_true, if_true, if_false, ite_self, q_mul, h1, h2, h3]
    refine q75_L hf ht hne k (i + 1) m _ (by omega) (by omega) ⟨fun a ha => ?_, fun j => ?_, h.2.2⟩
    · rw [q_uI_ne _ ha]; exact h.1 a ha
    · rw [q_uI_at, h.2.1, h.2.1]
      by_cases c1 : j = 165 * t + i
      · subst c1
        rw [if_pos ⟨rfl, rfl⟩, if_neg (by omega), if_pos (by omega)]
        exact congrArg (D.1 107) (by omega)
      · rw [if_neg (by omega)]
        by_cases c2 : 165 * t ≤ j ∧ j < 165 * t + i
        · rw [if_pos c2, if_pos (by omega)]
        · rw [if_neg c2, if_neg (by omega)]
  | _, _, 0, _, _, hm, _ => by omega
theorem q75 {N f t : Nat} (hN : 2000 ≤ N) {D : am_D} (hf : f ≤ 7) (ht : t ≤ 7) (hne : f ≠ t) : ∃ E, m75 N D (Int32.ofNat f) (Int32.ofNat t) = some E ∧ (∀ a, a ≠ 107 → E.1 a = D.1 a) ∧ (∀ o, o ≤ 7 → ∀ k, k < 165 → q_s E o k = if o = t then q_s D f k else q_s D o k) ∧ E.2 = D.2 := by
  obtain ⟨E, h1, h2, h3, h4⟩ := q75_L (N := N) hf ht hne 165 0 N D (by omega) (by omega) ⟨fun _ _ => rfl, fun k => by rw [if_neg (by omega)], rfl⟩
  refine ⟨E, ?_, h2, fun o ho k hk => ?_, h4⟩
  · unfold m75
    rw [q_l0, h1, Option.bind_some]
  · unfold q_s
    rw [h3]
    by_cases c : o = t
    · subst c
      rw [if_pos (by omega), if_pos rfl]
      exact congrArg (D.1 107) (by omega)
    · rw [if_neg (by omega), if_neg c]
/-- what the model's saving does -/
def q_svM (D E : am_D) : Prop := ∃ m m', m ≤ 6 ∧ D.1 106 2 = Int32.ofNat m ∧ m' = (if m < 6 then m + 1 else 6) ∧ E.1 106 2 = Int32.ofNat m' ∧ (∀ a, a ≠ 106 → a ≠ 107 → E.1 a = D.1 a) ∧ (∀ j, j ≠ 2 → E.1 106 j = D.1 106 j) ∧ E.2 = D.2 ∧
  (∀ k, k < 165 → q_s E 0 k = q_s D 0 k) ∧ (∀ k, k < 165 → q_s E 7 k = q_s D 7 k) ∧ (∀ o, 1 ≤ o → o ≤ m' → ∀ k, k < 165 → q_s E o k = if o = m' then q_s D 0 k else if m < 6 then q_s D o k else q_s D (o + 1) k)
/-- the first places are moved down -/
theorem q76_L {N : Nat} (hN : 2000 ≤ N) {D : am_D} (h6 : D.1 106 2 = Int32.ofNat 6) : ∀ (k i m : Nat) (E : am_D), 1 ≤ i → i + k = 6 → k < m → (∀ a, a ≠ 107 → E.1 a = D.1 a) → E.2 = D.2 → (∀ o, o ≤ 7 → ∀ j, j < 165 → q_s E o j = if 1 ≤ o ∧ o < i then q_s D (o + 1) j else q_s D o j) → ∃ E', m76_L2 N m E (Int32.ofNat i) = some E' ∧ (∀ a, a ≠ 107 → E'.1 a = D.1 a) ∧ E'.2 = D.2 ∧ (∀ o, o ≤ 7 → ∀ j, j < 165 → q_s E' o j = if 1 ≤ o ∧ o < 6 then q_s D (o + 1) j else q_s D o j)
  | 0, i, m + 1, E, h0, hi, hm, g1, g2, g3 => by
    obtain rfl : i = 6 := by omega
    rw [m76_L2]
    simp (disch := omega) only [q_l0, q_l1, q_l2, q_l3, q_l4, q_l5, q_l6, q_l7, q_l8, q_l9, q_l10, q_l13, q_l15, q_l17, q_l18, q_l19, q_l21, q_l22, q_l23, q_l25, q_l27, q_l28, q_l31, q_l33, q_l41, q_l43, q_l44, q_l45, q_l48, q_l49, q_l51, q_l52, q_l53, q_l54, q_l56, q_l57, q_l58, q_l59, q_l60, q_l62, q_l63, q_l64, q_l73, q_l81, q_l99, q_l108, q_l109, q_l112, q_l116, q_l126, q_l127, q_l128, q_l137, q_l165, q_l484, q_l1023, q_l1320, q_l4095, q_l4096, q_lm, am_lt, q_le, q_lt, q_tn, q_add, q_ite, Nat.zero_le, and_self, true_and, and_true, if_true, if_false, ite_self, Nat.le_refl]
    exact ⟨E, rfl, g1, g2, g3⟩
  | k + 1, i, m + 1, E, h0, hi, hm, g1, g2, g3 => by
    have h1 : ¬ 6 ≤ i := by omega
    have e6 : E.1 106 2 = Int32.ofNat 6 := by rw [g1 106 (by omega)]; exact h6
    obtain ⟨F, f1, f2, f3, f4⟩ := q75 hN (D := E) (f := i + 1) (t := i) (by omega) (by omega) (by omega)
    rw [m76_L2]
    simp (disch := omega) only [q_l0, q_l1, q_l2, q_l3, q_l4, q_l5, q_l6, q_l7, q_l8, q_l9, q_l10, q_l13, q_l15, q_l17, q_l18, q_l19, q_l21, q_l22, q_l23, q_l25, q_l27, q_l28, q_l31, q_l33, q_l41, q_l43, q_l44, q_l45, q_l48, q_l49, q_l51, q_l52, q_l53, q_l54, q_l56, q_l57, q_l58, q_l59, q_l60, q_l62, q_l63, q_l64, q_l73, q_l81, q_l99, q_l108, q_l109, q_l112, q_l116, q_l126, q_l127, q_l128, q_l137, q_l165, q_l484, q_l1023, q_l1320, q_l4095, q_l4096, q_lm, am_lt, q_le, q_lt, q_tn, q_add, q_ite, Nat.zero_le, and_self, true_and, and_true, if_true, if_false, ite_self, h1, e6, f1, Option.bind_some]
    refine q76_L hN h6 k (i + 1) m F (by omega) (by omega) (by omega) (fun a ha => (f2 a ha).trans (g1 a ha)) (f4.trans g2) (fun o ho j hj => ?_)
    rw [f3 o ho j hj]
    by_cases c : o = i
    · subst c
      rw [if_pos rfl, if_pos (by omega), g3 (o + 1) (by omega) j hj, if_neg (by omega)]
    · rw [if_neg c, g3 o ho j hj]
      by_cases c2 : 1 ≤ o ∧ o < i
      · rw [if_pos c2, if_pos (by omega)]
      · rw [if_neg c2, if_neg (by omega)]
  | _, _, 0, _, _, _, hm, _, _, _ => by omega
theorem q76 {N : Nat} (hN : 2000 ≤ N) {D : am_D} {m : Nat} (hm : m ≤ 6) (h : D.1 106 2 = Int32.ofNat m) : ∃ E, m76 N D = some E ∧ q_svM D E := by
  unfold m76
  by_cases hc : m < 6
  · have e1 : m76_L2 N N D 1 = some D := by
      obtain ⟨n, rfl⟩ : ∃ n, N = n + 1 := ⟨N - 1, by omega⟩
      show m76_L2 (n + 1) (n + 1) D (Int32.ofNat 1) = some D
      have h1 : ¬ m = 6 := by omega
      rw [m76_L2, h]
      simp (disch := omega) only [q_l0, q_l1, q_l2, q_l3, q_l4, q_l5, q_l6, q_l7, q_l8, q_l9, q_l10, q_l13, q_l15, q_l17, q_l18, q_l19, q_l21, q_l22, q_l23, q_l25, q_l27, q_l28, q_l31, q_l33, q_l41, q_l43, q_l44, q_l45, q_l48, q_l49, q_l51, q_l52, q_l53, q_l54, q_l56, q_l57, q_l58, q_l59, q_l60, q_l62, q_l63, q_l64, q_l73, q_l81, q_l99, q_l108, q_l109, q_l112, q_l116, q_l126, q_l127, q_l128, q_l137, q_l165, q_l484, q_l1023, q_l1320, q_l4095, q_l4096, q_lm, am_lt, q_le, q_lt, q_tn, q_add, q_ite, Nat.zero_le, and_self, true_and, and_true, if_true, if_false, ite_self, q_eq, h1, Nat.reduceLeDiff]
    have hcm : ¬ 6 ≤ m := by omega
    obtain ⟨F, f1, f2, f3, f4⟩ := q75 hN (D := am_uI D 106 2 (Int32.ofNat (m + 1))) (f := 0) (t := m + 1) (by omega) (by omega) (by omega)
    refine ⟨F, ?_, m, m + 1, hm, h, by rw [if_pos hc], ?_, fun a h1 h2 => ?_, fun j hj => ?_, f4, fun k hk => ?_, fun k hk => ?_, fun o h1 h2 k hk => ?_⟩
    · rw [e1, Option.bind_some, h]
      have e3 : (if (6 : Int32) ≤ Int32.ofNat m then (0 : Int32) else 1) = Int32.ofNat 1 := by
        exact if_neg (q_nle (b := 6) (by omega) hc)
      rw [e3]
      simp only [am_lt, q_add, q_uIs, q_l0, f1, Option.bind_some]
    · rw [f2 106 (by omega)]; exact q_uIs _ _ _ _
    · rw [f2 a h2, q_uI_ne _ h1]
    · rw [f2 106 (by omega), q_uI_at, if_neg (by omega)]
    · rw [f3 0 (by omega) k hk, if_neg (by omega)]; rfl
    · rw [f3 7 (by omega) k hk, if_neg (by omega)]; rfl
    · rw [f3 o (by omega) k hk, if_pos hc]; rfl
  · obtain rfl : m = 6 := by omega
    obtain ⟨E1, e1, e2, e3, e4⟩ := q76_L hN h 5 1 N D (by omega) (by omega) (by omega) (fun _ _ => rfl) rfl (fun o ho j hj => by rw [if_neg (by omega)])
    have h' : E1.1 106 2 = Int32.ofNat 6 := by rw [e2 106 (by omega)]; exact h
    obtain ⟨F, f1, f2, f3, f4⟩ := q75 hN (D := am_uI E1 106 2 (Int32.ofNat 6)) (f := 0) (t := 6) (by omega) (by omega) (by omega)
    refine ⟨F, ?_, 6, 6, hm, h, by rw [if_neg hc], ?_, fun a h1 h2 => ?_, fun j hj => ?_, f4.trans e3, fun k hk => ?_, fun k hk => ?_, fun o h1 h2 k hk => ?_⟩
    · rw [q_l1, e1, Option.bind_some, h']
      have e5 : (if (6 : Int32) ≤ Int32.ofNat 6 then (0 : Int32) else Int32.ofNat 1) = Int32.ofNat 0 := by decide
      rw [e5]
      simp only [am_lt, q_add, Nat.add_zero, q_uIs, q_l0, f1, Option.bind_some]
    · rw [f2 106 (by omega)]; exact q_uIs _ _ _ _
    · rw [f2 a h2, q_uI_ne _ h1, e2 a h2]
    · rw [f2 106 (by omega), q_uI_at, if_neg (by omega), e2 106 (by omega)]
    · rw [f3 0 (by omega) k hk, if_neg (by omega)]
      show q_s E1 0 k = _
      rw [e4 0 (by omega) k hk, if_neg (by omega)]
    · rw [f3 7 (by omega) k hk, if_neg (by omega)]
      show q_s E1 7 k = _
      rw [e4 7 (by omega) k hk, if_neg (by omega)]
    · rw [f3 o (by omega) k hk]
      show (if o = 6 then q_s E1 0 k else q_s E1 o k) = _
      have z0 := e4 0 (by omega) k hk
      rw [if_neg (by omega)] at z0
      have zo := e4 o (by omega) k hk
      by_cases c : o = 6
      · rw [if_pos c, if_pos c, z0]
      · rw [if_neg c, if_neg c, zo, if_pos (by omega), if_neg hc]
/-- the saved states are alike -/
def q_hs (Dc Dm : am_D) : Prop := ∃ o m, o < 6 ∧ m ≤ 6 ∧ Dc.1 23 1 = Int32.ofNat o ∧ Dc.1 23 2 = Int32.ofNat m ∧ Dm.1 106 2 = Int32.ofNat m ∧ ∀ j, j < m → q_C (q_c Dc (25 + 11 * ((o + j) % 6))) (q_s Dm (j + 1))
theorem q_ofN {a b : Nat} (ha : a < 2147483648) (hb : b < 2147483648) (h : Int32.ofNat a = Int32.ofNat b) : a = b := by rw [q_eq ha hb] at h; exact h
theorem q_hi_sv {D E D1 E1 : am_D} (h : q_hs D E) (hC : q_C (q_c D 1) (q_s E 0)) (h1 : q_svC D D1) (h2 : q_svM E E1) : q_hs D1 E1 := by
  obtain ⟨o, m, a1, a2, a3, a4, a5, a6⟩ := h
  obtain ⟨o2, m2, o', m', pl, b1, b2, b3, b4, b5, b6, b7, b8, b9, b10, b11, b12⟩ := h1
  obtain ⟨m3, m3', c1, c2, c3, c4, c5, c6, c7, c8, c9, c10⟩ := h2
  obtain rfl : o = o2 := q_ofN (by omega) (by omega) (a3.symm.trans b3)
  obtain rfl : m = m2 := q_ofN (by omega) (by omega) (a4.symm.trans b4)
  obtain rfl : m = m3 := q_ofN (by omega) (by omega) (a5.symm.trans c2)
  obtain rfl : m' = m3' := b6.trans c3.symm
  have ho' : o' < 6 := by rw [b5]; split <;> omega
  have hm' : m' ≤ 6 := by rw [b6]; split <;> omega
  have h0m : 1 ≤ m' := by rw [b6]; split <;> omega
  refine ⟨o', m', ho', hm', b8, b9, c4, fun j hj => ?_⟩
  by_cases hl : j + 1 = m'
  · have e : (o' + j) % 6 = pl := by rw [b7]; congr 1; omega
    refine q_C_w (c := q_c D 1) (s := q_s E 0) (fun i k hw => ?_) (fun k hk => ?_) hC
    · show D1.1 (25 + 11 * ((o' + j) % 6) + i) k = D.1 (1 + i) k
      rw [e]
      exact b10 i k (by unfold q_w at hw; omega) hw
    · rw [c10 (j + 1) (by omega) (by omega) k hk, if_pos hl]
  · by_cases hc : m < 6
    · rw [if_pos hc] at b5 b6
      subst b5; subst b6
      have hjm : j < m := by omega
      refine q_C_w (fun i k hw => ?_) (fun k hk => ?_) (a6 j hjm)
      · show D1.1 (25 + 11 * ((o' + j) % 6) + i) k = D.1 (25 + 11 * ((o' + j) % 6) + i) k
        unfold q_w at hw
        rw [b11 _ (by omega) (by omega)]
      · rw [c10 (j + 1) (by omega) (by omega) k hk, if_neg hl, if_pos hc]
    · rw [if_neg hc] at b5 b6
      obtain rfl : m = 6 := by omega
      have e : (o' + j) % 6 = (o + (j + 1)) % 6 := by omega
      refine q_C_w (fun i k hw => ?_) (fun k hk => ?_) (a6 (j + 1) (by omega))
      · show D1.1 (25 + 11 * ((o' + j) % 6) + i) k = D.1 (25 + 11 * ((o + (j + 1)) % 6) + i) k
        unfold q_w at hw
        rw [e, b11 _ (by omega) (by omega)]
      · rw [c10 (j + 1) (by omega) (by omega) k hk, if_neg hl, if_neg hc]
