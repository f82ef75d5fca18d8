/-! the class's table and the model's row: what makes them alike; what they are asked -/
def q_ch (c : Nat → Nat → Int32) (s : Nat → Int32) (n : Nat) (T V : Nat → Nat) : Prop :=
  n ≤ 28 ∧ s 12 = Int32.ofNat n ∧ c 1 4 = Int32.ofNat n ∧
  (∀ k, k < n → T k < 28 ∧ (V k = q_lo (T k) ∨ V k = q_hi (T k)) ∧ s (109 + k) = Int32.ofNat (T k) ∧ s (137 + k) = Int32.ofNat (V k) ∧ c 2 k = Int32.ofNat (T k) ∧ c 3 k = Int32.ofNat (V k) ∧ c 4 k = s (53 + T k) ∧ c 5 k = s (81 + T k)) ∧
  (∀ j k, j < n → k < n → T j = T k → j = k) ∧
  (∀ t, t < 28 → (s (25 + t) = Int32.ofNat 4 ↔ ∃ k, k < n ∧ T k = t)) ∧
  c 1 5 = (if n = 0 then q_nn else Int32.ofNat (V 0)) ∧
  c 1 6 = (if n = 0 then q_nn else Int32.ofNat (q_pip (T (n - 1)) - V (n - 1)))
def q_pl (c : Nat → Nat → Int32) (s : Nat → Int32) : Prop := ∀ t, t < 28 → c 6 t = s (25 + t) ∧ ∃ w, w < 6 ∧ s (25 + t) = Int32.ofNat w
def q_hd (c : Nat → Nat → Int32) (s : Nat → Int32) : Prop := ∀ h, h < 4 → c 7 h = s (13 + h) ∧ c 8 h = s (17 + h) ∧ c 9 h = s (21 + h) ∧ (∃ w, w ≤ 60 ∧ s (13 + h) = Int32.ofNat w) ∧ (∃ w, w < 128 ∧ s (17 + h) = Int32.ofNat w) ∧ q_cnt (fun t => s (25 + t)) (Int32.ofNat h) ≤ 7
def q_gl (c : Nat → Nat → Int32) (s : Nat → Int32) (n p : Nat) : Prop :=
  (p < 3 ∧ s 0 = Int32.ofNat p ∧ c 0 6 = Int32.ofNat p ∧ (p = 0 → n = 0) ∧ (p ≠ 0 → ∀ t, t < 28 → s (25 + t) ≠ Int32.ofNat 5)) ∧
  (∃ u, u < 4 ∧ s 1 = Int32.ofNat u ∧ c 0 7 = if p = 1 then Int32.ofNat u else q_nn) ∧
  ((s 2 = q_nn ∧ p ≠ 1) ∨ ∃ u, u < 4 ∧ s 2 = Int32.ofNat u) ∧ c 0 8 = s 2 ∧
  c 0 9 = s 5 ∧ (s 5 = q_nn ∨ ∃ u, u < 4 ∧ s 5 = Int32.ofNat u) ∧
  c 0 10 = s 3 ∧ (∃ w, 1 ≤ w ∧ w ≤ 60 ∧ s 3 = Int32.ofNat w) ∧
  c 0 11 = s 4 ∧ (∃ w, w ≤ 4 ∧ (p = 1 → w ≤ 3) ∧ s 4 = Int32.ofNat w) ∧
  c 0 12 = s 8 ∧ c 0 13 = s 9 ∧ c 0 14 = s 10 ∧ c 0 15 = s 11 ∧ c 10 0 = s 6 ∧ c 10 1 = s 7
def q_C4 (c : Nat → Nat → Int32) (s : Nat → Int32) (n p : Nat) (T V : Nat → Nat) : Prop := q_ch c s n T V ∧ q_pl c s ∧ q_hd c s ∧ q_gl c s n p
def q_C (c : Nat → Nat → Int32) (s : Nat → Int32) : Prop := ∃ n p T V, q_C4 c s n p T V
/-- the class's table at a place; the model's row of a place -/
def q_c (D : am_D) (b : Nat) : Nat → Nat → Int32 := fun i j => D.1 (b + i) j
def q_s (D : am_D) (o : Nat) : Nat → Int32 := fun k => D.1 107 (k + 165 * o)
section CP
variable {D : am_D} {n p : Nat} {T V : Nat → Nat}
def q_K (D : am_D) (n p : Nat) (T V : Nat → Nat) : Prop := q_C4 (q_c D 1) (q_s D 0) n p T V
theorem k_n28 (h : q_K D n p T V) : n ≤ 28 := h.1.1
theorem k_n (h : q_K D n p T V) : D.1 107 12 = Int32.ofNat n := h.1.2.1
theorem k_n' (h : q_K D n p T V) : D.1 2 4 = Int32.ofNat n := h.1.2.2.1
theorem k_k (h : q_K D n p T V) : ∀ k, k < n → T k < 28 ∧ (V k = q_lo (T k) ∨ V k = q_hi (T k)) ∧ D.1 107 (109 + k) = Int32.ofNat (T k) ∧ D.1 107 (137 + k) = Int32.ofNat (V k) ∧ D.1 3 k = Int32.ofNat (T k) ∧ D.1 4 k = Int32.ofNat (V k) ∧ D.1 5 k = D.1 107 (53 + T k) ∧ D.1 6 k = D.1 107 (81 + T k) := h.1.2.2.2.1
theorem k_inj (h : q_K D n p T V) : ∀ j k, j < n → k < n → T j = T k → j = k := h.1.2.2.2.2.1
theorem k_in (h : q_K D n p T V) : ∀ t, t < 28 → (q_P D t = Int32.ofNat 4 ↔ ∃ k, k < n ∧ T k = t) := h.1.2.2.2.2.2.1
theorem k_e0 (h : q_K D n p T V) : D.1 2 5 = (if n = 0 then q_nn else Int32.ofNat (V 0)) := h.1.2.2.2.2.2.2.1
theorem k_e1 (h : q_K D n p T V) : D.1 2 6 = (if n = 0 then q_nn else Int32.ofNat (q_pip (T (n - 1)) - V (n - 1))) := h.1.2.2.2.2.2.2.2
theorem k_pl (h : q_K D n p T V) : ∀ t, t < 28 → D.1 7 t = q_P D t := fun t ht => (h.2.1 t ht).1
theorem k_pw (h : q_K D n p T V) : ∀ t, t < 28 → ∃ w, w < 6 ∧ q_P D t = Int32.ofNat w := fun t ht => (h.2.1 t ht).2
theorem k_ti (h : q_K D n p T V) : ∀ x, x < 4 → D.1 8 x = D.1 107 (13 + x) := fun t ht => (h.2.2.1 t ht).1
theorem k_la (h : q_K D n p T V) : ∀ x, x < 4 → D.1 9 x = D.1 107 (17 + x) := fun t ht => (h.2.2.1 t ht).2.1
theorem k_pa (h : q_K D n p T V) : ∀ x, x < 4 → D.1 10 x = D.1 107 (21 + x) := fun t ht => (h.2.2.1 t ht).2.2.1
theorem k_tw (h : q_K D n p T V) : ∀ x, x < 4 → ∃ w, w ≤ 60 ∧ D.1 107 (13 + x) = Int32.ofNat w := fun t ht => (h.2.2.1 t ht).2.2.2.1
theorem k_lw (h : q_K D n p T V) : ∀ x, x < 4 → ∃ w, w < 128 ∧ D.1 107 (17 + x) = Int32.ofNat w := fun t ht => (h.2.2.1 t ht).2.2.2.2.1
theorem k_h7 (h : q_K D n p T V) : ∀ x, x < 4 → q_cnt (q_P D) (Int32.ofNat x) ≤ 7 := fun t ht => (h.2.2.1 t ht).2.2.2.2.2
theorem k_p3 (h : q_K D n p T V) : p < 3 := h.2.2.2.1.1
theorem k_p (h : q_K D n p T V) : D.1 107 0 = Int32.ofNat p := h.2.2.2.1.2.1
theorem k_p' (h : q_K D n p T V) : D.1 1 6 = Int32.ofNat p := h.2.2.2.1.2.2.1
theorem k_p0 (h : q_K D n p T V) : p = 0 → n = 0 := h.2.2.2.1.2.2.2.1
theorem k_nob (h : q_K D n p T V) : p ≠ 0 → ∀ t, t < 28 → q_P D t ≠ Int32.ofNat 5 := h.2.2.2.1.2.2.2.2
theorem k_tu (h : q_K D n p T V) : ∃ u, u < 4 ∧ D.1 107 1 = Int32.ofNat u ∧ D.1 1 7 = if p = 1 then Int32.ofNat u else q_nn := h.2.2.2.2.1
theorem k_hw (h : q_K D n p T V) : (D.1 107 2 = q_nn ∧ p ≠ 1) ∨ ∃ u, u < 4 ∧ D.1 107 2 = Int32.ofNat u := h.2.2.2.2.2.1
theorem k_ho (h : q_K D n p T V) : D.1 1 8 = D.1 107 2 := h.2.2.2.2.2.2.1
theorem k_lt (h : q_K D n p T V) : D.1 1 9 = D.1 107 5 := h.2.2.2.2.2.2.2.1
theorem k_ltw (h : q_K D n p T V) : D.1 107 5 = q_nn ∨ ∃ u, u < 4 ∧ D.1 107 5 = Int32.ofNat u := h.2.2.2.2.2.2.2.2.1
theorem k_se (h : q_K D n p T V) : D.1 1 10 = D.1 107 3 := h.2.2.2.2.2.2.2.2.2.1
theorem k_sew (h : q_K D n p T V) : ∃ w, 1 ≤ w ∧ w ≤ 60 ∧ D.1 107 3 = Int32.ofNat w := h.2.2.2.2.2.2.2.2.2.2.1
theorem k_ro (h : q_K D n p T V) : D.1 1 11 = D.1 107 4 := h.2.2.2.2.2.2.2.2.2.2.2.1
theorem k_row (h : q_K D n p T V) : ∃ w, w ≤ 4 ∧ (p = 1 → w ≤ 3) ∧ D.1 107 4 = Int32.ofNat w := h.2.2.2.2.2.2.2.2.2.2.2.2.1
theorem k_c (h : q_K D n p T V) : D.1 1 12 = D.1 107 8 ∧ D.1 1 13 = D.1 107 9 ∧ D.1 1 14 = D.1 107 10 ∧ D.1 1 15 = D.1 107 11 ∧ D.1 11 0 = D.1 107 6 ∧ D.1 11 1 = D.1 107 7 := h.2.2.2.2.2.2.2.2.2.2.2.2.2
def q_KC (D : am_D) (n : Nat) (T V : Nat → Nat) : Prop := q_ch (q_c D 1) (q_s D 0) n T V
theorem kc_n28 (h : q_KC D n T V) : n ≤ 28 := h.1
theorem kc_n (h : q_KC D n T V) : D.1 107 12 = Int32.ofNat n := h.2.1
theorem kc_n' (h : q_KC D n T V) : D.1 2 4 = Int32.ofNat n := h.2.2.1
theorem kc_k (h : q_KC D n T V) : ∀ k, k < n → T k < 28 ∧ (V k = q_lo (T k) ∨ V k = q_hi (T k)) ∧ D.1 107 (109 + k) = Int32.ofNat (T k) ∧ D.1 107 (137 + k) = Int32.ofNat (V k) ∧ D.1 3 k = Int32.ofNat (T k) ∧ D.1 4 k = Int32.ofNat (V k) ∧ D.1 5 k = D.1 107 (53 + T k) ∧ D.1 6 k = D.1 107 (81 + T k) := h.2.2.2.1
theorem kc_e0 (h : q_KC D n T V) : D.1 2 5 = (if n = 0 then q_nn else Int32.ofNat (V 0)) := h.2.2.2.2.2.2.1
theorem kc_e1 (h : q_KC D n T V) : D.1 2 6 = (if n = 0 then q_nn else Int32.ofNat (q_pip (T (n - 1)) - V (n - 1))) := h.2.2.2.2.2.2.2
/-! the chain -/
theorem q_vle {t v : Nat} (h : v = q_lo t ∨ v = q_hi t) : v ≤ q_pip t := by unfold q_pip; omega
theorem q_v7 {t v : Nat} (ht : t < 28) (h : v = q_lo t ∨ v = q_hi t) : v < 7 ∧ q_pip t - v < 7 := by
  have h1 := q_lo7 t ht
  have h2 := q_hi7 t ht
  unfold q_pip; omega
theorem q59C (h : q_KC D n T V) : m59 D = D.1 2 5 := by
  unfold m59
  rw [kc_n h, kc_e0 h]
  have h28 := kc_n28 h
  by_cases hn : n = 0
  · subst hn; rfl
  · simp (disch := omega) only [q_l0, q_l1, q_l2, q_l3, q_l4, q_l5, q_l6, q_l7, q_l8, q_l9, q_l10, q_l13, q_l15, q_l17, q_l18, q_l19, q_l21, q_l22, q_l23, q_l25, q_l27, q_l28, q_l31, q_l33, q_l41, q_l43, q_l44, q_l45, q_l48, q_l49, q_l51, q_l52, q_l53, q_l54, q_l56, q_l57, q_l58, q_l59, q_l60, q_l62, q_l63, q_l64, q_l73, q_l81, q_l99, q_l108, q_l109, q_l112, q_l116, q_l126, q_l127, q_l128, q_l137, q_l165, q_l484, q_l1023, q_l1320, q_l4095, q_l4096, q_lm, am_lt, q_le, q_lt, q_tn, q_add, q_ite, Nat.zero_le, and_self, true_and, and_true, if_true, if_false, ite_self, q_eq, hn]
    have := (kc_k h 0 (by omega)).2.2.2.1
    exact this
theorem q59 (h : q_K D n p T V) : m59 D = D.1 2 5 := q59C h.1
theorem q60C (hB : q_B D) (h : q_KC D n T V) {k : Nat} (hk : k < n) : m60 D (Int32.ofNat k) = some (Int32.ofNat (q_pip (T k) - V k)) := by
  have h28 := kc_n28 h
  obtain ⟨h1, h2, h3, h4, -⟩ := kc_k h k hk
  have e1 : 109 + k < 1320 := by omega
  have e2 : 137 + k < 1320 := by omega
  unfold m60
  simp (disch := omega) only [q_l0, q_l1, q_l2, q_l3, q_l4, q_l5, q_l6, q_l7, q_l8, q_l9, q_l10, q_l13, q_l15, q_l17, q_l18, q_l19, q_l21, q_l22, q_l23, q_l25, q_l27, q_l28, q_l31, q_l33, q_l41, q_l43, q_l44, q_l45, q_l48, q_l49, q_l51, q_l52, q_l53, q_l54, q_l56, q_l57, q_l58, q_l59, q_l60, q_l62, q_l63, q_l64, q_l73, q_l81, q_l99, q_l108, q_l109, q_l112, q_l116, q_l126, q_l127, q_l128, q_l137, q_l165, q_l484, q_l1023, q_l1320, q_l4095, q_l4096, q_lm, am_lt, q_le, q_lt, q_tn, q_add, q_ite, Nat.zero_le, and_self, true_and, and_true, if_true, if_false, ite_self, e1, e2, h3, h4, q54 hB h1, Option.bind_some]
  rw [q_sub (q_vle h2)]
theorem q60 (hB : q_B D) (h : q_K D n p T V) {k : Nat} (hk : k < n) : m60 D (Int32.ofNat k) = some (Int32.ofNat (q_pip (T k) - V k)) := q60C hB h.1 hk
theorem q155 (h : q_K D n p T V) {k : Nat} (hk : k < n) : m155 D (Int32.ofNat k) = Int32.ofNat (q_pip (T k) - V k) := by
  have h28 := k_n28 h
  obtain ⟨h1, h2, h3, h4, h5, h6, -⟩ := k_k h k hk
  have e1 : k < 28 := by omega
  unfold m155 am_rat
  simp (disch := omega) only [q_l0, q_l1, q_l2, q_l3, q_l4, q_l5, q_l6, q_l7, q_l8, q_l9, q_l10, q_l13, q_l15, q_l17, q_l18, q_l19, q_l21, q_l22, q_l23, q_l25, q_l27, q_l28, q_l31, q_l33, q_l41, q_l43, q_l44, q_l45, q_l48, q_l49, q_l51, q_l52, q_l53, q_l54, q_l56, q_l57, q_l58, q_l59, q_l60, q_l62, q_l63, q_l64, q_l73, q_l81, q_l99, q_l108, q_l109, q_l112, q_l116, q_l126, q_l127, q_l128, q_l137, q_l165, q_l484, q_l1023, q_l1320, q_l4095, q_l4096, q_lm, am_lt, q_le, q_lt, q_tn, q_add, q_ite, Nat.zero_le, and_self, true_and, and_true, if_true, if_false, ite_self, e1, h5, h6, q251 h1]
  rw [q_sub (q_vle h2)]
theorem q61C (hB : q_B D) (h : q_KC D n T V) : m61 D = some (D.1 2 6) := by
  unfold m61
  rw [kc_n h, kc_e1 h]
  have h28 := kc_n28 h
  by_cases hn : n = 0
  · subst hn; rfl
  · simp (disch := omega) only [q_l0, q_l1, q_l2, q_l3, q_l4, q_l5, q_l6, q_l7, q_l8, q_l9, q_l10, q_l13, q_l15, q_l17, q_l18, q_l19, q_l21, q_l22, q_l23, q_l25, q_l27, q_l28, q_l31, q_l33, q_l41, q_l43, q_l44, q_l45, q_l48, q_l49, q_l51, q_l52, q_l53, q_l54, q_l56, q_l57, q_l58, q_l59, q_l60, q_l62, q_l63, q_l64, q_l73, q_l81, q_l99, q_l108, q_l109, q_l112, q_l116, q_l126, q_l127, q_l128, q_l137, q_l165, q_l484, q_l1023, q_l1320, q_l4095, q_l4096, q_lm, am_lt, q_le, q_lt, q_tn, q_add, q_ite, Nat.zero_le, and_self, true_and, and_true, if_true, if_false, ite_self, q_eq, hn, q_sub (show 1 ≤ n by omega), q60C hB h (show n - 1 < n by omega), Option.bind_some]
theorem q61 (hB : q_B D) (h : q_K D n p T V) : m61 D = some (D.1 2 6) := q61C hB h.1
theorem q158 (h : q_K D n p T V) {t : Nat} (ht : t < 28) (v : Int32) : m158 D (Int32.ofNat t) v = Int32.ofNat (if n = 0 ∨ q_sh t (m156 D v) then 1 else 0) := by
  have h28 := k_n28 h
  unfold m158
  rw [k_n' h, q253 ht]
  simp (disch := omega) only [q_l0, q_l1, q_l2, q_l3, q_l4, q_l5, q_l6, q_l7, q_l8, q_l9, q_l10, q_l13, q_l15, q_l17, q_l18, q_l19, q_l21, q_l22, q_l23, q_l25, q_l27, q_l28, q_l31, q_l33, q_l41, q_l43, q_l44, q_l45, q_l48, q_l49, q_l51, q_l52, q_l53, q_l54, q_l56, q_l57, q_l58, q_l59, q_l60, q_l62, q_l63, q_l64, q_l73, q_l81, q_l99, q_l108, q_l109, q_l112, q_l116, q_l126, q_l127, q_l128, q_l137, q_l165, q_l484, q_l1023, q_l1320, q_l4095, q_l4096, q_lm, am_lt, q_le, q_lt, q_tn, q_add, q_ite, Nat.zero_le, and_self, true_and, and_true, if_true, if_false, ite_self, q_eq]
  by_cases hn : n = 0
  · simp [hn]
  · by_cases hs : q_sh t (m156 D v) <;> simp [hn, hs] <;> rfl
theorem q62 (hB : q_B D) (h : q_K D n p T V) {t : Nat} (ht : t < 28) (v : Int32) : m62 D (Int32.ofNat t) v = some (m158 D (Int32.ofNat t) v) := by
  have h28 := k_n28 h
  have e : (if v = 0 then some (m59 D) else (m61 D).bind fun q6 => some q6) = some (m156 D v) := by
    unfold m156
    rw [q59 h, q61 hB h]
    split <;> rfl
  unfold m62 m158
  rw [k_n' h, k_n h, e, Option.bind_some, q53 hB ht, Option.bind_some, q253 ht]
  simp (disch := omega) only [q_l0, q_l1, q_l2, q_l3, q_l4, q_l5, q_l6, q_l7, q_l8, q_l9, q_l10, q_l13, q_l15, q_l17, q_l18, q_l19, q_l21, q_l22, q_l23, q_l25, q_l27, q_l28, q_l31, q_l33, q_l41, q_l43, q_l44, q_l45, q_l48, q_l49, q_l51, q_l52, q_l53, q_l54, q_l56, q_l57, q_l58, q_l59, q_l60, q_l62, q_l63, q_l64, q_l73, q_l81, q_l99, q_l108, q_l109, q_l112, q_l116, q_l126, q_l127, q_l128, q_l137, q_l165, q_l484, q_l1023, q_l1320, q_l4095, q_l4096, q_lm, am_lt, q_le, q_lt, q_tn, q_add, q_ite, Nat.zero_le, and_self, true_and, and_true, if_true, if_false, ite_self, q_eq]
  by_cases hn : n = 0
  · simp [hn]
  · by_cases hs : q_sh t (m156 D v) <;> simp [hn, hs] <;> rfl
theorem q159 (h : q_K D n p T V) {t : Nat} (ht : t < 28) : m159 D (Int32.ofNat t) = Int32.ofNat (if n = 0 ∨ q_sh t (D.1 2 5) ∨ q_sh t (D.1 2 6) then 1 else 0) := by
  have h28 := k_n28 h
  unfold m159
  rw [k_n' h, q253 ht, q253 ht]
  simp (disch := omega) only [q_l0, q_l1, q_l2, q_l3, q_l4, q_l5, q_l6, q_l7, q_l8, q_l9, q_l10, q_l13, q_l15, q_l17, q_l18, q_l19, q_l21, q_l22, q_l23, q_l25, q_l27, q_l28, q_l31, q_l33, q_l41, q_l43, q_l44, q_l45, q_l48, q_l49, q_l51, q_l52, q_l53, q_l54, q_l56, q_l57, q_l58, q_l59, q_l60, q_l62, q_l63, q_l64, q_l73, q_l81, q_l99, q_l108, q_l109, q_l112, q_l116, q_l126, q_l127, q_l128, q_l137, q_l165, q_l484, q_l1023, q_l1320, q_l4095, q_l4096, q_lm, am_lt, q_le, q_lt, q_tn, q_add, q_ite, Nat.zero_le, and_self, true_and, and_true, if_true, if_false, ite_self, q_eq]
  by_cases hn : n = 0
  · simp [hn]
  · by_cases h1 : q_sh t (D.1 2 5) <;> by_cases h2 : q_sh t (D.1 2 6) <;> simp [hn, h1, h2] <;> rfl
theorem q63 (hB : q_B D) (h : q_K D n p T V) {t : Nat} (ht : t < 28) : m63 D (Int32.ofNat t) = some (m159 D (Int32.ofNat t)) := by
  unfold m63
  rw [q62 hB h ht, q62 hB h ht, q159 h ht, q158 h ht, q158 h ht, Option.bind_some, Option.bind_some]
  have e0 : m156 D 0 = D.1 2 5 := rfl
  have e1 : m156 D 1 = D.1 2 6 := rfl
  rw [e0, e1]
  by_cases hn : n = 0
  · simp [hn]
  · by_cases h1 : q_sh t (D.1 2 5) <;> by_cases h2 : q_sh t (D.1 2 6) <;> simp [hn, h1, h2] <;> rfl
theorem q157C (h : q_KC D n T V) (hn : 0 < n) (v : Int32) : m157 D v = m255 (Int32.ofNat (T (if v = 0 then 0 else n - 1))) (m156 D v) := by
  have h28 := kc_n28 h
  have e : ∀ k, k < n → am_rat (D.1 3) 28 (Int32.ofNat k) = Int32.ofNat (T k) := fun k hk => by
    unfold am_rat
    have e1 : k < 28 := by omega
    simp (disch := omega) only [q_l0, q_l1, q_l2, q_l3, q_l4, q_l5, q_l6, q_l7, q_l8, q_l9, q_l10, q_l13, q_l15, q_l17, q_l18, q_l19, q_l21, q_l22, q_l23, q_l25, q_l27, q_l28, q_l31, q_l33, q_l41, q_l43, q_l44, q_l45, q_l48, q_l49, q_l51, q_l52, q_l53, q_l54, q_l56, q_l57, q_l58, q_l59, q_l60, q_l62, q_l63, q_l64, q_l73, q_l81, q_l99, q_l108, q_l109, q_l112, q_l116, q_l126, q_l127, q_l128, q_l137, q_l165, q_l484, q_l1023, q_l1320, q_l4095, q_l4096, q_lm, am_lt, q_le, q_lt, q_tn, q_add, q_ite, Nat.zero_le, and_self, true_and, and_true, if_true, if_false, ite_self, e1, (kc_k h k hk).2.2.2.2.1]
  unfold m157
  rw [kc_n' h]
  by_cases hv : v = 0
  · subst hv
    show m255 (am_rat (D.1 3) 28 (Int32.ofNat 0)) _ = _
    rw [e 0 hn]; rfl
  · simp (disch := omega) only [am_lt, hv, if_false]
    rw [show (1 : Int32) = Int32.ofNat 1 from rfl, q_sub (show 1 ≤ n by omega), e (n - 1) (by omega)]
theorem q157 (h : q_K D n p T V) (hn : 0 < n) (v : Int32) : m157 D v = m255 (Int32.ofNat (T (if v = 0 then 0 else n - 1))) (m156 D v) := q157C h.1 hn v
theorem q64C (hB : q_B D) (h : q_KC D n T V) : m64 D = some (m160 D) := by
  have h28 := kc_n28 h
  unfold m64 m160
  rw [kc_n h, kc_n' h]
  by_cases h0 : n = 0
  · subst h0; rfl
  · by_cases h1 : n = 1
    · subst h1
      obtain ⟨a1, a2, a3, a4, -⟩ := kc_k h 0 (by omega)
      have e3 : D.1 107 109 = Int32.ofNat (T 0) := a3
      rw [e3, q51 hB a1, kc_e0 h, kc_e1 h]
      show some _ = some (Int32.ofNat (V 0) + Int32.ofNat (q_pip (T 0) - V 0))
      rw [q_add]
      congr 2
      have := q_vle a2
      omega
    · obtain ⟨a1, a2, a3, a4, -⟩ := kc_k h 0 (by omega)
      obtain ⟨b1, b2, b3, b4, -⟩ := kc_k h (n - 1) (by omega)
      have e3 : D.1 107 109 = Int32.ofNat (T 0) := a3
      have e2 : 109 + n - 1 < 1320 := by omega
      have e4 : D.1 107 (109 + n - 1) = Int32.ofNat (T (n - 1)) := by rw [show 109 + n - 1 = 109 + (n - 1) by omega]; exact b3
      have h2 : 2 ≤ n := by omega
      rw [q157C h (by omega), q157C h (by omega), e3, q52 hB a1, q59C h, q61C hB h]
      simp (disch := omega) only [q_l0, q_l1, q_l2, q_l3, q_l4, q_l5, q_l6, q_l7, q_l8, q_l9, q_l10, q_l13, q_l15, q_l17, q_l18, q_l19, q_l21, q_l22, q_l23, q_l25, q_l27, q_l28, q_l31, q_l33, q_l41, q_l43, q_l44, q_l45, q_l48, q_l49, q_l51, q_l52, q_l53, q_l54, q_l56, q_l57, q_l58, q_l59, q_l60, q_l62, q_l63, q_l64, q_l73, q_l81, q_l99, q_l108, q_l109, q_l112, q_l116, q_l126, q_l127, q_l128, q_l137, q_l165, q_l484, q_l1023, q_l1320, q_l4095, q_l4096, q_lm, am_lt, q_le, q_lt, q_tn, q_add, q_ite, Nat.zero_le, and_self, true_and, and_true, if_true, if_false, ite_self, q_eq, q_sub, h2, h0, h1, e2, e4, q52 hB b1, Option.bind_some]
      have f0 : m156 D (Int32.ofNat 0) = D.1 2 5 := rfl
      have f1 : m156 D (Int32.ofNat 1) = D.1 2 6 := rfl
      rw [f0, f1]
      unfold m255
      have i0 : (Int32.ofNat 1 = Int32.ofNat 0) = False := by rw [q_eq (by omega) (by omega)]; simp
      simp only [q249 a1, q250 a1, q249 b1, q250 b1, i0, if_true, if_false]
      simp only [Nat.one_ne_zero, if_false, q249 b1, q250 b1]
      have c1 := q_lo7 _ a1
      have c2 := q_hi7 _ a1
      have c3 := q_lo7 _ b1
      have c4 := q_hi7 _ b1
      simp (disch := omega) only [q_eq]
      have m1 : ∀ x : Int32, x * Int32.ofNat 1 = x := fun x => Int32.mul_one x
      have m2 : ∀ x : Int32, x * 2 = 2 * x := fun x => Int32.mul_comm _ _
      by_cases d1 : q_lo (T 0) = q_hi (T 0) <;> by_cases d2 : q_lo (T (n - 1)) = q_hi (T (n - 1)) <;> simp [d1, d2, m1, m2]
theorem q64 (hB : q_B D) (h : q_K D n p T V) : m64 D = some (m160 D) := q64C hB h.1
theorem q66 (h : q_K D n p T V) : m66 D = m219 D := by
  have hp := k_p3 h
  unfold m66 m219
  rw [k_p h, k_p' h, k_ho h, k_lt h]
  obtain ⟨u, hu, e1, e2⟩ := k_tu h
  rw [e1, e2]
  by_cases hp1 : p = 1
  · subst hp1; rfl
  · simp (disch := omega) only [q_l0, q_l1, q_l2, q_l3, q_l4, q_l5, q_l6, q_l7, q_l8, q_l9, q_l10, q_l13, q_l15, q_l17, q_l18, q_l19, q_l21, q_l22, q_l23, q_l25, q_l27, q_l28, q_l31, q_l33, q_l41, q_l43, q_l44, q_l45, q_l48, q_l49, q_l51, q_l52, q_l53, q_l54, q_l56, q_l57, q_l58, q_l59, q_l60, q_l62, q_l63, q_l64, q_l73, q_l81, q_l99, q_l108, q_l109, q_l112, q_l116, q_l126, q_l127, q_l128, q_l137, q_l165, q_l484, q_l1023, q_l1320, q_l4095, q_l4096, q_lm, am_lt, q_le, q_lt, q_tn, q_add, q_ite, Nat.zero_le, and_self, true_and, and_true, if_true, if_false, ite_self, q_eq, hp1]
theorem q_rt4 (f : Nat → Int32) {x : Nat} (hx : x < 4) : am_rat f 4 (Int32.ofNat x) = f x := by
  unfold am_rat
  simp (disch := omega) only [q_l0, q_l1, q_l2, q_l3, q_l4, q_l5, q_l6, q_l7, q_l8, q_l9, q_l10, q_l13, q_l15, q_l17, q_l18, q_l19, q_l21, q_l22, q_l23, q_l25, q_l27, q_l28, q_l31, q_l33, q_l41, q_l43, q_l44, q_l45, q_l48, q_l49, q_l51, q_l52, q_l53, q_l54, q_l56, q_l57, q_l58, q_l59, q_l60, q_l62, q_l63, q_l64, q_l73, q_l81, q_l99, q_l108, q_l109, q_l112, q_l116, q_l126, q_l127, q_l128, q_l137, q_l165, q_l484, q_l1023, q_l1320, q_l4095, q_l4096, q_lm, am_lt, q_le, q_lt, q_tn, q_add, q_ite, Nat.zero_le, and_self, true_and, and_true, if_true, if_false, ite_self, hx]
theorem q67 (hB : q_B D) (h : q_K D n p T V) {x t : Nat} (hx : x < 4) (ht : t < 28) (v : Int32) : m67 D (Int32.ofNat x) (Int32.ofNat t) v = some (m220 D (Int32.ofNat x) (Int32.ofNat t) v) := by
  have hp := k_p3 h
  obtain ⟨u, hu, e1, e2⟩ := k_tu h
  have e4 : 13 + x < 1320 := by omega
  unfold m67 m220
  rw [k_p h, k_p' h, e1, e2, q56 D ht, q203 D ht, q62 hB h ht, q66 h, q_rt4 _ hx, k_ti h x hx, k_pl h t ht, q158 h ht]
  by_cases hp1 : p = 1
  · subst hp1
    by_cases c1 : u = x
    · subst c1
      by_cases c2 : q_P D t = Int32.ofNat u
      · by_cases c3 : n = 0 ∨ q_sh t (m156 D v)
        · simp (disch := omega) only [q_l0, q_l1, q_l2, q_l3, q_l4, q_l5, q_l6, q_l7, q_l8, q_l9, q_l10, q_l13, q_l15, q_l17, q_l18, q_l19, q_l21, q_l22, q_l23, q_l25, q_l27, q_l28, q_l31, q_l33, q_l41, q_l43, q_l44, q_l45, q_l48, q_l49, q_l51, q_l52, q_l53, q_l54, q_l56, q_l57, q_l58, q_l59, q_l60, q_l62, q_l63, q_l64, q_l73, q_l81, q_l99, q_l108, q_l109, q_l112, q_l116, q_l126, q_l127, q_l128, q_l137, q_l165, q_l484, q_l1023, q_l1320, q_l4095, q_l4096, q_lm, am_lt, q_le, q_lt, q_tn, q_add, q_ite, Nat.zero_le, and_self, true_and, and_true, if_true, if_false, ite_self, q_eq, e4, c2, c3, Option.bind_some, Nat.one_ne_zero]
          split
          · rfl
          · split <;> rfl
        · simp (disch := omega) only [q_l0, q_l1, q_l2, q_l3, q_l4, q_l5, q_l6, q_l7, q_l8, q_l9, q_l10, q_l13, q_l15, q_l17, q_l18, q_l19, q_l21, q_l22, q_l23, q_l25, q_l27, q_l28, q_l31, q_l33, q_l41, q_l43, q_l44, q_l45, q_l48, q_l49, q_l51, q_l52, q_l53, q_l54, q_l56, q_l57, q_l58, q_l59, q_l60, q_l62, q_l63, q_l64, q_l73, q_l81, q_l99, q_l108, q_l109, q_l112, q_l116, q_l126, q_l127, q_l128, q_l137, q_l165, q_l484, q_l1023, q_l1320, q_l4095, q_l4096, q_lm, am_lt, q_le, q_lt, q_tn, q_add, q_ite, Nat.zero_le, and_self, true_and, and_true, if_true, if_false, ite_self, q_eq, e4, c2, c3, Option.bind_some, Nat.one_ne_zero]
      · simp (disch := omega) only [q_l0, q_l1, q_l2, q_l3, q_l4, q_l5, q_l6, q_l7, q_l8, q_l9, q_l10, q_l13, q_l15, q_l17, q_l18, q_l19, q_l21, q_l22, q_l23, q_l25, q_l27, q_l28, q_l31, q_l33, q_l41, q_l43, q_l44, q_l45, q_l48, q_l49, q_l51, q_l52, q_l53, q_l54, q_l56, q_l57, q_l58, q_l59, q_l60, q_l62, q_l63, q_l64, q_l73, q_l81, q_l99, q_l108, q_l109, q_l112, q_l116, q_l126, q_l127, q_l128, q_l137, q_l165, q_l484, q_l1023, q_l1320, q_l4095, q_l4096, q_lm, am_lt, q_le, q_lt, q_tn, q_add, q_ite, Nat.zero_le, and_self, true_and, and_true, if_true, if_false, ite_self, q_eq, e4, c2, Option.bind_some, Nat.one_ne_zero]
    · have c1' : ¬ x = u := fun q => c1 q.symm
      simp (disch := omega) only [q_l0, q_l1, q_l2, q_l3, q_l4, q_l5, q_l6, q_l7, q_l8, q_l9, q_l10, q_l13, q_l15, q_l17, q_l18, q_l19, q_l21, q_l22, q_l23, q_l25, q_l27, q_l28, q_l31, q_l33, q_l41, q_l43, q_l44, q_l45, q_l48, q_l49, q_l51, q_l52, q_l53, q_l54, q_l56, q_l57, q_l58, q_l59, q_l60, q_l62, q_l63, q_l64, q_l73, q_l81, q_l99, q_l108, q_l109, q_l112, q_l116, q_l126, q_l127, q_l128, q_l137, q_l165, q_l484, q_l1023, q_l1320, q_l4095, q_l4096, q_lm, am_lt, q_le, q_lt, q_tn, q_add, q_ite, Nat.zero_le, and_self, true_and, and_true, if_true, if_false, ite_self, q_eq, e4, c1, c1', Option.bind_some, Nat.one_ne_zero]
  · simp (disch := omega) only [q_l0, q_l1, q_l2, q_l3, q_l4, q_l5, q_l6, q_l7, q_l8, q_l9, q_l10, q_l13, q_l15, q_l17, q_l18, q_l19, q_l21, q_l22, q_l23, q_l25, q_l27, q_l28, q_l31, q_l33, q_l41, q_l43, q_l44, q_l45, q_l48, q_l49, q_l51, q_l52, q_l53, q_l54, q_l56, q_l57, q_l58, q_l59, q_l60, q_l62, q_l63, q_l64, q_l73, q_l81, q_l99, q_l108, q_l109, q_l112, q_l116, q_l126, q_l127, q_l128, q_l137, q_l165, q_l484, q_l1023, q_l1320, q_l4095, q_l4096, q_lm, am_lt, q_le, q_lt, q_tn, q_add, q_ite, Nat.zero_le, and_self, true_and, and_true, if_true, if_false, ite_self, q_eq, hp1]
/-- how many tiles at a place fit -/
theorem q_fit_ex : ∃ g : am_D → Int32 → Nat, ∀ D v, g D v = q_S (fun t => if D.1 7 t = v ∧ ¬ m159 D (Int32.ofNat t) = 0 then 1 else 0) 0 28 := ⟨fun D v => q_S (fun t => if D.1 7 t = v ∧ ¬ m159 D (Int32.ofNat t) = 0 then 1 else 0) 0 28, fun _ _ => rfl⟩
noncomputable def q_fit (D : am_D) (v : Int32) : Nat := Classical.choose q_fit_ex D v
theorem q_fit_def (D : am_D) (v : Int32) : q_fit D v = q_S (fun t => if D.1 7 t = v ∧ ¬ m159 D (Int32.ofNat t) = 0 then 1 else 0) 0 28 := Classical.choose_spec q_fit_ex D v
theorem q208_L {N : Nat} {D : am_D} {v : Int32} : ∀ (k i a n : Nat), i + k = 28 → k < n → m208_L4 N D v n (Int32.ofNat a) (Int32.ofNat i) = some (Int32.ofNat (a + q_S (fun t => if D.1 7 t = v ∧ ¬ m159 D (Int32.ofNat t) = 0 then 1 else 0) i k))
  | 0, i, a, n + 1, hi, hn => by
    obtain rfl : i = 28 := by omega
    rw [m208_L4]
    simp (disch := omega) only [q_l0, q_l1, q_l2, q_l3, q_l4, q_l5, q_l6, q_l7, q_l8, q_l9, q_l10, q_l13, q_l15, q_l17, q_l18, q_l19, q_l21, q_l22, q_l23, q_l25, q_l27, q_l28, q_l31, q_l33, q_l41, q_l43, q_l44, q_l45, q_l48, q_l49, q_l51, q_l52, q_l53, q_l54, q_l56, q_l57, q_l58, q_l59, q_l60, q_l62, q_l63, q_l64, q_l73, q_l81, q_l99, q_l108, q_l109, q_l112, q_l116, q_l126, q_l127, q_l128, q_l137, q_l165, q_l484, q_l1023, q_l1320, q_l4095, q_l4096, q_lm, am_lt, q_le, q_lt, q_tn, q_add, q_ite, Nat.zero_le, and_self, true_and, and_true, if_true, if_false, ite_self, Nat.le_refl]
    rfl
  | k + 1, i, a, n + 1, hi, hn => by
    have h1 : ¬ 28 ≤ i := by omega
    have h2 : i < 28 := by omega
    rw [m208_L4]
    by_cases c0 : D.1 7 i = v <;> by_cases c1 : m159 D (Int32.ofNat i) = 0 <;> (
      have c1' := c1
      rw [q_l0] at c1'
      simp (disch := omega) only [q_l0, q_l1, q_l2, q_l3, q_l4, q_l5, q_l6, q_l7, q_l8, q_l9, q_l10, q_l13, q_l15, q_l17, q_l18, q_l19, q_l21, q_l22, q_l23, q_l25, q_l27, q_l28, q_l31, q_l33, q_l41, q_l43, q_l44, q_l45, q_l48, q_l49, q_l51, q_l52, q_l53, q_l54, q_l56, q_l57, q_l58, q_l59, q_l60, q_l62, q_l63, q_l64, q_l73, q_l81, q_l99, q_l108, q_l109, q_l112, q_l116, q_l126, q_l127, q_l128, q_l137, q_l165, q_l484, q_l1023, q_l1320, q_l4095, q_l4096, q_lm, am_lt, q_le, q_lt, q_tn, q_add, q_ite, Nat.zero_le, and_self, true_and, and_true, if_true, if_false, ite_self, h1, h2, c0, c1']
      rw [q208_L k (i + 1) _ n (by omega) (by omega)]
      simp [q_S, Nat.add_assoc, c0, c1])
  | _, _, _, 0, _, hn => by omega
theorem q208 {N : Nat} (hN : 2000 ≤ N) {D : am_D} (v : Int32) : m208 N D v = some (Int32.ofNat (q_fit D v)) := by
  unfold m208
  show (m208_L4 N D v N (Int32.ofNat 0) (Int32.ofNat 0)).bind _ = _
  rw [q208_L 28 0 0 N (by omega) (by omega), Nat.zero_add, q_fit_def]
  rfl
theorem q68_L {N : Nat} (hB : q_B D) (h : q_K D n p T V) {v : Int32} : ∀ (k i a n : Nat), i + k = 28 → k < n → m68_L4 N D v n (Int32.ofNat a) (Int32.ofNat i) = some (Int32.ofNat (a + q_S (fun t => if D.1 7 t = v ∧ ¬ m159 D (Int32.ofNat t) = 0 then 1 else 0) i k))
  | 0, i, a, n + 1, hi, hn => by
    obtain rfl : i = 28 := by omega
    rw [m68_L4]
    simp (disch := omega) only [q_l0, q_l1, q_l2, q_l3, q_l4, q_l5, q_l6, q_l7, q_l8, q_l9, q_l10, q_l13, q_l15, q_l17, q_l18, q_l19, q_l21, q_l22, q_l23, q_l25, q_l27, q_l28, q_l31, q_l33, q_l41, q_l43, q_l44, q_l45, q_l48, q_l49, q_l51, q_l52, q_l53, q_l54, q_l56, q_l57, q_l58, q_l59, q_l60, q_l62, q_l63, q_l64, q_l73, q_l81, q_l99, q_l108, q_l109, q_l112, q_l116, q_l126, q_l127, q_l128, q_l137, q_l165, q_l484, q_l1023, q_l1320, q_l4095, q_l4096, q_lm, am_lt, q_le, q_lt, q_tn, q_add, q_ite, Nat.zero_le, and_self, true_and, and_true, if_true, if_false, ite_self, Nat.le_refl]
    rfl
  | k + 1, i, a, n + 1, hi, hn => by
    have h1 : ¬ 28 ≤ i := by omega
    have h2 : i < 28 := by omega
    rw [m68_L4, q56 D h2, q63 hB h h2]
    by_cases c0 : q_P D i = v <;> by_cases c1 : m159 D (Int32.ofNat i) = 0 <;> (
      have c1' := c1
      rw [q_l0] at c1'
      simp (disch := omega) only [q_l0, q_l1, q_l2, q_l3, q_l4, q_l5, q_l6, q_l7, q_l8, q_l9, q_l10, q_l13, q_l15, q_l17, q_l18, q_l19, q_l21, q_l22, q_l23, q_l25, q_l27, q_l28, q_l31, q_l33, q_l41, q_l43, q_l44, q_l45, q_l48, q_l49, q_l51, q_l52, q_l53, q_l54, q_l56, q_l57, q_l58, q_l59, q_l60, q_l62, q_l63, q_l64, q_l73, q_l81, q_l99, q_l108, q_l109, q_l112, q_l116, q_l126, q_l127, q_l128, q_l137, q_l165, q_l484, q_l1023, q_l1320, q_l4095, q_l4096, q_lm, am_lt, q_le, q_lt, q_tn, q_add, q_ite, Nat.zero_le, and_self, true_and, and_true, if_true, if_false, ite_self, h1, h2, c0, c1', Option.bind_some, q_eq, Nat.one_ne_zero]
      rw [q68_L hB h k (i + 1) _ n (by omega) (by omega)]
      simp [q_S, Nat.add_assoc, k_pl h i h2, c0, c1])
  | _, _, _, 0, _, hn => by omega
theorem q68 {N : Nat} (hN : 2000 ≤ N) (hB : q_B D) (h : q_K D n p T V) (v : Int32) : m68 N D v = some (Int32.ofNat (q_fit D v)) := by
  unfold m68
  show (m68_L4 N D v N (Int32.ofNat 0) (Int32.ofNat 0)).bind _ = _
  rw [q68_L hB h 28 0 0 N (by omega) (by omega), Nat.zero_add, q_fit_def]
  rfl
theorem q_fit_le (D : am_D) (v : Int32) : q_fit D v ≤ 28 := by
  have := q_S_le (f := fun t => if D.1 7 t = v ∧ ¬ m159 D (Int32.ofNat t) = 0 then 1 else 0) (g := fun _ => 1) 28 0 (fun t _ _ => by split <;> omega)
  rw [q_S_const] at this
  rw [q_fit_def]
  exact this
/-- why a hand can not pass -/
noncomputable def q_np (D : am_D) (p x : Nat) : Nat := if p = 1 then (if D.1 107 1 = Int32.ofNat x then (if D.1 107 (13 + x) ≤ Int32.ofNat 0 then 0 else if q_fit D (Int32.ofNat x) = 0 then 0 else 3) else 2) else 1
theorem q221 {N : Nat} (hN : 2000 ≤ N) (h : q_K D n p T V) {x : Nat} (hx : x < 4) : m221 N D (Int32.ofNat x) = some (Int32.ofNat (q_np D p x)) := by
  have hp := k_p3 h
  have hf := q_fit_le D (Int32.ofNat x)
  obtain ⟨u, hu, e1, e2⟩ := k_tu h
  unfold m221 q_np
  rw [k_p' h, e2, q_rt4 _ hx, k_ti h x hx, q208 hN, e1]
  by_cases hp1 : p = 1
  · subst hp1
    by_cases c1 : u = x
    · subst c1
      by_cases c2 : D.1 107 (13 + u) ≤ Int32.ofNat 0
      · simp (disch := omega) only [q_l0, q_l1, q_l2, q_l3, q_l4, q_l5, q_l6, q_l7, q_l8, q_l9, q_l10, q_l13, q_l15, q_l17, q_l18, q_l19, q_l21, q_l22, q_l23, q_l25, q_l27, q_l28, q_l31, q_l33, q_l41, q_l43, q_l44, q_l45, q_l48, q_l49, q_l51, q_l52, q_l53, q_l54, q_l56, q_l57, q_l58, q_l59, q_l60, q_l62, q_l63, q_l64, q_l73, q_l81, q_l99, q_l108, q_l109, q_l112, q_l116, q_l126, q_l127, q_l128, q_l137, q_l165, q_l484, q_l1023, q_l1320, q_l4095, q_l4096, q_lm, am_lt, q_le, q_lt, q_tn, q_add, q_ite, Nat.zero_le, and_self, true_and, and_true, if_true, if_false, ite_self, q_eq, c2]
      · by_cases c3 : q_fit D (Int32.ofNat u) = 0
        · have c4 : q_fit D (Int32.ofNat u) ≤ 0 := by omega
          simp (disch := omega) only [q_l0, q_l1, q_l2, q_l3, q_l4, q_l5, q_l6, q_l7, q_l8, q_l9, q_l10, q_l13, q_l15, q_l17, q_l18, q_l19, q_l21, q_l22, q_l23, q_l25, q_l27, q_l28, q_l31, q_l33, q_l41, q_l43, q_l44, q_l45, q_l48, q_l49, q_l51, q_l52, q_l53, q_l54, q_l56, q_l57, q_l58, q_l59, q_l60, q_l62, q_l63, q_l64, q_l73, q_l81, q_l99, q_l108, q_l109, q_l112, q_l116, q_l126, q_l127, q_l128, q_l137, q_l165, q_l484, q_l1023, q_l1320, q_l4095, q_l4096, q_lm, am_lt, q_le, q_lt, q_tn, q_add, q_ite, Nat.zero_le, and_self, true_and, and_true, if_true, if_false, ite_self, q_eq, c2, c3, c4, Option.bind_some]
          all_goals (split <;> rfl)
        · have c4 : ¬ q_fit D (Int32.ofNat u) ≤ 0 := by omega
          simp (disch := omega) only [q_l0, q_l1, q_l2, q_l3, q_l4, q_l5, q_l6, q_l7, q_l8, q_l9, q_l10, q_l13, q_l15, q_l17, q_l18, q_l19, q_l21, q_l22, q_l23, q_l25, q_l27, q_l28, q_l31, q_l33, q_l41, q_l43, q_l44, q_l45, q_l48, q_l49, q_l51, q_l52, q_l53, q_l54, q_l56, q_l57, q_l58, q_l59, q_l60, q_l62, q_l63, q_l64, q_l73, q_l81, q_l99, q_l108, q_l109, q_l112, q_l116, q_l126, q_l127, q_l128, q_l137, q_l165, q_l484, q_l1023, q_l1320, q_l4095, q_l4096, q_lm, am_lt, q_le, q_lt, q_tn, q_add, q_ite, Nat.zero_le, and_self, true_and, and_true, if_true, if_false, ite_self, q_eq, c2, c3, c4, Option.bind_some]
          all_goals (split <;> rfl)
    · have c1' : ¬ x = u := fun q => c1 q.symm
      simp (disch := omega) only [q_l0, q_l1, q_l2, q_l3, q_l4, q_l5, q_l6, q_l7, q_l8, q_l9, q_l10, q_l13, q_l15, q_l17, q_l18, q_l19, q_l21, q_l22, q_l23, q_l25, q_l27, q_l28, q_l31, q_l33, q_l41, q_l43, q_l44, q_l45, q_l48, q_l49, q_l51, q_l52, q_l53, q_l54, q_l56, q_l57, q_l58, q_l59, q_l60, q_l62, q_l63, q_l64, q_l73, q_l81, q_l99, q_l108, q_l109, q_l112, q_l116, q_l126, q_l127, q_l128, q_l137, q_l165, q_l484, q_l1023, q_l1320, q_l4095, q_l4096, q_lm, am_lt, q_le, q_lt, q_tn, q_add, q_ite, Nat.zero_le, and_self, true_and, and_true, if_true, if_false, ite_self, q_eq, c1, c1']
  · simp (disch := omega) only [q_l0, q_l1, q_l2, q_l3, q_l4, q_l5, q_l6, q_l7, q_l8, q_l9, q_l10, q_l13, q_l15, q_l17, q_l18, q_l19, q_l21, q_l22, q_l23, q_l25, q_l27, q_l28, q_l31, q_l33, q_l41, q_l43, q_l44, q_l45, q_l48, q_l49, q_l51, q_l52, q_l53, q_l54, q_l56, q_l57, q_l58, q_l59, q_l60, q_l62, q_l63, q_l64, q_l73, q_l81, q_l99, q_l108, q_l109, q_l112, q_l116, q_l126, q_l127, q_l128, q_l137, q_l165, q_l484, q_l1023, q_l1320, q_l4095, q_l4096, q_lm, am_lt, q_le, q_lt, q_tn, q_add, q_ite, Nat.zero_le, and_self, true_and, and_true, if_true, if_false, ite_self, q_eq, hp1]
theorem q69 {N : Nat} (hN : 2000 ≤ N) (hB : q_B D) (h : q_K D n p T V) {x : Nat} (hx : x < 4) : m69 N D (Int32.ofNat x) = some (Int32.ofNat (q_np D p x)) := by
  have hp := k_p3 h
  have hf := q_fit_le D (Int32.ofNat x)
  obtain ⟨u, hu, e1, e2⟩ := k_tu h
  have e4 : 13 + x < 1320 := by omega
  unfold m69 q_np
  rw [k_p h, e1, q68 hN hB h]
  by_cases hp1 : p = 1
  · subst hp1
    by_cases c1 : u = x
    · subst c1
      by_cases c2 : D.1 107 (13 + u) ≤ Int32.ofNat 0
      · simp (disch := omega) only [q_l0, q_l1, q_l2, q_l3, q_l4, q_l5, q_l6, q_l7, q_l8, q_l9, q_l10, q_l13, q_l15, q_l17, q_l18, q_l19, q_l21, q_l22, q_l23, q_l25, q_l27, q_l28, q_l31, q_l33, q_l41, q_l43, q_l44, q_l45, q_l48, q_l49, q_l51, q_l52, q_l53, q_l54, q_l56, q_l57, q_l58, q_l59, q_l60, q_l62, q_l63, q_l64, q_l73, q_l81, q_l99, q_l108, q_l109, q_l112, q_l116, q_l126, q_l127, q_l128, q_l137, q_l165, q_l484, q_l1023, q_l1320, q_l4095, q_l4096, q_lm, am_lt, q_le, q_lt, q_tn, q_add, q_ite, Nat.zero_le, and_self, true_and, and_true, if_true, if_false, ite_self, q_eq, c2, e4]
      · by_cases c3 : q_fit D (Int32.ofNat u) = 0
        · have c4 : q_fit D (Int32.ofNat u) ≤ 0 := by omega
          simp (disch := omega) only [q_l0, q_l1, q_l2, q_l3, q_l4, q_l5, q_l6, q_l7, q_l8, q_l9, q_l10, q_l13, q_l15, q_l17, q_l18, q_l19, q_l21, q_l22, q_l23, q_l25, q_l27, q_l28, q_l31, q_l33, q_l41, q_l43, q_l44, q_l45, q_l48, q_l49, q_l51, q_l52, q_l53, q_l54, q_l56, q_l57, q_l58, q_l59, q_l60, q_l62, q_l63, q_l64, q_l73, q_l81, q_l99, q_l108, q_l109, q_l112, q_l116, q_l126, q_l127, q_l128, q_l137, q_l165, q_l484, q_l1023, q_l1320, q_l4095, q_l4096, q_lm, am_lt, q_le, q_lt, q_tn, q_add, q_ite, Nat.zero_le, and_self, true_and, and_true, if_true, if_false, ite_self, q_eq, c2, c3, c4, e4, Option.bind_some]
          all_goals (split <;> rfl)
        · have c4 : ¬ q_fit D (Int32.ofNat u) ≤ 0 := by omega
          simp (disch := omega) only [q_l0, q_l1, q_l2, q_l3, q_l4, q_l5, q_l6, q_l7, q_l8, q_l9, q_l10, q_l13, q_l15, q_l17, q_l18, q_l19, q_l21, q_l22, q_l23, q_l25, q_l27, q_l28, q_l31, q_l33, q_l41, q_l43, q_l44, q_l45, q_l48, q_l49, q_l51, q_l52, q_l53, q_l54, q_l56, q_l57, q_l58, q_l59, q_l60, q_l62, q_l63, q_l64, q_l73, q_l81, q_l99, q_l108, q_l109, q_l112, q_l116, q_l126, q_l127, q_l128, q_l137, q_l165, q_l484, q_l1023, q_l1320, q_l4095, q_l4096, q_lm, am_lt, q_le, q_lt, q_tn, q_add, q_ite, Nat.zero_le, and_self, true_and, and_true, if_true, if_false, ite_self, q_eq, c2, c3, c4, e4, Option.bind_some]
          all_goals (split <;> rfl)
    · have c1' : ¬ x = u := fun q => c1 q.symm
      simp (disch := omega) only [q_l0, q_l1, q_l2, q_l3, q_l4, q_l5, q_l6, q_l7, q_l8, q_l9, q_l10, q_l13, q_l15, q_l17, q_l18, q_l19, q_l21, q_l22, q_l23, q_l25, q_l27, q_l28, q_l31, q_l33, q_l41, q_l43, q_l44, q_l45, q_l48, q_l49, q_l51, q_l52, q_l53, q_l54, q_l56, q_l57, q_l58, q_l59, q_l60, q_l62, q_l63, q_l64, q_l73, q_l81, q_l99, q_l108, q_l109, q_l112, q_l116, q_l126, q_l127, q_l128, q_l137, q_l165, q_l484, q_l1023, q_l1320, q_l4095, q_l4096, q_lm, am_lt, q_le, q_lt, q_tn, q_add, q_ite, Nat.zero_le, and_self, true_and, and_true, if_true, if_false, ite_self, q_eq, c1, c1']
  · simp (disch := omega) only [q_l0, q_l1, q_l2, q_l3, q_l4, q_l5, q_l6, q_l7, q_l8, q_l9, q_l10, q_l13, q_l15, q_l17, q_l18, q_l19, q_l21, q_l22, q_l23, q_l25, q_l27, q_l28, q_l31, q_l33, q_l41, q_l43, q_l44, q_l45, q_l48, q_l49, q_l51, q_l52, q_l53, q_l54, q_l56, q_l57, q_l58, q_l59, q_l60, q_l62, q_l63, q_l64, q_l73, q_l81, q_l99, q_l108, q_l109, q_l112, q_l116, q_l126, q_l127, q_l128, q_l137, q_l165, q_l484, q_l1023, q_l1320, q_l4095, q_l4096, q_lm, am_lt, q_le, q_lt, q_tn, q_add, q_ite, Nat.zero_le, and_self, true_and, and_true, if_true, if_false, ite_self, q_eq, hp1]
end CP
