/-! looks -/
section RD
variable {D : am_D} {n p : Nat} {T V : Nat → Nat}
theorem q_rt (f : Nat → Int32) {m : Nat} (hm : m < 2147483648) {x : Nat} (hx : x < m) : am_rat f m (Int32.ofNat x) = f x := by
  unfold am_rat
  rw [if_pos (q_in hm hx), q_tn (by omega)]
theorem q_rt_n (f : Nat → Int32) (m : Nat) : am_rat f m q_nn = q_nn := by
  unfold am_rat
  rw [if_neg (fun h => absurd h.1 (by decide))]
  rfl
/-- the place in the chain -/
def q_at (T : Nat → Nat) (t i : Nat) : Nat → Int32
  | 0 => q_nn
  | k + 1 => if T i = t then Int32.ofNat i else q_at T t (i + 1) k
theorem q_at_some {T : Nat → Nat} {t : Nat} : ∀ (k i : Nat), (∃ j, i ≤ j ∧ j < i + k ∧ T j = t) → ∃ j, i ≤ j ∧ j < i + k ∧ T j = t ∧ q_at T t i k = Int32.ofNat j
  | 0, i, ⟨j, h1, h2, _⟩ => by omega
  | k + 1, i, ⟨j, h1, h2, h3⟩ => by
    by_cases hc : T i = t
    · exact ⟨i, Nat.le_refl _, by omega, hc, by simp [q_at, hc]⟩
    · have hne : j ≠ i := fun e => hc (e ▸ h3)
      obtain ⟨j', g1, g2, g3, g4⟩ := q_at_some (T := T) (t := t) k (i + 1) ⟨j, by omega, by omega, h3⟩
      exact ⟨j', by omega, by omega, g3, by simp [q_at, hc, g4]⟩
theorem q_at_none {T : Nat → Nat} {t : Nat} : ∀ (k i : Nat), (∀ j, i ≤ j → j < i + k → T j ≠ t) → q_at T t i k = q_nn
  | 0, i, _ => rfl
  | k + 1, i, h => by
    have := h i (Nat.le_refl _) (by omega)
    simp only [q_at, this, if_false]
    exact q_at_none k (i + 1) (fun j h1 h2 => h j (by omega) (by omega))
theorem q154_L {N : Nat} (h : q_K D n p T V) {t : Nat} (ht : t < 28) : ∀ (k i m : Nat), i + k = n → k < m → ∃ q, m154_L2 N D (Int32.ofNat t) m (Int32.ofNat i) = some q ∧ (if q.1 = 0 then q_nn else q.2) = q_at T t i k
  | 0, i, m + 1, hi, hm => by
    have h28 := k_n28 h
    obtain rfl : i = n := by omega
    rw [m154_L2, k_n' h]
    simp (disch := omega) only [q_l0, q_l1, q_l2, q_l3, q_l4, q_l5, q_l6, q_l7, q_l8, q_l9, q_l10, q_l13, q_l15, q_l17, q_l18, q_l19, q_l21, q_l22, q_l23, q_l25, q_l27, q_l28, q_l31, q_l33, q_l41, q_l43, q_l44, q_l45, q_l48, q_l49, q_l51, q_l52, q_l53, q_l54, q_l56, q_l57, q_l58, q_l59, q_l60, q_l62, q_l63, q_l64, q_l73, q_l81, q_l99, q_l108, q_l109, q_l112, q_l116, q_l126, q_l127, q_l128, q_l137, q_l165, q_l484, q_l1023, q_l1320, q_l4095, q_l4096, q_lm, am_lt, q_le, q_lt, q_tn, q_add, q_ite, Nat.zero_le, and_self, true_and, and_true, if_true, if_false, ite_self, Nat.le_refl]
    exact ⟨_, rfl, rfl⟩
  | k + 1, i, m + 1, hi, hm => by
    have h28 := k_n28 h
    have h1 : ¬ n ≤ i := by omega
    have h2 : i < n := by omega
    obtain ⟨a1, a2, a3, a4, a5, -⟩ := k_k h i h2
    rw [m154_L2, k_n' h, q_rt _ (by omega) (show i < 28 by omega), a5]
    by_cases c0 : T i = t
    · simp (disch := omega) only [q_l0, q_l1, q_l2, q_l3, q_l4, q_l5, q_l6, q_l7, q_l8, q_l9, q_l10, q_l13, q_l15, q_l17, q_l18, q_l19, q_l21, q_l22, q_l23, q_l25, q_l27, q_l28, q_l31, q_l33, q_l41, q_l43, q_l44, q_l45, q_l48, q_l49, q_l51, q_l52, q_l53, q_l54, q_l56, q_l57, q_l58, q_l59, q_l60, q_l62, q_l63, q_l64, q_l73, q_l81, q_l99, q_l108, q_l109, q_l112, q_l116, q_l126, q_l127, q_l128, q_l137, q_l165, q_l484, q_l1023, q_l1320, q_l4095, q_l4096, q_lm, am_lt, q_le, q_lt, q_tn, q_add, q_ite, Nat.zero_le, and_self, true_and, and_true, if_true, if_false, ite_self, h1, q_eq, c0]
      exact ⟨_, rfl, by simp [q_at, c0]⟩
    · simp (disch := omega) only [q_l0, q_l1, q_l2, q_l3, q_l4, q_l5, q_l6, q_l7, q_l8, q_l9, q_l10, q_l13, q_l15, q_l17, q_l18, q_l19, q_l21, q_l22, q_l23, q_l25, q_l27, q_l28, q_l31, q_l33, q_l41, q_l43, q_l44, q_l45, q_l48, q_l49, q_l51, q_l52, q_l53, q_l54, q_l56, q_l57, q_l58, q_l59, q_l60, q_l62, q_l63, q_l64, q_l73, q_l81, q_l99, q_l108, q_l109, q_l112, q_l116, q_l126, q_l127, q_l128, q_l137, q_l165, q_l484, q_l1023, q_l1320, q_l4095, q_l4096, q_lm, am_lt, q_le, q_lt, q_tn, q_add, q_ite, Nat.zero_le, and_self, true_and, and_true, if_true, if_false, ite_self, h1, q_eq, c0]
      simp only [q_at, c0, if_false]
      exact q154_L h ht k (i + 1) m (by omega) (by omega)
  | _, _, 0, _, hm => by omega
theorem q154 {N : Nat} (hN : 2000 ≤ N) (h : q_K D n p T V) {t : Nat} (ht : t < 28) : m154 N D (Int32.ofNat t) = some (q_at T t 0 n) := by
  have h28 := k_n28 h
  obtain ⟨q, h1, h2⟩ := q154_L (N := N) h ht n 0 N (by omega) (by omega)
  unfold m154
  show (m154_L2 N D (Int32.ofNat t) N (Int32.ofNat 0)).bind _ = _
  rw [h1, ← h2]
  show (if q.1 = 0 then some q_nn else some q.2) = _
  split <;> rfl
theorem q106_L {N : Nat} (h : q_K D n p T V) {t : Nat} (ht : t < 28) : ∀ (k i m : Nat), i + k = n → k < m → ∃ q, m106_L2 N D (Int32.ofNat t) m (Int32.ofNat i) = some q ∧ (if q.1 = 0 then q_nn else q.2) = q_at T t i k
  | 0, i, m + 1, hi, hm => by
    have h28 := k_n28 h
    obtain rfl : i = n := by omega
    rw [m106_L2, k_n h]
    simp (disch := omega) only [q_l0, q_l1, q_l2, q_l3, q_l4, q_l5, q_l6, q_l7, q_l8, q_l9, q_l10, q_l13, q_l15, q_l17, q_l18, q_l19, q_l21, q_l22, q_l23, q_l25, q_l27, q_l28, q_l31, q_l33, q_l41, q_l43, q_l44, q_l45, q_l48, q_l49, q_l51, q_l52, q_l53, q_l54, q_l56, q_l57, q_l58, q_l59, q_l60, q_l62, q_l63, q_l64, q_l73, q_l81, q_l99, q_l108, q_l109, q_l112, q_l116, q_l126, q_l127, q_l128, q_l137, q_l165, q_l484, q_l1023, q_l1320, q_l4095, q_l4096, q_lm, am_lt, q_le, q_lt, q_tn, q_add, q_ite, Nat.zero_le, and_self, true_and, and_true, if_true, if_false, ite_self, Nat.le_refl]
    exact ⟨_, rfl, rfl⟩
  | k + 1, i, m + 1, hi, hm => by
    have h28 := k_n28 h
    have h1 : ¬ n ≤ i := by omega
    have h2 : i < n := by omega
    have h3 : 109 + i < 1320 := by omega
    obtain ⟨a1, a2, a3, a4, a5, -⟩ := k_k h i h2
    rw [m106_L2, k_n h]
    by_cases c0 : T i = t
    · simp (disch := omega) only [q_l0, q_l1, q_l2, q_l3, q_l4, q_l5, q_l6, q_l7, q_l8, q_l9, q_l10, q_l13, q_l15, q_l17, q_l18, q_l19, q_l21, q_l22, q_l23, q_l25, q_l27, q_l28, q_l31, q_l33, q_l41, q_l43, q_l44, q_l45, q_l48, q_l49, q_l51, q_l52, q_l53, q_l54, q_l56, q_l57, q_l58, q_l59, q_l60, q_l62, q_l63, q_l64, q_l73, q_l81, q_l99, q_l108, q_l109, q_l112, q_l116, q_l126, q_l127, q_l128, q_l137, q_l165, q_l484, q_l1023, q_l1320, q_l4095, q_l4096, q_lm, am_lt, q_le, q_lt, q_tn, q_add, q_ite, Nat.zero_le, and_self, true_and, and_true, if_true, if_false, ite_self, h1, h3, a3, q_eq, c0]
      exact ⟨_, rfl, by simp [q_at, c0]⟩
    · simp (disch := omega) only [q_l0, q_l1, q_l2, q_l3, q_l4, q_l5, q_l6, q_l7, q_l8, q_l9, q_l10, q_l13, q_l15, q_l17, q_l18, q_l19, q_l21, q_l22, q_l23, q_l25, q_l27, q_l28, q_l31, q_l33, q_l41, q_l43, q_l44, q_l45, q_l48, q_l49, q_l51, q_l52, q_l53, q_l54, q_l56, q_l57, q_l58, q_l59, q_l60, q_l62, q_l63, q_l64, q_l73, q_l81, q_l99, q_l108, q_l109, q_l112, q_l116, q_l126, q_l127, q_l128, q_l137, q_l165, q_l484, q_l1023, q_l1320, q_l4095, q_l4096, q_lm, am_lt, q_le, q_lt, q_tn, q_add, q_ite, Nat.zero_le, and_self, true_and, and_true, if_true, if_false, ite_self, h1, h3, a3, q_eq, c0]
      simp only [q_at, c0, if_false]
      exact q106_L h ht k (i + 1) m (by omega) (by omega)
  | _, _, 0, _, hm => by omega
theorem q106 {N : Nat} (hN : 2000 ≤ N) (h : q_K D n p T V) {t : Nat} (ht : t < 28) : m106 N D (Int32.ofNat t) = some (q_at T t 0 n) := by
  have h28 := k_n28 h
  obtain ⟨q, h1, h2⟩ := q106_L (N := N) h ht n 0 N (by omega) (by omega)
  unfold m106
  show (m106_L2 N D (Int32.ofNat t) N (Int32.ofNat 0)).bind _ = _
  rw [h1, ← h2]
  show (if q.1 = 0 then some q_nn else some q.2) = _
  split <;> rfl
/-- what is told of a tile -/
def q_tl (D : am_D) (n : Nat) (T : Nat → Nat) (t w : Nat) : Int32 := match w with
  | 0 => Int32.ofNat (q_lo t)
  | 1 => Int32.ofNat (q_hi t)
  | 2 => Int32.ofNat (q_pip t)
  | 3 => q_P D t
  | 4 => q_at T t 0 n
  | 5 => if q_P D t = Int32.ofNat 4 then D.1 107 (53 + t) else q_nn
  | _ => m159 D (Int32.ofNat t)
theorem q_m41 {t : Nat} (ht : t < 28) : m41 (Int32.ofNat t) = Int32.ofNat 1 := by
  have e : ¬ 28 ≤ t := by omega
  unfold m41
  simp (disch := omega) only [q_l0, q_l1, q_l2, q_l3, q_l4, q_l5, q_l6, q_l7, q_l8, q_l9, q_l10, q_l13, q_l15, q_l17, q_l18, q_l19, q_l21, q_l22, q_l23, q_l25, q_l27, q_l28, q_l31, q_l33, q_l41, q_l43, q_l44, q_l45, q_l48, q_l49, q_l51, q_l52, q_l53, q_l54, q_l56, q_l57, q_l58, q_l59, q_l60, q_l62, q_l63, q_l64, q_l73, q_l81, q_l99, q_l108, q_l109, q_l112, q_l116, q_l126, q_l127, q_l128, q_l137, q_l165, q_l484, q_l1023, q_l1320, q_l4095, q_l4096, q_lm, am_lt, q_le, q_lt, q_tn, q_add, q_ite, Nat.zero_le, and_self, true_and, and_true, if_true, if_false, ite_self, e, Nat.not_lt_zero]
theorem q_lay {N : Nat} (hN : 2000 ≤ N) (h : q_K D n p T V) {t : Nat} (ht : t < 28) : am_rat (D.1 5) 28 (q_at T t 0 n) = if q_P D t = Int32.ofNat 4 then D.1 107 (53 + t) else q_nn := by
  have h28 := k_n28 h
  by_cases hc : q_P D t = Int32.ofNat 4
  · obtain ⟨j, j1, j2⟩ := (k_in h t ht).mp hc
    obtain ⟨j', g1, g2, g3, g4⟩ := q_at_some (T := T) (t := t) n 0 ⟨j, by omega, by omega, j2⟩
    rw [g4, if_pos hc, q_rt _ (by omega) (show j' < 28 by omega), (k_k h j' (by omega)).2.2.2.2.2.2.1, g3]
  · rw [if_neg hc, q_at_none n 0 (fun j _ j2 e => hc ((k_in h t ht).mpr ⟨j, by omega, e⟩)), q_rt_n]
theorem q18 {N : Nat} (hN : 2000 ≤ N) (h : q_K D n p T V) {t w : Nat} (ht : t < 28) (hw : w ≤ 6) : m18 N D (Int32.ofNat t) (Int32.ofNat w) = some (Sum.inl (q_tl D n T t w)) := by
  unfold m18
  rw [q_m41 ht, q249 ht, q250 ht, q251 ht, q203 D ht, k_pl h t ht, q154 hN h ht, Option.bind_some, Option.bind_some, q_lay hN h ht]
  have e1 := q159 h ht
  obtain rfl | rfl | rfl | rfl | rfl | rfl | rfl : w = 0 ∨ w = 1 ∨ w = 2 ∨ w = 3 ∨ w = 4 ∨ w = 5 ∨ w = 6 := by omega
  all_goals first | rfl | skip
  unfold q_tl
  simp only [e1]
  by_cases c : n = 0 ∨ q_sh t (D.1 2 5) ∨ q_sh t (D.1 2 6)
  · simp only [c, if_true]; rfl
  · simp only [c, if_false]; rfl
theorem q107 {N : Nat} (hN : 2000 ≤ N) (hB : q_B D) (h : q_K D n p T V) {t w : Nat} (ht : t < 28) (hw : w ≤ 6) : m107 N D (Int32.ofNat t) (Int32.ofNat w) = some (q_tl D n T t w) := by
  have e1 := q159 h ht
  have e2 : 25 + t < 1320 := by omega
  have e3 : 53 + t < 1320 := by omega
  unfold m107
  rw [q51 hB ht, q106 hN h ht, q56 D ht, q63 hB h ht]
  simp (disch := omega) only [q_l0, q_l1, q_l2, q_l3, q_l4, q_l5, q_l6, q_l7, q_l8, q_l9, q_l10, q_l13, q_l15, q_l17, q_l18, q_l19, q_l21, q_l22, q_l23, q_l25, q_l27, q_l28, q_l31, q_l33, q_l41, q_l43, q_l44, q_l45, q_l48, q_l49, q_l51, q_l52, q_l53, q_l54, q_l56, q_l57, q_l58, q_l59, q_l60, q_l62, q_l63, q_l64, q_l73, q_l81, q_l99, q_l108, q_l109, q_l112, q_l116, q_l126, q_l127, q_l128, q_l137, q_l165, q_l484, q_l1023, q_l1320, q_l4095, q_l4096, q_lm, am_lt, q_le, q_lt, q_tn, q_add, q_ite, Nat.zero_le, and_self, true_and, and_true, if_true, if_false, ite_self, e2, e3, ht, (hB t ht).1, (hB t ht).2, Option.bind_some]
  obtain rfl | rfl | rfl | rfl | rfl | rfl | rfl : w = 0 ∨ w = 1 ∨ w = 2 ∨ w = 3 ∨ w = 4 ∨ w = 5 ∨ w = 6 := by omega
  all_goals first | rfl | skip
  · unfold q_tl
    by_cases c : q_P D t = Int32.ofNat 4
    · simp only [c, if_true]; rfl
    · simp only [c, if_false]; rfl
  · unfold q_tl
    simp only [e1]
    by_cases c : n = 0 ∨ q_sh t (D.1 2 5) ∨ q_sh t (D.1 2 6)
    · simp only [c, if_true]; rfl
    · simp only [c, if_false]; rfl
/-- what is told of a place -/
def q_pc (D : am_D) (T V : Nat → Nat) (k w : Nat) : Int32 := match w with
  | 0 => Int32.ofNat (T k)
  | 1 => Int32.ofNat (V k)
  | 2 => Int32.ofNat (q_pip (T k) - V k)
  | _ => D.1 107 (81 + T k)
theorem q20 (h : q_K D n p T V) {k w : Nat} (hk : k < n) (hw : w ≤ 3) : m20 D (Int32.ofNat k) (Int32.ofNat w) = Sum.inl (q_pc D T V k w) := by
  have h28 := k_n28 h
  obtain ⟨a1, a2, a3, a4, a5, a6, a7, a8⟩ := k_k h k hk
  unfold m20
  rw [k_n' h, q155 h hk, q_rt _ (by omega) (show k < 28 by omega), q_rt _ (by omega) (show k < 28 by omega), q_rt _ (by omega) (show k < 28 by omega), a5, a6, a8]
  simp (disch := omega) only [q_l0, q_l1, q_l2, q_l3, q_l4, q_l5, q_l6, q_l7, q_l8, q_l9, q_l10, q_l13, q_l15, q_l17, q_l18, q_l19, q_l21, q_l22, q_l23, q_l25, q_l27, q_l28, q_l31, q_l33, q_l41, q_l43, q_l44, q_l45, q_l48, q_l49, q_l51, q_l52, q_l53, q_l54, q_l56, q_l57, q_l58, q_l59, q_l60, q_l62, q_l63, q_l64, q_l73, q_l81, q_l99, q_l108, q_l109, q_l112, q_l116, q_l126, q_l127, q_l128, q_l137, q_l165, q_l484, q_l1023, q_l1320, q_l4095, q_l4096, q_lm, am_lt, q_le, q_lt, q_tn, q_add, q_ite, Nat.zero_le, and_self, true_and, and_true, if_true, if_false, ite_self, hk, hw, Nat.not_lt_zero]
  obtain rfl | rfl | rfl | rfl : w = 0 ∨ w = 1 ∨ w = 2 ∨ w = 3 := by omega
  all_goals rfl
theorem q110 (hB : q_B D) (h : q_K D n p T V) {k w : Nat} (hk : k < n) (hw : w ≤ 3) : m110 D (Int32.ofNat k) (Int32.ofNat w) = some (q_pc D T V k w) := by
  have h28 := k_n28 h
  obtain ⟨a1, a2, a3, a4, a5, a6, a7, a8⟩ := k_k h k hk
  have e1 : 109 + k < 1320 := by omega
  have e2 : 137 + k < 1320 := by omega
  have e3 : 81 + T k < 1320 := by omega
  unfold m110
  rw [q60 hB h hk]
  simp (disch := omega) only [q_l0, q_l1, q_l2, q_l3, q_l4, q_l5, q_l6, q_l7, q_l8, q_l9, q_l10, q_l13, q_l15, q_l17, q_l18, q_l19, q_l21, q_l22, q_l23, q_l25, q_l27, q_l28, q_l31, q_l33, q_l41, q_l43, q_l44, q_l45, q_l48, q_l49, q_l51, q_l52, q_l53, q_l54, q_l56, q_l57, q_l58, q_l59, q_l60, q_l62, q_l63, q_l64, q_l73, q_l81, q_l99, q_l108, q_l109, q_l112, q_l116, q_l126, q_l127, q_l128, q_l137, q_l165, q_l484, q_l1023, q_l1320, q_l4095, q_l4096, q_lm, am_lt, q_le, q_lt, q_tn, q_add, q_ite, Nat.zero_le, and_self, true_and, and_true, if_true, if_false, ite_self, e1, e2, e3, a3, a4, Option.bind_some]
  obtain rfl | rfl | rfl | rfl : w = 0 ∨ w = 1 ∨ w = 2 ∨ w = 3 := by omega
  all_goals rfl
/-- the numbers -/
noncomputable def q_nb (D : am_D) (p w : Nat) : Int32 := match w with
  | 0 => D.1 107 0
  | 1 => if p = 1 then D.1 107 1 else q_nn
  | 2 => D.1 107 2
  | 3 => D.1 107 12
  | 4 => D.1 2 5
  | 5 => D.1 2 6
  | 6 => m160 D
  | 7 => D.1 107 6
  | 8 => D.1 107 7
  | 9 => D.1 107 8
  | 10 => D.1 107 9
  | 11 => D.1 107 10
  | 12 => D.1 107 4
  | 13 => D.1 107 11
  | 14 => Int32.ofNat (q_cnt (q_P D) (Int32.ofNat 5))
  | 15 => m219 D
  | 16 => D.1 107 5
  | 17 => D.1 107 3
  | _ => D.1 106 2
theorem q219 (D : am_D) : m219 D = Int32.ofNat 0 ∨ m219 D = Int32.ofNat 1 := by
  unfold m219
  split
  · split
    · exact Or.inl rfl
    · split
      · exact Or.inl rfl
      · exact Or.inr rfl
  · exact Or.inl rfl
theorem q22 {N : Nat} (hN : 2000 ≤ N) (h : q_K D n p T V) (hs : D.1 23 2 = D.1 106 2) {w : Nat} (hw : w ≤ 18) : m22 N D (Int32.ofNat w) = some (Sum.inl (q_nb D p w)) := by
  obtain ⟨u, hu, e1, e2⟩ := k_tu h
  obtain ⟨c1, c2, c3, c4, c5, c6⟩ := k_c h
  have e3 : q_cnt (D.1 7) 5 = q_cnt (q_P D) (Int32.ofNat 5) := q_cnt_congr (k_pl h)
  have hp : D.1 1 6 = D.1 107 0 := by rw [k_p h, k_p' h]
  have hn : D.1 2 4 = D.1 107 12 := by rw [k_n h, k_n' h]
  unfold m22
  rw [q204 hN, Option.bind_some, e3, e2, hp, hn, k_ho h, k_lt h, k_se h, k_ro h, c1, c2, c3, c4, hs]
  have e7 : am_rat (D.1 11) 2 0 = D.1 107 6 := by rw [← c5]; exact q_rt _ (m := 2) (x := 0) (by omega) (by omega)
  have e8 : am_rat (D.1 11) 2 1 = D.1 107 7 := by rw [← c6]; exact q_rt _ (m := 2) (x := 1) (by omega) (by omega)
  rw [e7, e8]
  have cs : w = 0 ∨ w = 1 ∨ w = 2 ∨ w = 3 ∨ w = 4 ∨ w = 5 ∨ w = 6 ∨ w = 7 ∨ w = 8 ∨ w = 9 ∨ w = 10 ∨ w = 11 ∨ w = 12 ∨ w = 13 ∨ w = 14 ∨ w = 15 ∨ w = 16 ∨ w = 17 ∨ w = 18 := by omega
  rcases cs with rfl | rfl | rfl | rfl | rfl | rfl | rfl | rfl | rfl | rfl | rfl | rfl | rfl | rfl | rfl | rfl | rfl | rfl | rfl
  all_goals first | rfl | skip
  · unfold q_nb
    rw [e1]; rfl
  · unfold q_nb
    rcases q219 D with q | q <;> rw [q] <;> rfl
theorem q117 {N : Nat} (hN : 2000 ≤ N) (hB : q_B D) (h : q_K D n p T V) {w : Nat} (hw : w ≤ 18) : m117 N D (Int32.ofNat w) = some (q_nb D p w) := by
  have hp3 := k_p3 h
  unfold m117
  rw [q59 h, q61 hB h, q64 hB h, q57 hN, q66 h, k_p h]
  have cs : w = 0 ∨ w = 1 ∨ w = 2 ∨ w = 3 ∨ w = 4 ∨ w = 5 ∨ w = 6 ∨ w = 7 ∨ w = 8 ∨ w = 9 ∨ w = 10 ∨ w = 11 ∨ w = 12 ∨ w = 13 ∨ w = 14 ∨ w = 15 ∨ w = 16 ∨ w = 17 ∨ w = 18 := by omega
  rcases cs with rfl | rfl | rfl | rfl | rfl | rfl | rfl | rfl | rfl | rfl | rfl | rfl | rfl | rfl | rfl | rfl | rfl | rfl | rfl
  all_goals first | rfl | skip
  · unfold q_nb; rw [k_p h]; rfl
  · unfold q_nb
    obtain rfl | rfl | rfl : p = 0 ∨ p = 1 ∨ p = 2 := by omega
    all_goals rfl
  · unfold q_nb
    rcases q219 D with q | q <;> rw [q] <;> rfl
end RD
