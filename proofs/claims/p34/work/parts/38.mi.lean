/-! a tile is laid: both sides alike -/
section MI
variable {D : am_D} {n p : Nat} {T V : Nat → Nat}
theorem q_T1_in {e n t : Nat} {T : Nat → Nat} (he : e < 2) (j : Nat) : (∃ k, k < n + 1 ∧ q_T1 e n t T k = j) ↔ j = t ∨ ∃ k, k < n ∧ T k = j := by
  unfold q_T1
  obtain rfl | rfl : e = 0 ∨ e = 1 := by omega
  · simp only [if_true]
    constructor
    · rintro ⟨k, hk, h⟩
      by_cases c : k = 0
      · rw [if_pos c] at h; exact Or.inl h.symm
      · rw [if_neg c] at h; exact Or.inr ⟨k - 1, by omega, h⟩
    · rintro (h | ⟨k, hk, h⟩)
      · exact ⟨0, by omega, by rw [if_pos rfl]; exact h.symm⟩
      · exact ⟨k + 1, by omega, by rw [if_neg (by omega)]; exact h⟩
  · simp only [Nat.one_ne_zero, if_false]
    constructor
    · rintro ⟨k, hk, h⟩
      by_cases c : k = n
      · rw [if_pos c] at h; exact Or.inl h.symm
      · rw [if_neg c] at h; exact Or.inr ⟨k, by omega, h⟩
    · rintro (h | ⟨k, hk, h⟩)
      · exact ⟨n, by omega, by rw [if_pos rfl]; exact h.symm⟩
      · exact ⟨k, by omega, by rw [if_neg (by omega)]; exact h⟩
theorem q_T1_inj {e n t : Nat} {T : Nat → Nat} (he : e < 2) (h1 : ∀ j k, j < n → k < n → T j = T k → j = k) (h2 : ∀ k, k < n → T k ≠ t) : ∀ j k, j < n + 1 → k < n + 1 → q_T1 e n t T j = q_T1 e n t T k → j = k := by
  intro j k hj hk h
  unfold q_T1 at h
  obtain rfl | rfl : e = 0 ∨ e = 1 := by omega
  · simp only [if_true] at h
    by_cases c1 : j = 0 <;> by_cases c2 : k = 0
    · omega
    · rw [if_pos c1, if_neg c2] at h
      exact absurd h.symm (h2 (k - 1) (by omega))
    · rw [if_neg c1, if_pos c2] at h
      exact absurd h (h2 (j - 1) (by omega))
    · rw [if_neg c1, if_neg c2] at h
      have := h1 (j - 1) (k - 1) (by omega) (by omega) h
      omega
  · simp only [Nat.one_ne_zero, if_false] at h
    by_cases c1 : j = n <;> by_cases c2 : k = n
    · omega
    · rw [if_pos c1, if_neg c2] at h
      exact absurd h.symm (h2 k (by omega))
    · rw [if_neg c1, if_pos c2] at h
      exact absurd h (h2 j (by omega))
    · rw [if_neg c1, if_neg c2] at h
      exact h1 j k (by omega) (by omega) h
/-- the chain, as rows -/
theorem c_chn {c c' : Nat → Nat → Int32} {s s' : Nat → Int32} (h : q_ch c s n T V) {t e x : Nat} (ht : t < 28) (he : e < 2) (hn : n ≤ 27) (hnt : ∀ k, k < n → T k ≠ t) (htv : ∀ k, k < n + 1 → q_T1 e n t T k < 28 ∧ (q_V1 e n t T V k = q_lo (q_T1 e n t T k) ∨ q_V1 e n t T V k = q_hi (q_T1 e n t T k)))
    (c4 : c' 1 4 = Int32.ofNat (n + 1)) (ck : ∀ k, k < n + 1 → c' 2 k = Int32.ofNat (q_T1 e n t T k) ∧ c' 3 k = Int32.ofNat (q_V1 e n t T V k) ∧ c' 4 k = (if k = (if e = 0 then 0 else n) then Int32.ofNat x else c 4 (if e = 0 then k - 1 else k)) ∧ c' 5 k = (if k = (if e = 0 then 0 else n) then Int32.ofNat (n + 1) else c 5 (if e = 0 then k - 1 else k)))
    (c5 : c' 1 5 = Int32.ofNat (q_V1 e n t T V 0)) (c6 : c' 1 6 = Int32.ofNat (q_pip (q_T1 e n t T n) - q_V1 e n t T V n))
    (s12 : s' 12 = Int32.ofNat (n + 1)) (sk : ∀ k, k < n + 1 → s' (109 + k) = Int32.ofNat (q_T1 e n t T k) ∧ s' (137 + k) = Int32.ofNat (q_V1 e n t T V k))
    (s25 : ∀ j, j < 28 → s' (25 + j) = if j = t then Int32.ofNat 4 else s (25 + j)) (s53 : ∀ j, j < 28 → s' (53 + j) = if j = t then Int32.ofNat x else s (53 + j)) (s81 : ∀ j, j < 28 → s' (81 + j) = if j = t then Int32.ofNat (n + 1) else s (81 + j)) : q_ch c' s' (n + 1) (q_T1 e n t T) (q_V1 e n t T V) := by
  obtain ⟨a1, a2, a3, a4, a5, a6, a7, a8⟩ := h
  refine ⟨by omega, s12, c4, fun k hk => ?_, q_T1_inj he a5 hnt, fun j hj => ?_, by rw [if_neg (by omega)]; exact c5, by rw [if_neg (by omega)]; exact c6⟩
  · obtain ⟨g1, g2, g3, g4⟩ := ck k hk
    obtain ⟨b1, b2⟩ := htv k hk
    obtain ⟨e1, e2⟩ := sk k hk
    refine ⟨b1, b2, e1, e2, g1, g2, ?_, ?_⟩
    · rw [g3, s53 _ b1]
      unfold q_T1 at b1 ⊢
      obtain rfl | rfl : e = 0 ∨ e = 1 := by omega
      · simp only [if_true] at b1 ⊢
        by_cases c : k = 0
        · simp [c]
        · simp only [c, if_false]
          rw [if_neg (hnt (k - 1) (by omega))]
          exact (a4 (k - 1) (by omega)).2.2.2.2.2.2.1
      · simp only [Nat.one_ne_zero, if_false] at b1 ⊢
        by_cases c : k = n
        · simp [c]
        · simp only [c, if_false]
          rw [if_neg (hnt k (by omega))]
          exact (a4 k (by omega)).2.2.2.2.2.2.1
    · rw [g4, s81 _ b1]
      unfold q_T1 at b1 ⊢
      obtain rfl | rfl : e = 0 ∨ e = 1 := by omega
      · simp only [if_true] at b1 ⊢
        by_cases c : k = 0
        · simp [c]
        · simp only [c, if_false]
          rw [if_neg (hnt (k - 1) (by omega))]
          exact (a4 (k - 1) (by omega)).2.2.2.2.2.2.2
      · simp only [Nat.one_ne_zero, if_false] at b1 ⊢
        by_cases c : k = n
        · simp [c]
        · simp only [c, if_false]
          rw [if_neg (hnt k (by omega))]
          exact (a4 k (by omega)).2.2.2.2.2.2.2
  · rw [q_T1_in he, s25 j hj]
    by_cases c : j = t
    · rw [if_pos c]
      exact ⟨fun _ => Or.inl c, fun _ => rfl⟩
    · rw [if_neg c, a6 j hj]
      exact ⟨Or.inr, fun q => q.resolve_left c⟩
/-- the open sum with the tile is that of the chain with it -/
theorem q_sum1 {H : am_D} (hK : q_K D n p T V) {t e : Nat} (ht : t < 28) (he : e < 2) (hn : n ≤ 27) (hf : n = 0 ∨ q_sh t (m156 D (Int32.ofNat e))) (hH : q_KC H (n + 1) (q_T1 e n t T) (q_V1 e n t T V)) : m160 H = m161 D (Int32.ofNat t) (Int32.ofNat e) := by
  have e4 := kc_n' hH
  have e0 := kc_e0 hH
  have e1 := kc_e1 hH
  rw [if_neg (by omega)] at e0 e1
  unfold m160 m161
  rw [e4, k_n' hK]
  by_cases h0 : n = 0
  · subst h0
    rw [if_neg (by decide), if_pos (show Int32.ofNat (0 + 1) = 1 from rfl), if_pos (show Int32.ofNat 0 = 0 from rfl), e0, e1, q251 ht, q_add]
    have : q_T1 e 0 t T (0 + 1 - 1) = t := by
      unfold q_T1
      obtain rfl | rfl : e = 0 ∨ e = 1 := by omega
      · simp
      · simp
    rw [this]
    have : q_V1 e 0 t T V (0 + 1 - 1) = q_lo t ∧ q_V1 e 0 t T V 0 = q_lo t := by unfold q_V1; simp
    rw [this.1]
    congr 1
    unfold q_pip; omega
  · have z1 : ¬ Int32.ofNat (n + 1) = 0 := by rw [q_l0, q_eq (by omega) (by omega)]; omega
    have z2 : ¬ Int32.ofNat (n + 1) = 1 := by rw [q_l1, q_eq (by omega) (by omega)]; omega
    have z3 : ¬ Int32.ofNat n = 0 := by rw [q_l0, q_eq (by omega) (by omega)]; exact h0
    rw [if_neg z1, if_neg z2, if_neg z3, q157C hH (by omega), q157C hH (by omega)]
    have f0 : m156 H 0 = Int32.ofNat (q_V1 e n t T V 0) := e0
    have f1 : m156 H 1 = Int32.ofNat (q_pip (q_T1 e n t T (n + 1 - 1)) - q_V1 e n t T V (n + 1 - 1)) := e1
    rw [f0, f1, if_pos rfl, if_neg (by decide), show n + 1 - 1 = n by omega]
    obtain rfl | rfl : e = 0 ∨ e = 1 := by omega
    · have g : m166 (Int32.ofNat 0) = 1 := rfl
      have g1 : m156 D 1 = Int32.ofNat (q_pip (T (n - 1)) - V (n - 1)) := by
        show D.1 2 6 = _
        rw [k_e1 hK, if_neg h0]
      have g0 : m156 D (Int32.ofNat 0) = Int32.ofNat (V 0) := by
        show D.1 2 5 = _
        rw [k_e0 hK, if_neg h0]
      have g2 : m162 D (Int32.ofNat t) (Int32.ofNat 0) = Int32.ofNat (q_pip t - V 0) := by
        unfold m162
        rw [k_n' hK, if_neg z3, q251 ht, g0, q_vfr (q_ft0 hK ht (by omega) hf)]
      rw [g, q157 hK (by omega), if_neg (by decide), g1, g2]
      have v0 : q_V1 0 n t T V 0 = q_pip t - V 0 := by unfold q_V1; simp [h0]
      have vn : q_V1 0 n t T V n = V (n - 1) := by unfold q_V1; simp [h0]
      have t0 : q_T1 0 n t T 0 = t := by unfold q_T1; simp
      have tn : q_T1 0 n t T n = T (n - 1) := by unfold q_T1; simp [h0]
      rw [v0, vn, t0, tn]
    · have g : m166 (Int32.ofNat 1) = 0 := rfl
      have g0 : m156 D 0 = Int32.ofNat (V 0) := by
        show D.1 2 5 = _
        rw [k_e0 hK, if_neg h0]
      have g1 : m156 D (Int32.ofNat 1) = Int32.ofNat (q_pip (T (n - 1)) - V (n - 1)) := by
        show D.1 2 6 = _
        rw [k_e1 hK, if_neg h0]
      have g2 : m162 D (Int32.ofNat t) (Int32.ofNat 1) = Int32.ofNat (q_pip t - (q_pip (T (n - 1)) - V (n - 1))) := by
        unfold m162
        rw [k_n' hK, if_neg z3, q251 ht, g1, q_vfr (q_ft1 hK ht (by omega) hf)]
      rw [g, q157 hK (by omega), if_pos rfl, g0, g2]
      have h0' : ¬ 0 = n := fun q => h0 q.symm
      have v0 : q_V1 1 n t T V 0 = V 0 := by unfold q_V1; simp [h0, h0']
      have vn : q_V1 1 n t T V n = q_pip (T (n - 1)) - V (n - 1) := by unfold q_V1; simp [h0]
      have t0 : q_T1 1 n t T 0 = T 0 := by unfold q_T1; simp [h0']
      have tn : q_T1 1 n t T n = t := by unfold q_T1; simp
      rw [v0, vn, t0, tn, Int32.add_comm]
/-- an end's weight -/
theorem q255 {t v : Nat} (ht : t < 28) (hv : v < 7) : ∃ w, w ≤ 12 ∧ m255 (Int32.ofNat t) (Int32.ofNat v) = Int32.ofNat w := by
  unfold m255
  split
  · exact ⟨2 * v, by omega, by rw [q_l2, q_mul]⟩
  · exact ⟨v, by omega, rfl⟩
theorem q161s (hK : q_K D n p T V) {t e : Nat} (ht : t < 28) (he : e < 2) (hf : n = 0 ∨ q_sh t (m156 D (Int32.ofNat e))) : ∃ w, w ≤ 24 ∧ m161 D (Int32.ofNat t) (Int32.ofNat e) = Int32.ofNat w := by
  unfold m161
  rw [k_n' hK]
  have h28 := k_n28 hK
  by_cases h0 : n = 0
  · subst h0
    rw [if_pos (show Int32.ofNat 0 = 0 from rfl), q251 ht]
    have a1 := q_lo7 t ht
    have a2 := q_hi7 t ht
    exact ⟨q_pip t, by unfold q_pip; omega, rfl⟩
  · have z3 : ¬ Int32.ofNat n = 0 := by rw [q_l0, q_eq (by omega) (by omega)]; exact h0
    rw [if_neg z3]
    obtain ⟨b1, b2, -⟩ := k_k hK 0 (by omega)
    obtain ⟨b3, b4, -⟩ := k_k hK (n - 1) (by omega)
    have hfr : ∃ v, v < 7 ∧ m162 D (Int32.ofNat t) (Int32.ofNat e) = Int32.ofNat v := by
      unfold m162
      rw [k_n' hK, if_neg z3, q251 ht]
      obtain rfl | rfl : e = 0 ∨ e = 1 := by omega
      · have g0 : m156 D (Int32.ofNat 0) = Int32.ofNat (V 0) := by
          show D.1 2 5 = _
          rw [k_e0 hK, if_neg h0]
        have q := q_ft0 hK ht (by omega) hf
        exact ⟨q_pip t - V 0, (q_v7 ht q).2, by rw [g0, q_vfr q]⟩
      · have g1 : m156 D (Int32.ofNat 1) = Int32.ofNat (q_pip (T (n - 1)) - V (n - 1)) := by
          show D.1 2 6 = _
          rw [k_e1 hK, if_neg h0]
        have q := q_ft1 hK ht (by omega) hf
        exact ⟨_, (q_v7 ht q).2, by rw [g1, q_vfr q]⟩
    obtain ⟨v, v1, v2⟩ := hfr
    obtain ⟨w1, w2, w3⟩ := q255 ht v1
    have ho : ∃ w, w ≤ 12 ∧ m157 D (m166 (Int32.ofNat e)) = Int32.ofNat w := by
      rw [q157 hK (by omega)]
      obtain rfl | rfl : e = 0 ∨ e = 1 := by omega
      · have g1 : m156 D (m166 (Int32.ofNat 0)) = Int32.ofNat (q_pip (T (n - 1)) - V (n - 1)) := by
          show D.1 2 6 = _
          rw [k_e1 hK, if_neg h0]
        rw [g1, if_neg (by decide)]
        exact q255 b3 (q_v7 b3 b4).2
      · have g1 : m156 D (m166 (Int32.ofNat 1)) = Int32.ofNat (V 0) := by
          show D.1 2 5 = _
          rw [k_e0 hK, if_neg h0]
        rw [g1, if_pos (by decide)]
        exact q255 b1 (q_v7 b1 b2).1
    obtain ⟨y1, y2, y3⟩ := ho
    exact ⟨w1 + y1, by omega, by rw [v2, w3, y3, q_add]⟩
theorem q_fif : ∀ w, w ≤ 24 → m65 (Int32.ofNat w) = m256 (Int32.ofNat w) := by decide +kernel
end MI
