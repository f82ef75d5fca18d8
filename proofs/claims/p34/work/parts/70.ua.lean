/-! the row that a table is; what is good of a table; what holds between the deeds -/
section UA
variable {c c' : Nat → Nat → Int32} {s : Nat → Int32} {n p : Nat} {T V : Nat → Nat}
theorem u_en13 {h : Nat} (hh : h < 4) : u_en c (13 + h) = c 7 h := by
  have : h = 0 ∨ h = 1 ∨ h = 2 ∨ h = 3 := by omega
  rcases this with rfl | rfl | rfl | rfl <;> rfl
theorem u_en17 {h : Nat} (hh : h < 4) : u_en c (17 + h) = c 8 h := by
  have : h = 0 ∨ h = 1 ∨ h = 2 ∨ h = 3 := by omega
  rcases this with rfl | rfl | rfl | rfl <;> rfl
theorem u_en21 {h : Nat} (hh : h < 4) : u_en c (21 + h) = c 9 h := by
  have : h = 0 ∨ h = 1 ∨ h = 2 ∨ h = 3 := by omega
  rcases this with rfl | rfl | rfl | rfl <;> rfl
theorem u_en_hi {k : Nat} (hk : 25 ≤ k) : u_en c k = if k < 53 then c 6 (k - 25) else if k < 81 then c 4 (u_fi (c 2) (k - 53) (c 1 4).toNatClampNeg) else if k < 109 then c 5 (u_fi (c 2) (k - 81) (c 1 4).toNatClampNeg) else if k < 137 then c 2 (k - 109) else c 3 (k - 137) := by
  unfold u_en
  rw [if_neg (show ¬ k = 0 by omega), if_neg (show ¬ k = 1 by omega), if_neg (show ¬ k = 2 by omega), if_neg (show ¬ k = 3 by omega), if_neg (show ¬ k = 4 by omega), if_neg (show ¬ k = 5 by omega), if_neg (show ¬ k = 6 by omega), if_neg (show ¬ k = 7 by omega), if_neg (show ¬ k = 8 by omega), if_neg (show ¬ k = 9 by omega), if_neg (show ¬ k = 10 by omega), if_neg (show ¬ k = 11 by omega), if_neg (show ¬ k = 12 by omega), if_neg (show ¬ k < 17 by omega), if_neg (show ¬ k < 21 by omega), if_neg (show ¬ k < 25 by omega)]
theorem u_en25 {t : Nat} (ht : t < 28) : u_en c (25 + t) = c 6 t := by
  rw [u_en_hi (by omega), if_pos (by omega), show 25 + t - 25 = t by omega]
theorem u_en53 {t : Nat} (ht : t < 28) : u_en c (53 + t) = c 4 (u_fi (c 2) t (c 1 4).toNatClampNeg) := by
  rw [u_en_hi (by omega), if_neg (by omega), if_pos (by omega), show 53 + t - 53 = t by omega]
theorem u_en81 {t : Nat} (ht : t < 28) : u_en c (81 + t) = c 5 (u_fi (c 2) t (c 1 4).toNatClampNeg) := by
  rw [u_en_hi (by omega), if_neg (by omega), if_neg (by omega), if_pos (by omega), show 81 + t - 81 = t by omega]
theorem u_en109 {k : Nat} (hk : k < 28) : u_en c (109 + k) = c 2 k := by
  rw [u_en_hi (by omega), if_neg (by omega), if_neg (by omega), if_neg (by omega), if_pos (by omega), show 109 + k - 109 = k by omega]
theorem u_en137 (k : Nat) : u_en c (137 + k) = c 3 k := by
  rw [u_en_hi (by omega), if_neg (by omega), if_neg (by omega), if_neg (by omega), if_neg (by omega), show 137 + k - 137 = k by omega]
theorem u_fi_ok {f : Nat → Int32} (hT : ∀ k, k < n → T k < 28 ∧ f k = Int32.ofNat (T k)) (hi : ∀ j k, j < n → k < n → T j = T k → j = k) {k : Nat} (hk : k < n) : ∀ m, k < m → m ≤ n → u_fi f (T k) m = k
  | 0, h, _ => absurd h (Nat.not_lt_zero _)
  | m + 1, h, hm => by
    show (if f m = Int32.ofNat (T k) then m else u_fi f (T k) m) = k
    by_cases c : m = k
    · subst c
      rw [if_pos (hT m hk).2]
    · rw [if_neg (fun q => c (hi m k (by omega) hk (q_ofN (by have := (hT m (by omega)).1; omega) (by have := (hT k hk).1; omega) ((hT m (by omega)).2.symm.trans q))))]
      exact u_fi_ok hT hi hk m (by omega) (by omega)
theorem u_en_C4 (h : q_C4 c s n p T V) : q_C4 c (u_en c) n p T V := by
  obtain ⟨⟨h1, h2, h3, h4, h5, h6, h7, h8⟩, h9, h10, h11⟩ := h
  have hn : (c 1 4).toNatClampNeg = n := by rw [h3, q_tn (by omega)]
  have hf : ∀ k, k < n → u_fi (c 2) (T k) n = k := fun k hk => u_fi_ok (fun j hj => ⟨(h4 j hj).1, (h4 j hj).2.2.2.2.1⟩) h5 hk n hk (Nat.le_refl _)
  refine ⟨⟨h1, h3, h3, fun k hk => ?_, h5, fun t ht => ?_, h7, h8⟩, fun t ht => ?_, fun x hx => ?_, ?_⟩
  · obtain ⟨a1, a2, a3, a4, a5, a6, a7, a8⟩ := h4 k hk
    exact ⟨a1, a2, by rw [u_en109 (by omega)]; exact a5, by rw [u_en137]; exact a6, a5, a6, by rw [u_en53 a1, hn, hf k hk], by rw [u_en81 a1, hn, hf k hk]⟩
  · rw [u_en25 ht, (h9 t ht).1]
    exact h6 t ht
  · rw [u_en25 ht]
    refine ⟨rfl, ?_⟩
    rw [(h9 t ht).1]
    exact (h9 t ht).2
  · obtain ⟨a1, a2, a3, a4, a5, a6⟩ := h10 x hx
    rw [u_en13 hx, u_en17 hx, u_en21 hx, a1, a2]
    refine ⟨rfl, rfl, rfl, a4, a5, ?_⟩
    have : q_cnt (fun t => u_en c (25 + t)) (Int32.ofNat x) = q_cnt (fun t => s (25 + t)) (Int32.ofNat x) := q_cnt_congr (fun t ht => by show u_en c (25 + t) = s (25 + t); rw [u_en25 ht, (h9 t ht).1])
    rw [this]; exact a6
  · obtain ⟨⟨a1, a2, a3, a4, a5⟩, ⟨u, b1, b2, b3⟩, b4, b5, b6, b7, b8, b9, b10, b11, b12, b13, b14, b15, b16, b17⟩ := h11
    refine ⟨⟨a1, a3, a3, a4, fun hp t ht => by rw [u_en25 ht, (h9 t ht).1]; exact a5 hp t ht⟩, ?_, ?_, rfl, rfl, ?_, rfl, ?_, rfl, ?_, rfl, rfl, rfl, rfl, rfl, rfl⟩
    · by_cases hp : p = 1
      · refine ⟨u, b1, ?_, by rw [b3]⟩
        show (if c 0 7 = q_nn then 0 else c 0 7) = _
        rw [b3, if_pos hp, if_neg (by rw [q_nnn (by omega)]; exact id)]
      · refine ⟨0, by omega, ?_, by rw [b3, if_neg hp, if_neg hp]⟩
        show (if c 0 7 = q_nn then 0 else c 0 7) = _
        rw [b3, if_neg hp, if_pos rfl]
        rfl
    · show (c 0 8 = q_nn ∧ p ≠ 1) ∨ ∃ u, u < 4 ∧ c 0 8 = Int32.ofNat u
      rw [b5]; exact b4
    · show c 0 9 = q_nn ∨ ∃ u, u < 4 ∧ c 0 9 = Int32.ofNat u
      rw [b6]; exact b7
    · show ∃ w, 1 ≤ w ∧ w ≤ 60 ∧ c 0 10 = Int32.ofNat w
      rw [b8]; exact b9
    · show ∃ w, w ≤ 4 ∧ (p = 1 → w ≤ 3) ∧ c 0 11 = Int32.ofNat w
      rw [b10]; exact b11
/-- what else is good of a table: the chain fits, each lay has its number, who laid, what is known to lack is so -/
def u_X (c : Nat → Nat → Int32) (n p : Nat) (T V : Nat → Nat) : Prop :=
  (∀ k, k + 1 < n → V (k + 1) = q_pip (T k) - V k) ∧
  (∃ M : Nat → Nat, (∀ k, k < n → c 5 k = Int32.ofNat (M k) ∧ 1 ≤ M k ∧ M k ≤ n) ∧ (∀ j k, j < n → k < n → M j = M k → j = k)) ∧
  (∀ k, k < n → ∃ u, u < 4 ∧ c 4 k = Int32.ofNat u) ∧
  (∀ h t, h < 4 → t < 28 → c 6 t = Int32.ofNat h → q_can (c 8 h).toNatClampNeg t = 1) ∧
  (p = 0 → ∀ h, h < 4 → c 8 h = 0)
def u_C (c : Nat → Nat → Int32) : Prop := ∃ n p T V, q_C4 c (u_en c) n p T V ∧ u_X c n p T V
theorem u_fi_cg {f g : Nat → Int32} (t : Nat) : ∀ m, (∀ k, k < m → f k = g k) → u_fi f t m = u_fi g t m
  | 0, _ => rfl
  | m + 1, h => by
    show (if f m = _ then _ else _) = (if g m = _ then _ else _)
    rw [h m (by omega), u_fi_cg t m (fun k hk => h k (by omega))]
theorem u_fi_lt (f : Nat → Int32) (t : Nat) : ∀ m, 0 < m → u_fi f t m < m
  | 0, h => absurd h (Nat.lt_irrefl _)
  | m + 1, _ => by
    show (if f m = _ then m else u_fi f t m) < m + 1
    split
    · omega
    · cases m with
      | zero => show 0 < 1; omega
      | succ m => have := u_fi_lt f t (m + 1) (by omega); omega
theorem u_en_w (hc : ∀ i j, q_w i j → c' i j = c i j) (hn : (c 1 4).toNatClampNeg ≤ 28) : ∀ k, k < 165 → u_en c' k = u_en c k := by
  intro k hk
  have e4 : c' 1 4 = c 1 4 := hc 1 4 (by unfold q_w; omega)
  have hfi : ∀ t, u_fi (c' 2) t (c 1 4).toNatClampNeg = u_fi (c 2) t (c 1 4).toNatClampNeg := fun t => u_fi_cg t _ (fun j hj => hc 2 j (by unfold q_w; omega))
  have hlt : ∀ t, u_fi (c 2) t (c 1 4).toNatClampNeg < 28 := fun t => by
    by_cases h0 : (c 1 4).toNatClampNeg = 0
    · rw [h0]; show 0 < 28; omega
    · have := u_fi_lt (c 2) t _ (Nat.pos_of_ne_zero h0)
      omega
  by_cases h25 : 25 ≤ k
  · rw [u_en_hi h25, u_en_hi h25, e4]
    by_cases h1 : k < 53
    · rw [if_pos h1, if_pos h1]; exact hc _ _ (by unfold q_w; omega)
    · rw [if_neg h1, if_neg h1]
      by_cases h2 : k < 81
      · rw [if_pos h2, if_pos h2, hfi]; have := hlt (k - 53); exact hc _ _ (by unfold q_w; omega)
      · rw [if_neg h2, if_neg h2]
        by_cases h3 : k < 109
        · rw [if_pos h3, if_pos h3, hfi]; have := hlt (k - 81); exact hc _ _ (by unfold q_w; omega)
        · rw [if_neg h3, if_neg h3]
          by_cases h4 : k < 137
          · rw [if_pos h4, if_pos h4]; exact hc _ _ (by unfold q_w; omega)
          · rw [if_neg h4, if_neg h4]; exact hc _ _ (by unfold q_w; omega)
  · have hs : ∀ i j, i = 0 ∨ i = 10 ∨ i = 1 → q_w i j → c' i j = c i j := fun i j _ h => hc i j h
    have g : ∀ i j, q_w i j → c' i j = c i j := hc
    have : k < 13 ∨ (∃ h, h < 4 ∧ k = 13 + h) ∨ (∃ h, h < 4 ∧ k = 17 + h) ∨ ∃ h, h < 4 ∧ k = 21 + h := by
      by_cases a : k < 13
      · exact Or.inl a
      · by_cases b : k < 17
        · exact Or.inr (Or.inl ⟨k - 13, by omega, by omega⟩)
        · by_cases b2 : k < 21
          · exact Or.inr (Or.inr (Or.inl ⟨k - 17, by omega, by omega⟩))
          · exact Or.inr (Or.inr (Or.inr ⟨k - 21, by omega, by omega⟩))
    rcases this with a | ⟨h, hh, rfl⟩ | ⟨h, hh, rfl⟩ | ⟨h, hh, rfl⟩
    · have h7 : c' 0 7 = c 0 7 := hc 0 7 (by unfold q_w; omega)
      have : k = 0 ∨ k = 1 ∨ k = 2 ∨ k = 3 ∨ k = 4 ∨ k = 5 ∨ k = 6 ∨ k = 7 ∨ k = 8 ∨ k = 9 ∨ k = 10 ∨ k = 11 ∨ k = 12 := by omega
      rcases this with rfl | rfl | rfl | rfl | rfl | rfl | rfl | rfl | rfl | rfl | rfl | rfl | rfl
      · exact hc 0 6 (by unfold q_w; omega)
      · show (if c' 0 7 = q_nn then 0 else c' 0 7) = (if c 0 7 = q_nn then 0 else c 0 7)
        rw [h7]
      · exact hc 0 8 (by unfold q_w; omega)
      · exact hc 0 10 (by unfold q_w; omega)
      · exact hc 0 11 (by unfold q_w; omega)
      · exact hc 0 9 (by unfold q_w; omega)
      · exact hc 10 0 (by unfold q_w; omega)
      · exact hc 10 1 (by unfold q_w; omega)
      · exact hc 0 12 (by unfold q_w; omega)
      · exact hc 0 13 (by unfold q_w; omega)
      · exact hc 0 14 (by unfold q_w; omega)
      · exact hc 0 15 (by unfold q_w; omega)
      · exact e4
    · rw [u_en13 hh, u_en13 hh]; exact hc 7 h (by unfold q_w; omega)
    · rw [u_en17 hh, u_en17 hh]; exact hc 8 h (by unfold q_w; omega)
    · rw [u_en21 hh, u_en21 hh]; exact hc 9 h (by unfold q_w; omega)
theorem u_X_w (hc : ∀ i j, q_w i j → c' i j = c i j) (hn : n ≤ 28) (h : u_X c n p T V) : u_X c' n p T V := by
  obtain ⟨h1, ⟨M, h2, h3⟩, h4, h5, h6⟩ := h
  refine ⟨h1, ⟨M, fun k hk => by rw [hc 5 k (by unfold q_w; omega)]; exact h2 k hk, h3⟩, fun k hk => by rw [hc 4 k (by unfold q_w; omega)]; exact h4 k hk, fun h t hh ht e => ?_, fun hp h hh => by rw [hc 8 h (by unfold q_w; omega)]; exact h6 hp h hh⟩
  rw [hc 6 t (by unfold q_w; omega)] at e
  rw [hc 8 h (by unfold q_w; omega)]
  exact h5 h t hh ht e
theorem u_C_w (hc : ∀ i j, q_w i j → c' i j = c i j) (h : u_C c) : u_C c' := by
  obtain ⟨n, p, T, V, h1, h2⟩ := h
  have h28 : n ≤ 28 := h1.1.1
  have hn : (c 1 4).toNatClampNeg = n := by rw [h1.1.2.2.1, q_tn (by omega)]
  exact ⟨n, p, T, V, q_C4_w hc (u_en_w hc (by omega)) h1, u_X_w hc h28 h2⟩
theorem u_C_of (h : q_C4 c s n p T V) (hx : u_X c n p T V) : u_C c := ⟨n, p, T, V, u_en_C4 h, hx⟩
/-- the row beside the class's cells is what they are -/
def u_N (D : am_D) : Prop := D.1 107 = u_en (q_c D 1) ∧ D.1 106 2 = D.1 23 2 ∧ q_B D
/-- the history holds good tables, so does the snapshot -/
def u_H (D : am_D) : Prop := ∃ o m, o < 6 ∧ m ≤ 6 ∧ D.1 23 1 = Int32.ofNat o ∧ D.1 23 2 = Int32.ofNat m ∧ ∀ j, j < m → u_C (q_c D (25 + 11 * ((o + j) % 6)))
def u_I (D : am_D) : Prop := u_N D ∧ u_C (q_c D 1) ∧ (D.1 0 7 = 1 → u_C (q_c D 12)) ∧ (D.1 0 7 = 0 ∨ D.1 0 7 = 1) ∧ u_H D ∧ q_tb D
variable {D E : am_D}
theorem q_c_gh {b : Nat} (hb : b ≤ 80) : ∀ i, i ≤ 10 → q_c (u_gh D) b i = q_c D b i := fun i hi => u_gh_c (by omega)
theorem u_en_cg (h : ∀ i, i ≤ 10 → c' i = c i) : u_en c' = u_en c := by
  unfold u_en
  rw [h 0 (by omega), h 1 (by omega), h 2 (by omega), h 3 (by omega), h 4 (by omega), h 5 (by omega), h 6 (by omega), h 7 (by omega), h 8 (by omega), h 9 (by omega), h 10 (by omega)]
theorem u_gh_N (D : am_D) : u_N (u_gh D) := by
  refine ⟨?_, ?_, fun t ht => ⟨rfl, rfl⟩⟩
  · rw [u_en_cg (q_c_gh (D := D) (by omega))]; rfl
  · show D.1 23 2 = _
    rw [u_gh_c (by omega)]
theorem u_C_cg (h : ∀ i, i ≤ 10 → c' i = c i) (k : u_C c) : u_C c' := u_C_w (fun i j hw => by rw [h i (by unfold q_w at hw; omega)]) k
/-- out of the class's cells alone -/
theorem u_gh_I (h1 : u_C (q_c D 1)) (h2 : D.1 0 7 = 1 → u_C (q_c D 12)) (h3 : D.1 0 7 = 0 ∨ D.1 0 7 = 1) (h4 : u_H D) (h5 : q_tb D) : u_I (u_gh D) := by
  refine ⟨u_gh_N D, u_C_cg (q_c_gh (by omega)) h1, ?_, ?_, ?_, h5⟩
  · rw [u_gh_c (by omega)]; exact fun q => u_C_cg (q_c_gh (by omega)) (h2 q)
  · rw [u_gh_c (by omega)]; exact h3
  · obtain ⟨o, m, a1, a2, a3, a4, a5⟩ := h4
    exact ⟨o, m, a1, a2, by rw [u_gh_c (by omega)]; exact a3, by rw [u_gh_c (by omega)]; exact a4, fun j hj => u_C_cg (q_c_gh (by omega)) (a5 j hj)⟩
theorem u_K (h : u_I D) : ∃ n p T V, q_K D n p T V ∧ u_X (q_c D 1) n p T V := by
  obtain ⟨⟨h1, h2, h3⟩, ⟨n, p, T, V, h4, h5⟩, -⟩ := h
  refine ⟨n, p, T, V, ?_, h5⟩
  unfold q_K
  have : q_s D 0 = u_en (q_c D 1) := by unfold q_s; rw [h1]; rfl
  rw [this]; exact h4
/-- what leaves all but scratch as it is -/
theorem u_E_I (h : q_E D E) (k : u_I D) : u_I E := by
  obtain ⟨⟨h1, h2, h3⟩, h4, h5, h6, ⟨o, m, a1, a2, a3, a4, a5⟩, h7⟩ := k
  have hc : ∀ b, b ≤ 80 → ∀ i, i ≤ 10 → q_c E b i = q_c D b i := fun b hb => q_E_c h hb
  refine ⟨⟨?_, ?_, q_E_B h h3⟩, u_C_cg (hc 1 (by omega)) h4, ?_, ?_, ⟨o, m, a1, a2, ?_, ?_, fun j hj => u_C_cg (hc _ (by omega)) (a5 j hj)⟩, ?_⟩
  · rw [h.1 107 (by omega), u_en_cg (hc 1 (by omega))]; exact h1
  · rw [h.2.1.1, h.1 23 (by omega)]; exact h2
  · rw [h.1 0 (by omega)]; exact fun q => u_C_cg (hc 12 (by omega)) (h5 q)
  · rw [h.1 0 (by omega)]; exact h6
  · rw [h.1 23 (by omega)]; exact a3
  · rw [h.1 23 (by omega)]; exact a4
  · unfold q_tb; rw [h.2.2]; exact h7
end UA
