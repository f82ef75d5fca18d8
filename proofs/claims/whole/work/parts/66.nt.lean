/-! the changes of a round, on both sides at once, from any states that are alike -/
section NT
variable {D M : am_D} {N n p : Nat} {T V : Nat → Nat}
/-- the class's cells of D and the model's row of M are alike -/
def q_al (D M : am_D) (n p : Nat) (T V : Nat → Nat) : Prop := q_C4 (q_c D 1) (q_s M 0) n p T V
theorem q_al_K (h : q_al D M n p T V) : q_K (q_hy D M) n p T V := by
  refine q_C4_eq (c := q_c D 1) (s := q_s M 0) (fun i hi => ?_) ?_ h
  · show (q_hy D M).1 (1 + i) = D.1 (1 + i)
    exact q_hy_c (by omega)
  · unfold q_s
    rw [q_hy_m (by omega)]
theorem q_hy_B (h : q_B M) : q_B (q_hy D M) := by
  intro t ht
  rw [q_hy_m (by omega), q_hy_m (by omega)]
  exact h t ht
/-- both sides have changed alike, and nothing else -/
def q_st (D M D' M' : am_D) : Prop := q_C (q_c D' 1) (q_s M' 0) ∧ (∀ a, a = 0 ∨ 12 ≤ a → D'.1 a = D.1 a) ∧ D'.2 = D.2 ∧ (∀ a, a ≠ 107 → M'.1 a = M.1 a) ∧ (∀ j, 165 ≤ j → M'.1 107 j = M.1 107 j) ∧ M'.2 = M.2
theorem p_lay (hN : 2000 ≤ N) (hB : q_B M) (h : q_al D M n p T V) {x t e : Nat} (hx : x < 4) (ht : t < 28) (he : e < 2) (hr : m220 D (Int32.ofNat x) (Int32.ofNat t) (Int32.ofNat e) = 0) : ∃ w D' M', w < 2147483648 ∧ m223 N D (Int32.ofNat x) (Int32.ofNat t) (Int32.ofNat e) = some (Int32.ofNat w, D') ∧ m71 N M (Int32.ofNat x) (Int32.ofNat t) (Int32.ofNat e) = some (Int32.ofNat w, M') ∧ q_st D M D' M' := by
  have hK := q_al_K h
  have hr' : m220 (q_hy D M) (Int32.ofNat x) (Int32.ofNat t) (Int32.ofNat e) = 0 := hr
  obtain ⟨rfl, hu, hP, hf⟩ := q220z hK hx ht hr'
  have hnt : ∀ k, k < n → T k ≠ t := fun k hk q => by
    have := (k_in hK t ht).mpr ⟨k, hk, q⟩
    rw [hP] at this
    have := q_ofN (by omega) (by omega) this
    omega
  have hn : n ≤ 27 := q_n27 ht (fun k hk => (k_k hK k hk).1) (k_inj hK) hnt
  obtain ⟨w, hw, h161⟩ := q161s hK ht he hf
  obtain ⟨D0, c1, c2, c3, c4, c5, c6, c7⟩ := q223 hN hK hx ht he hn hf hP hw h161
  have hsE : ∀ k, k < 165 → M.1 107 k = (q_hy D M).1 107 k := fun k hk => by rw [q_hy_m (by omega)]
  obtain ⟨M', b1, b2, b3, b4, b5⟩ := q71 hN hK hB hsE hx ht he hn hf hP hw h161
  obtain ⟨D', d1, rfl⟩ := h_mv (F := fun D => m223 N D (Int32.ofNat x) (Int32.ofNat t) (Int32.ofNat e)) (fun D M => h223 _ _ _) c1
  obtain ⟨k1, k2⟩ := h_keep (F := fun D => m223 N D (Int32.ofNat x) (Int32.ofNat t) (Int32.ofNat e)) (fun D M => h223 _ _ _) d1
  have hC := c_lay hK hsE hx ht he hn hf hP c2 c3 c4 c5 c6 b2 b3
  have hg : q_gain (q_hy D M) x w < 2147483648 := by
    have := q_all_le (q_P (q_hy D M))
    have := q_fi_le w hw
    unfold q_gain
    split <;> omega
  refine ⟨_, D', M', hg, d1, b1, q_C_eq (fun i hi => ?_) rfl hC, fun a ha => ?_, k2, b4, fun j hj => ?_, b5⟩
  · show D'.1 (1 + i) = (q_hy D' M).1 (1 + i)
    rw [q_hy_c (by omega)]
  · by_cases c : a ≤ 105
    · have := c6 a (by omega)
      rw [q_hy_c c, q_hy_c c] at this
      exact this
    · exact k1 a (by omega)
  · rw [b3 j (by omega), if_neg (by omega), if_neg (by omega), if_neg (by omega), if_neg (by omega), if_neg (by omega), if_neg (by omega), if_neg (by omega), if_neg (by omega), if_neg (by omega), if_neg (by omega)]
theorem p_pass (hN : 2000 ≤ N) (hB : q_B M) (h : q_al D M n p T V) {x : Nat} (hx : x < 4) (hr : q_np (q_hy D M) p x = 0) : ∃ w D' M', 0 < w ∧ w < 2147483648 ∧ m224 N D (Int32.ofNat x) = some (Int32.ofNat w, D') ∧ m72 N M (Int32.ofNat x) = some (Int32.ofNat w, M') ∧ q_st D M D' M' := by
  have hK := q_al_K h
  obtain ⟨rfl, hu, hf⟩ := q_np0 hK hr
  obtain ⟨r, hr4, hr3, h4⟩ := k_row hK
  have hr3' := hr3 rfl
  have hn : ¬ (q_hy D M).1 107 (13 + x) ≤ 0 → 0 < n := fun c => by
    rcases hf with hf | hf
    · exact absurd hf c
    · by_cases c0 : n = 0
      · have := q_first hK hx c0
        omega
      · omega
  obtain ⟨D0, c1, c2, c3, c4, c5, c6, c7⟩ := q224 hN hK hx hr3' h4 hn
  have hsE : ∀ k, k < 165 → M.1 107 k = (q_hy D M).1 107 k := fun k hk => by rw [q_hy_m (by omega)]
  obtain ⟨M', b1, b3, b4, b5⟩ := q72 hN hK hB hsE hx hr3' h4 hn
  obtain ⟨D', d1, rfl⟩ := h_mv (F := fun D => m224 N D (Int32.ofNat x)) (fun D M => h224 _) c1
  obtain ⟨k1, k2⟩ := h_keep (F := fun D => m224 N D (Int32.ofNat x)) (fun D M => h224 _) d1
  have hC := c_pas hK hsE hx hr3' hn c2 c3 c4 c5 c6 b3
  refine ⟨_, D', M', by omega, by omega, d1, b1, q_C_eq (fun i hi => ?_) rfl hC, fun a ha => ?_, k2, b4, fun j hj => ?_, b5⟩
  · show D'.1 (1 + i) = (q_hy D' M).1 (1 + i)
    rw [q_hy_c (by omega)]
  · by_cases c : a ≤ 105
    · have := c6 a (by omega)
      rw [q_hy_c c, q_hy_c c] at this
      exact this
    · exact k1 a (by omega)
  · rw [b3, if_neg (by omega), if_neg (by omega), if_neg (by omega), if_neg (by omega), if_neg (by omega), if_neg (by omega), if_neg (by omega), if_neg (by omega)]
theorem p_clock (h : q_al D M n p T V) (hp1 : p = 1) {w : Nat} (hw : w < 2) : ∃ y, y < 4 ∧ ∃ D' M', m228 D (Int32.ofNat w) = (Int32.ofNat y, D') ∧ m73 M (Int32.ofNat w) = (Int32.ofNat y, M') ∧ q_st D M D' M' := by
  have hK := q_al_K h
  obtain ⟨u, hu, hu'⟩ := (k_hw hK).resolve_left (fun q => q.2 hp1)
  have hh : D.1 1 8 = Int32.ofNat u := (k_ho hK).trans hu'
  have hm : M.1 107 2 = Int32.ofNat u := hu'
  obtain ⟨y, hy, e5, e6⟩ : ∃ y, y < 4 ∧ (if Int32.ofNat w = 1 then m185 (D.1 1 8) else m186 (D.1 1 8)) = Int32.ofNat y ∧ (Int32.ofNat u + (if Int32.ofNat w = 1 then (1 : Int32) else 3)) - (Int32.ofNat u + (if Int32.ofNat w = 1 then (1 : Int32) else 3)) / 4 * 4 = Int32.ofNat y := by
    rw [hh]
    obtain rfl | rfl : w = 0 ∨ w = 1 := by omega
    · exact ⟨(u + 3) % 4, by omega, (q_md4 u hu).2, q_md4' u hu 3 (by omega)⟩
    · exact ⟨(u + 1) % 4, by omega, (q_md4 u hu).1, q_md4' u hu 1 (by omega)⟩
  refine ⟨y, hy, am_uI (am_uI D 1 8 (Int32.ofNat y)) 1 15 (D.1 1 15 + 1), am_uI (am_uI M 107 2 (Int32.ofNat y)) 107 11 (M.1 107 11 + 1), ?_, ?_, ?_, fun a ha => ?_, rfl, fun a ha => ?_, fun j hj => ?_, rfl⟩
  · unfold m228
    simp only [am_lt, e5]
    rw [q_uI_at (am_uI D 1 8 (Int32.ofNat y)), if_neg (by omega), q_uIs, q_uI_at, if_neg (by omega)]
  · unfold m73
    simp only [am_lt, hm, e6]
    rw [q_uI_at (am_uI M 107 2 (Int32.ofNat y)), if_neg (by omega), q_uIs, q_uI_at, if_neg (by omega)]
  · rw [show q_c (am_uI (am_uI D 1 8 (Int32.ofNat y)) 1 15 (D.1 1 15 + 1)) 1 = _ from q_c_up _ 0 15 _, show q_c (am_uI D 1 8 (Int32.ofNat y)) 1 = _ from q_c_up D 0 8 _, q_s_up, q_s_up]
    exact ⟨n, p, T, V, c_clk h hy⟩
  · rw [q_uI_ne _ (by omega), q_uI_ne _ (by omega)]
  · rw [q_uI_ne _ ha, q_uI_ne _ ha]
  · rw [q_uI_at, if_neg (by omega), q_uI_at, if_neg (by omega)]
theorem p_tick (h : q_al D M n p T V) (hp1 : p = 1) {w : Nat} (hw : w < 100) : ∃ y, y < 61 ∧ ∃ D' M', m229 D (Int32.ofNat w) = (Int32.ofNat y, D') ∧ m74 M (Int32.ofNat w) = some (Int32.ofNat y, M') ∧ q_st D M D' M' := by
  have hK := q_al_K h
  obtain ⟨u, hu, hu1, hu2⟩ := k_tu hK
  rw [if_pos hp1] at hu2
  obtain ⟨y, hy, hy1⟩ := k_tw hK u hu
  have m1 : M.1 107 1 = Int32.ofNat u := hu1
  have m2 : M.1 107 (13 + u) = Int32.ofNat y := hy1
  have d1 : D.1 1 7 = Int32.ofNat u := hu2
  have d2 : D.1 8 u = Int32.ofNat y := (k_ti hK u hu).trans hy1
  have a5 := q_sb1 y (by omega) w hw
  have b5 := q_sb2 y (by omega) w hw
  refine ⟨y - w, by omega, am_uI D 8 u (Int32.ofNat (y - w)), am_uI M 107 (13 + u) (Int32.ofNat (y - w)), ?_, ?_, ?_, fun a ha => ?_, rfl, fun a ha => ?_, fun j hj => ?_, rfl⟩
  · unfold m229
    rw [d1, q_rt4 _ hu, d2, a5]
    simp only [am_lt]
    rw [q_rp_at _ _ _ _ (by omega) hu]
  · have e10 : 13 + u < 1320 := by omega
    have e11 : (am_uI M 107 (13 + u) (Int32.ofNat (y - w))).1 107 1 = Int32.ofNat u := by rw [q_uI_at, if_neg (by omega)]; exact m1
    have e12 : (am_uI M 107 (13 + u) (Int32.ofNat (y - w))).1 107 (13 + u) = Int32.ofNat (y - w) := q_uIs _ _ _ _
    unfold m74
    rw [q_l0] at b5
    simp (disch := omega) only [q_l0, q_l1, q_l2, q_l3, q_l4, q_l5, q_l6, q_l7, q_l8, q_l9, q_l10, q_l13, q_l15, q_l17, q_l18, q_l19, q_l21, q_l22, q_l23, q_l25, q_l27, q_l28, q_l31, q_l33, q_l41, q_l43, q_l44, q_l45, q_l48, q_l49, q_l51, q_l52, q_l53, q_l54, q_l56, q_l57, q_l58, q_l59, q_l60, q_l62, q_l63, q_l64, q_l73, q_l81, q_l99, q_l108, q_l109, q_l112, q_l116, q_l126, q_l127, q_l128, q_l137, q_l165, q_l484, q_l1023, q_l1320, q_l4095, q_l4096, q_lm, am_lt, q_le, q_lt, q_tn, q_add, q_ite, Nat.zero_le, and_self, true_and, and_true, if_true, if_false, ite_self, m1, m2, e10, b5, e11, e12]
  · rw [show q_c (am_uI D 8 u (Int32.ofNat (y - w))) 1 = _ from q_c_up _ 7 u _, q_s_up]
    exact ⟨n, p, T, V, c_tck h hu (by omega)⟩
  · rw [q_uI_ne _ (by omega)]
  · rw [q_uI_ne _ ha]
  · rw [q_uI_at, if_neg (by omega)]
end NT
