/-! set, clock, tick, give: the calls -/
section MB
variable {D : am_D}
theorem q_c_up (D : am_D) (i0 j0 : Nat) (x : Int32) : q_c (am_uI D (1 + i0) j0 x) 1 = q_up (q_c D 1) i0 j0 x := by
  funext i j
  show (if 1 + i = 1 + i0 ∧ j = j0 then x else D.1 (1 + i) j) = if i = i0 ∧ j = j0 then x else D.1 (1 + i) j
  by_cases h : i = i0 ∧ j = j0
  · rw [if_pos h, if_pos (by omega)]
  · rw [if_neg h, if_neg (by omega)]
theorem q_s_up (D : am_D) (j0 : Nat) (x : Int32) : q_s (am_uI D 107 j0 x) 0 = upd (q_s D 0) j0 x := by
  funext k
  show (if 107 = 107 ∧ k + 0 = j0 then x else D.1 107 k) = if k = j0 then x else D.1 107 k
  by_cases h : k = j0
  · rw [if_pos h, if_pos (by omega)]
  · rw [if_neg h, if_neg (by omega)]
theorem q_c_D1 {D1 : am_D} (h : q_svC D D1) : ∀ i, i ≤ 10 → q_c D1 1 i = q_c D 1 i := fun i hi => (q_pre_1 h).1 (1 + i) (by omega)
theorem q_K_D1 {D1 : am_D} {n p : Nat} {T V : Nat → Nat} (h : q_svC D D1) (k : q_K D n p T V) : q_K D1 n p T V := q_C4_eq (q_c_D1 h) (by unfold q_s; rw [(q_pre_1 h).1 107 (by omega)]) k
theorem q_ud_eq {s s' : Nat → Int32} {m : Nat} (h : ∀ k, k < m → s' k = s k) (j : Nat) (x : Int32) : ∀ k, k < m → upd s' j x k = upd s j x k := fun k hk => by
  by_cases c : k = j
  · rw [c, q_ud_s, q_ud_s]
  · rw [q_ud_ne c, q_ud_ne c]; exact h k hk
theorem q_up_eq {c c' : Nat → Nat → Int32} {m : Nat} (h : ∀ i, i ≤ m → c' i = c i) (a b : Nat) (x : Int32) : ∀ i, i ≤ m → q_up c' a b x i = q_up c a b x i := fun i hi => by
  funext j
  unfold q_up
  rw [h i hi]
theorem g_set {N : Nat} (hN : 2000 ≤ N) (hI : q_I D) (v : Int32) : q_G (fun D => m268 D v) (fun D => m88 N D v) D := by
  rcases q46 (v := v) (a := 1) (b := 60) (by omega) (by omega) with ⟨w, h1, h2, rfl, e⟩ | ⟨e, h1⟩
  · obtain ⟨n, p, T, V, hK⟩ := q_I_K hI
    obtain ⟨D1, d1, d2⟩ := q_sav hI
    have hfr : q_fr D1 (am_uI D1 1 10 (Int32.ofNat w)) := q_fr_uI (by omega)
    obtain ⟨E1, e1, e2⟩ := q_pre_of hN hI d2 hfr (D1.1 1 10).toInt64
    obtain ⟨s1, s2, s3, s4, s5, s6⟩ := q_pre_s e2
    have hfm : q_fm E1 (am_uI E1 107 3 (Int32.ofNat w)) := q_fm_uI (by omega)
    refine q_G_mu (D1.1 1 10) hI e2 hfm ?_ (q_tx_same hI e2 hfm (q_uI_ne _ (by omega)) (by rw [q_uI_ne _ (by omega)])) ?_ ?_
    · rw [show q_c (am_uI D1 1 10 (Int32.ofNat w)) 1 = _ from q_c_up D1 0 10 (Int32.ofNat w), q_s_up]
      exact ⟨n, p, T, V, q_C4_w (fun i j hw => by rw [q_up_eq (q_c_D1 d2) 0 10 _ i (by unfold q_w at hw; omega)]) (q_ud_eq s1 3 _) (c_set hK h1 h2)⟩
    · show m268 D _ = _
      have e3 : ¬ Int32.ofNat w < 1 := q_nlt (a := 1) (by omega) h1
      have e4 : Int32.ofNat w ≤ 60 := q_yle (b := 60) (by omega) h2
      unfold m268 m9
      rw [if_neg e3, if_pos e4, d1]
      rfl
    · show m88 N _ _ = _
      simp only [← q_l1, ← q_l60] at e
      unfold m88
      simp only [am_lt, e, q_10, if_false, q47a, e1, Option.bind_some]
      have e5 : E1.1 107 3 = D1.1 1 10 := by
        have := s1 3 (by omega)
        rw [(q_pre_1 d2).1 1 (by omega), k_se hK]
        exact this
      rw [e5]
  · refine q_G_ex hI 1 (by omega) ?_ ?_
    · show m268 D _ = _
      unfold m268 m9
      rcases h1 with h1 | h1
      · rw [if_pos (show v < 1 from h1)]; rfl
      · rw [if_neg (c := v ≤ 60) (Int32.not_le.mpr h1), ite_self]; rfl
    · show m88 N D _ = _
      simp only [← q_l1, ← q_l60] at e
      unfold m88
      simp only [am_lt, e, if_true, q47b]
      rfl
theorem q_md4 : ∀ u, u < 4 → m185 (Int32.ofNat u) = Int32.ofNat ((u + 1) % 4) ∧ m186 (Int32.ofNat u) = Int32.ofNat ((u + 3) % 4) := by decide +kernel
theorem q_md4' : ∀ u, u < 4 → ∀ k, k < 4 → (Int32.ofNat u + Int32.ofNat k) - (Int32.ofNat u + Int32.ofNat k) / 4 * 4 = Int32.ofNat ((u + k) % 4) := by decide +kernel
theorem g_clock {N : Nat} (hN : 2000 ≤ N) (hI : q_I D) (v : Int32) : q_G (fun D => m266 D v) (fun D => m86 N D v) D := by
  obtain ⟨n, p, T, V, hK⟩ := q_I_K hI
  have hp := k_p3 hK
  rcases q43 v with ⟨w, hw, rfl, e, e', e''⟩ | ⟨e, e', e''⟩
  · by_cases hp1 : p = 1
    · obtain ⟨u, hu, hu'⟩ := (k_hw hK).resolve_left (fun q => q.2 hp1)
      obtain ⟨D1, d1, d2⟩ := q_sav hI
      have hh : D1.1 1 8 = Int32.ofNat u := by rw [(q_pre_1 d2).1 1 (by omega), k_ho hK]; exact hu'
      obtain ⟨y, hy, e5, e6⟩ : ∃ y, y < 4 ∧ (if Int32.ofNat w = 1 then m185 (D1.1 1 8) else m186 (D1.1 1 8)) = Int32.ofNat y ∧ (Int32.ofNat u + (if Int32.ofNat w = 1 then (1 : Int32) else 3)) - (Int32.ofNat u + (if Int32.ofNat w = 1 then (1 : Int32) else 3)) / 4 * 4 = Int32.ofNat y := by
        rw [hh]
        obtain rfl | rfl : w = 0 ∨ w = 1 := by omega
        · exact ⟨(u + 3) % 4, by omega, (q_md4 u hu).2, q_md4' u hu 3 (by omega)⟩
        · exact ⟨(u + 1) % 4, by omega, (q_md4 u hu).1, q_md4' u hu 1 (by omega)⟩
      have hfr : q_fr D1 (am_uI (am_uI D1 1 8 (Int32.ofNat y)) 1 15 ((am_uI D1 1 8 (Int32.ofNat y)).1 1 15 + 1)) := (q_fr_uI (by omega)).tr (q_fr_uI (by omega))
      obtain ⟨E1, e1, e2⟩ := q_pre_of hN hI d2 hfr (Int32.ofNat y).toInt64
      obtain ⟨s1, s2, s3, s4, s5, s6⟩ := q_pre_s e2
      have hfm : q_fm E1 (am_uI (am_uI E1 107 2 (Int32.ofNat y)) 107 11 ((am_uI E1 107 2 (Int32.ofNat y)).1 107 11 + 1)) := (q_fm_uI (by omega)).tr (q_fm_uI (by omega))
      refine q_G_mu (Int32.ofNat y) hI e2 hfm ?_ (q_tx_same hI e2 hfm (by rw [q_uI_ne _ (by omega), q_uI_ne _ (by omega)]) (by rw [q_uI_ne _ (by omega), q_uI_ne _ (by omega)])) ?_ ?_
      · have a1 : (am_uI D1 1 8 (Int32.ofNat y)).1 1 15 = D1.1 1 15 := by rw [q_uI_at, if_neg (by omega)]
        have a2 : (am_uI E1 107 2 (Int32.ofNat y)).1 107 11 = E1.1 107 11 := by rw [q_uI_at, if_neg (by omega)]
        have a3 : D1.1 1 15 = q_c D 1 0 15 := by rw [(q_pre_1 d2).1 1 (by omega)]; rfl
        have a4 : E1.1 107 11 = q_s D 0 11 := s1 11 (by omega)
        rw [a1, a2, a3, a4, show q_c (am_uI (am_uI D1 1 8 (Int32.ofNat y)) 1 15 (q_c D 1 0 15 + 1)) 1 = _ from q_c_up _ 0 15 _, show q_c (am_uI D1 1 8 (Int32.ofNat y)) 1 = _ from q_c_up D1 0 8 _, q_s_up, q_s_up]
        exact ⟨n, p, T, V, q_C4_w (fun i j hw => by rw [q_up_eq (q_up_eq (q_c_D1 d2) 0 8 _) 0 15 _ i (by unfold q_w at hw; omega)]) (q_ud_eq (q_ud_eq s1 2 _) 11 _) (c_clk hK hy)⟩
      · show m266 D _ = _
        have e4 : D.1 1 6 = 1 := by rw [k_p' hK, hp1]; rfl
        unfold m266 m7
        rw [if_neg (by rw [e]; decide), if_pos e4, d1, Option.bind_some]
        unfold m228
        simp only [am_lt, e5]
        rw [q_uI_at (am_uI D1 1 8 (Int32.ofNat y)), if_neg (by omega), q_uIs]
        rfl
      · show m86 N _ _ = _
        have e7 : (am_uJ (am_uI (am_uI D1 1 8 (Int32.ofNat y)) 1 15 ((am_uI D1 1 8 (Int32.ofNat y)).1 1 15 + 1)) 124 0 (Int32.ofNat y).toInt64).1 107 0 = 1 := by
          show (am_uI (am_uI D1 1 8 (Int32.ofNat y)) 1 15 ((am_uI D1 1 8 (Int32.ofNat y)).1 1 15 + 1)).1 107 0 = 1
          rw [q_uI_ne _ (by omega), q_uI_ne _ (by omega), (q_pre_1 d2).1 107 (by omega), k_p hK, hp1]; rfl
        have e8 : E1.1 107 2 = Int32.ofNat u := (s1 2 (by omega)).trans hu'
        unfold m86
        simp only [am_lt, e'', q_10, if_false, if_true, e7, q47a, e1, Option.bind_some]
        unfold m73
        simp only [am_lt, e8, e6]
        rw [q_uI_at (am_uI E1 107 2 (Int32.ofNat y)), if_neg (by omega), q_uIs]
    · refine q_G_ex hI 2 (by omega) ?_ ?_
      · show m266 D _ = _
        have e4 : ¬ D.1 1 6 = 1 := by rw [k_p' hK, q_l1, q_eq (by omega) (by omega)]; exact hp1
        unfold m266 m7
        rw [if_neg (by rw [e]; decide), if_neg e4]
        rfl
      · show m86 N D _ = _
        have e4 : ¬ D.1 107 0 = 1 := by rw [k_p hK, q_l1, q_eq (by omega) (by omega)]; exact hp1
        unfold m86
        simp only [am_lt, e'', q_10, if_false, e4, q47c]
        rfl
  · refine q_G_ex hI 1 (by omega) ?_ ?_
    · show m266 D _ = _
      unfold m266 m7
      rw [if_pos e]
      rfl
    · show m86 N D _ = _
      unfold m86
      simp only [am_lt, e'', if_true, q47b]
      rfl
theorem q_sb1 : ∀ y, y < 61 → ∀ w, w < 100 → (if (0 : Int32) < Int32.ofNat y - Int32.ofNat w then Int32.ofNat y - Int32.ofNat w else (0 : Int32)) = Int32.ofNat (y - w) := by decide +kernel
theorem q_sb2 : ∀ y, y < 61 → ∀ w, w < 100 → (if (0 : Int32) ≤ Int32.ofNat y - Int32.ofNat w then Int32.ofNat y - Int32.ofNat w else (0 : Int32)) = Int32.ofNat (y - w) := by decide +kernel
theorem g_tick {N : Nat} (hN : 2000 ≤ N) (hI : q_I D) (v : Int32) : q_G (fun D => m267 D v) (fun D => m87 N D v) D := by
  obtain ⟨n, p, T, V, hK⟩ := q_I_K hI
  have hp := k_p3 hK
  rcases q46 (v := v) (a := 1) (b := 99) (by omega) (by omega) with ⟨w, h1, h2, rfl, e⟩ | ⟨e, h1⟩
  · by_cases hp1 : p = 1
    · obtain ⟨u, hu, hu1, hu2⟩ := k_tu hK
      rw [if_pos hp1] at hu2
      obtain ⟨y, hy, hy1⟩ := k_tw hK u hu
      obtain ⟨D1, d1, d2⟩ := q_sav hI
      have p1 := (q_pre_1 d2).1
      have b1 : D1.1 1 7 = Int32.ofNat u := by rw [p1 1 (by omega)]; exact hu2
      have b2 : am_rat (D1.1 8) 4 (D1.1 1 7) = Int32.ofNat y := by rw [b1, q_rt4 _ hu, p1 8 (by omega), k_ti hK u hu]; exact hy1
      have b3 : am_rput D1 8 4 (D1.1 1 7) (Int32.ofNat (y - w)) = am_uI D1 8 u (Int32.ofNat (y - w)) := by
        unfold am_rput
        rw [b1, if_pos (q_in (by omega) hu), q_tn (by omega)]
      have b4 : (if (0 : Int32) < Int32.ofNat y - Int32.ofNat w then Int32.ofNat y - Int32.ofNat w else (0 : Int32)) = Int32.ofNat (y - w) := q_sb1 y (by omega) w (by omega)
      have b5 : (if (0 : Int32) ≤ Int32.ofNat y - Int32.ofNat w then Int32.ofNat y - Int32.ofNat w else (0 : Int32)) = Int32.ofNat (y - w) := q_sb2 y (by omega) w (by omega)
      have hfr : q_fr D1 (am_uI D1 8 u (Int32.ofNat (y - w))) := q_fr_uI (by omega)
      obtain ⟨E1, e1, e2⟩ := q_pre_of hN hI d2 hfr (Int32.ofNat (y - w)).toInt64
      obtain ⟨s1, s2, s3, s4, s5, s6⟩ := q_pre_s e2
      have hfm : q_fm E1 (am_uI E1 107 (13 + u) (Int32.ofNat (y - w))) := q_fm_uI (by omega)
      refine q_G_mu (Int32.ofNat (y - w)) hI e2 hfm ?_ (q_tx_same hI e2 hfm (q_uI_ne _ (by omega)) (by rw [q_uI_ne _ (by omega)])) ?_ ?_
      · rw [show q_c (am_uI D1 8 u (Int32.ofNat (y - w))) 1 = _ from q_c_up D1 7 u _, q_s_up]
        exact ⟨n, p, T, V, q_C4_w (fun i j hw => by rw [q_up_eq (q_c_D1 d2) 7 u _ i (by unfold q_w at hw; omega)]) (q_ud_eq s1 _ _) (c_tck hK hu (show y - w ≤ 60 by omega))⟩
      · show m267 D _ = _
        have e3 : ¬ Int32.ofNat w < 1 := q_nlt (a := 1) (by omega) h1
        have e4 : Int32.ofNat w ≤ 99 := q_yle (b := 99) (by omega) h2
        have e6 : D.1 1 6 = 1 := by rw [k_p' hK, hp1]; rfl
        unfold m267 m8
        rw [if_neg e3, if_pos e4, if_pos e6, d1, Option.bind_some]
        unfold m229
        simp only [am_lt, b2, b4, b3]
        rfl
      · show m87 N _ _ = _
        simp only [← q_l1, ← q_l99] at e
        have e7 : (am_uJ (am_uI D1 8 u (Int32.ofNat (y - w))) 124 0 (Int32.ofNat (y - w)).toInt64).1 107 0 = 1 := by
          show (am_uI D1 8 u (Int32.ofNat (y - w))).1 107 0 = 1
          rw [q_uI_ne _ (by omega), p1 107 (by omega), k_p hK, hp1]; rfl
        have e8 : E1.1 107 1 = Int32.ofNat u := (s1 1 (by omega)).trans hu1
        have e9 : E1.1 107 (13 + u) = Int32.ofNat y := (s1 (13 + u) (by omega)).trans hy1
        have e10 : 13 + u < 1320 := by omega
        have e11 : (am_uI E1 107 (13 + u) (Int32.ofNat (y - w))).1 107 1 = Int32.ofNat u := by rw [q_uI_at, if_neg (by omega)]; exact e8
        have e12 : (am_uI E1 107 (13 + u) (Int32.ofNat (y - w))).1 107 (13 + u) = Int32.ofNat (y - w) := q_uIs _ _ _ _
        unfold m87
        simp only [am_lt, e, q_10, if_false, if_true, e7, q47a, e1, Option.bind_some]
        unfold m74
        rw [q_l0] at b5
        simp (disch := omega) only [q_l0, q_l1, q_l2, q_l3, q_l4, q_l5, q_l6, q_l7, q_l8, q_l9, q_l10, q_l13, q_l15, q_l17, q_l18, q_l19, q_l21, q_l22, q_l23, q_l25, q_l27, q_l28, q_l31, q_l33, q_l41, q_l43, q_l44, q_l45, q_l48, q_l49, q_l51, q_l52, q_l53, q_l54, q_l56, q_l57, q_l58, q_l59, q_l60, q_l62, q_l63, q_l64, q_l73, q_l81, q_l99, q_l108, q_l109, q_l112, q_l116, q_l126, q_l127, q_l128, q_l137, q_l165, q_l484, q_l1023, q_l1320, q_l4095, q_l4096, q_lm, am_lt, q_le, q_lt, q_tn, q_add, q_ite, Nat.zero_le, and_self, true_and, and_true, if_true, if_false, ite_self, e8, e9, e10, b5, e11, e12, Option.bind_some]
    · refine q_G_ex hI 2 (by omega) ?_ ?_
      · show m267 D _ = _
        have e4 : ¬ D.1 1 6 = 1 := by rw [k_p' hK, q_l1, q_eq (by omega) (by omega)]; exact hp1
        unfold m267 m8
        rw [if_neg (show ¬ Int32.ofNat w < 1 from q_nlt (a := 1) (by omega) h1), if_pos (show Int32.ofNat w ≤ 99 from q_yle (b := 99) (by omega) h2), if_neg e4]
        rfl
      · show m87 N D _ = _
        simp only [← q_l1, ← q_l99] at e
        have e4 : ¬ D.1 107 0 = 1 := by rw [k_p hK, q_l1, q_eq (by omega) (by omega)]; exact hp1
        unfold m87
        simp only [am_lt, e, q_10, if_false, e4, q47c]
        rfl
  · refine q_G_ex hI 1 (by omega) ?_ ?_
    · show m267 D _ = _
      unfold m267 m8
      rcases h1 with h1 | h1
      · rw [if_pos (show v < 1 from h1)]; rfl
      · rw [if_neg (c := v ≤ 99) (Int32.not_le.mpr h1), ite_self]; rfl
    · show m87 N D _ = _
      simp only [← q_l1, ← q_l99] at e
      unfold m87
      simp only [am_lt, e, if_true, q47b]
      rfl
/-- whether a tile can be given -/
theorem q212 {N : Nat} (hN : 2000 ≤ N) {n p : Nat} {T V : Nat → Nat} (hK : q_K D n p T V) {t : Nat} (ht : t < 28) (v : Int32) : m212 N D v (Int32.ofNat t) = some (Int32.ofNat (if p = 0 ∧ q_P D t = 5 ∧ q_cnt (q_P D) v < 7 then 1 else 0)) := by
  have hp := k_p3 hK
  have hc := q_cnt_le (q_P D) v
  unfold m212
  rw [q203 D ht, k_pl hK t ht, k_p' hK, q204 hN, q_cnt_congr (k_pl hK)]
  by_cases h0 : p = 0
  · by_cases h1 : q_P D t = 5
    · by_cases h2 : q_cnt (q_P D) v < 7
      · have h3 : ¬ 7 ≤ q_cnt (q_P D) v := by omega
        rw [q_l5] at h1
        simp (disch := omega) only [q_l0, q_l1, q_l2, q_l3, q_l4, q_l5, q_l6, q_l7, q_l8, q_l9, q_l10, q_l13, q_l15, q_l17, q_l18, q_l19, q_l21, q_l22, q_l23, q_l25, q_l27, q_l28, q_l31, q_l33, q_l41, q_l43, q_l44, q_l45, q_l48, q_l49, q_l51, q_l52, q_l53, q_l54, q_l56, q_l57, q_l58, q_l59, q_l60, q_l62, q_l63, q_l64, q_l73, q_l81, q_l99, q_l108, q_l109, q_l112, q_l116, q_l126, q_l127, q_l128, q_l137, q_l165, q_l484, q_l1023, q_l1320, q_l4095, q_l4096, q_lm, am_lt, q_le, q_lt, q_tn, q_add, q_ite, Nat.zero_le, and_self, true_and, and_true, if_true, if_false, ite_self, q_eq, h0, h1, h2, h3, Option.bind_some]
      · have h3 : 7 ≤ q_cnt (q_P D) v := by omega
        rw [q_l5] at h1
        simp (disch := omega) only [q_l0, q_l1, q_l2, q_l3, q_l4, q_l5, q_l6, q_l7, q_l8, q_l9, q_l10, q_l13, q_l15, q_l17, q_l18, q_l19, q_l21, q_l22, q_l23, q_l25, q_l27, q_l28, q_l31, q_l33, q_l41, q_l43, q_l44, q_l45, q_l48, q_l49, q_l51, q_l52, q_l53, q_l54, q_l56, q_l57, q_l58, q_l59, q_l60, q_l62, q_l63, q_l64, q_l73, q_l81, q_l99, q_l108, q_l109, q_l112, q_l116, q_l126, q_l127, q_l128, q_l137, q_l165, q_l484, q_l1023, q_l1320, q_l4095, q_l4096, q_lm, am_lt, q_le, q_lt, q_tn, q_add, q_ite, Nat.zero_le, and_self, true_and, and_true, if_true, if_false, ite_self, q_eq, h0, h1, h2, h3, Option.bind_some, and_false]
    · rw [q_l5] at h1
      simp (disch := omega) only [q_l0, q_l1, q_l2, q_l3, q_l4, q_l5, q_l6, q_l7, q_l8, q_l9, q_l10, q_l13, q_l15, q_l17, q_l18, q_l19, q_l21, q_l22, q_l23, q_l25, q_l27, q_l28, q_l31, q_l33, q_l41, q_l43, q_l44, q_l45, q_l48, q_l49, q_l51, q_l52, q_l53, q_l54, q_l56, q_l57, q_l58, q_l59, q_l60, q_l62, q_l63, q_l64, q_l73, q_l81, q_l99, q_l108, q_l109, q_l112, q_l116, q_l126, q_l127, q_l128, q_l137, q_l165, q_l484, q_l1023, q_l1320, q_l4095, q_l4096, q_lm, am_lt, q_le, q_lt, q_tn, q_add, q_ite, Nat.zero_le, and_self, true_and, and_true, if_true, if_false, ite_self, q_eq, h0, h1, Option.bind_some, and_false, false_and]
  · simp (disch := omega) only [q_l0, q_l1, q_l2, q_l3, q_l4, q_l5, q_l6, q_l7, q_l8, q_l9, q_l10, q_l13, q_l15, q_l17, q_l18, q_l19, q_l21, q_l22, q_l23, q_l25, q_l27, q_l28, q_l31, q_l33, q_l41, q_l43, q_l44, q_l45, q_l48, q_l49, q_l51, q_l52, q_l53, q_l54, q_l56, q_l57, q_l58, q_l59, q_l60, q_l62, q_l63, q_l64, q_l73, q_l81, q_l99, q_l108, q_l109, q_l112, q_l116, q_l126, q_l127, q_l128, q_l137, q_l165, q_l484, q_l1023, q_l1320, q_l4095, q_l4096, q_lm, am_lt, q_le, q_lt, q_tn, q_add, q_ite, Nat.zero_le, and_self, true_and, and_true, if_true, if_false, ite_self, q_eq, h0, Option.bind_some, and_false, false_and]
theorem q77 {N : Nat} (hN : 2000 ≤ N) {n p : Nat} {T V : Nat → Nat} (hK : q_K D n p T V) {t : Nat} (ht : t < 28) (v : Int32) : m77 N D v (Int32.ofNat t) = some (Int32.ofNat (if p = 0 ∧ q_P D t = 5 ∧ q_cnt (q_P D) v < 7 then 1 else 0)) := by
  have hp := k_p3 hK
  have hc := q_cnt_le (q_P D) v
  unfold m77
  rw [q56 D ht, k_p hK, q57 hN]
  by_cases h0 : p = 0
  · by_cases h1 : q_P D t = 5
    · by_cases h2 : q_cnt (q_P D) v < 7
      · have h3 : ¬ 7 ≤ q_cnt (q_P D) v := by omega
        rw [q_l5] at h1
        simp (disch := omega) only [q_l0, q_l1, q_l2, q_l3, q_l4, q_l5, q_l6, q_l7, q_l8, q_l9, q_l10, q_l13, q_l15, q_l17, q_l18, q_l19, q_l21, q_l22, q_l23, q_l25, q_l27, q_l28, q_l31, q_l33, q_l41, q_l43, q_l44, q_l45, q_l48, q_l49, q_l51, q_l52, q_l53, q_l54, q_l56, q_l57, q_l58, q_l59, q_l60, q_l62, q_l63, q_l64, q_l73, q_l81, q_l99, q_l108, q_l109, q_l112, q_l116, q_l126, q_l127, q_l128, q_l137, q_l165, q_l484, q_l1023, q_l1320, q_l4095, q_l4096, q_lm, am_lt, q_le, q_lt, q_tn, q_add, q_ite, Nat.zero_le, and_self, true_and, and_true, if_true, if_false, ite_self, q_eq, h0, h1, h2, h3, Option.bind_some, Nat.one_ne_zero]
      · have h3 : 7 ≤ q_cnt (q_P D) v := by omega
        rw [q_l5] at h1
        simp (disch := omega) only [q_l0, q_l1, q_l2, q_l3, q_l4, q_l5, q_l6, q_l7, q_l8, q_l9, q_l10, q_l13, q_l15, q_l17, q_l18, q_l19, q_l21, q_l22, q_l23, q_l25, q_l27, q_l28, q_l31, q_l33, q_l41, q_l43, q_l44, q_l45, q_l48, q_l49, q_l51, q_l52, q_l53, q_l54, q_l56, q_l57, q_l58, q_l59, q_l60, q_l62, q_l63, q_l64, q_l73, q_l81, q_l99, q_l108, q_l109, q_l112, q_l116, q_l126, q_l127, q_l128, q_l137, q_l165, q_l484, q_l1023, q_l1320, q_l4095, q_l4096, q_lm, am_lt, q_le, q_lt, q_tn, q_add, q_ite, Nat.zero_le, and_self, true_and, and_true, if_true, if_false, ite_self, q_eq, h0, h1, h2, h3, Option.bind_some, and_false, Nat.one_ne_zero]
    · rw [q_l5] at h1
      simp (disch := omega) only [q_l0, q_l1, q_l2, q_l3, q_l4, q_l5, q_l6, q_l7, q_l8, q_l9, q_l10, q_l13, q_l15, q_l17, q_l18, q_l19, q_l21, q_l22, q_l23, q_l25, q_l27, q_l28, q_l31, q_l33, q_l41, q_l43, q_l44, q_l45, q_l48, q_l49, q_l51, q_l52, q_l53, q_l54, q_l56, q_l57, q_l58, q_l59, q_l60, q_l62, q_l63, q_l64, q_l73, q_l81, q_l99, q_l108, q_l109, q_l112, q_l116, q_l126, q_l127, q_l128, q_l137, q_l165, q_l484, q_l1023, q_l1320, q_l4095, q_l4096, q_lm, am_lt, q_le, q_lt, q_tn, q_add, q_ite, Nat.zero_le, and_self, true_and, and_true, if_true, if_false, ite_self, q_eq, h0, h1, Option.bind_some, and_false, false_and, Nat.one_ne_zero]
  · simp (disch := omega) only [q_l0, q_l1, q_l2, q_l3, q_l4, q_l5, q_l6, q_l7, q_l8, q_l9, q_l10, q_l13, q_l15, q_l17, q_l18, q_l19, q_l21, q_l22, q_l23, q_l25, q_l27, q_l28, q_l31, q_l33, q_l41, q_l43, q_l44, q_l45, q_l48, q_l49, q_l51, q_l52, q_l53, q_l54, q_l56, q_l57, q_l58, q_l59, q_l60, q_l62, q_l63, q_l64, q_l73, q_l81, q_l99, q_l108, q_l109, q_l112, q_l116, q_l126, q_l127, q_l128, q_l137, q_l165, q_l484, q_l1023, q_l1320, q_l4095, q_l4096, q_lm, am_lt, q_le, q_lt, q_tn, q_add, q_ite, Nat.zero_le, and_self, true_and, and_true, if_true, if_false, ite_self, q_eq, h0, Option.bind_some, and_false, false_and]
theorem g_give {N : Nat} (hN : 2000 ≤ N) (hI : q_I D) (v1 v2 : Int32) : q_G (fun D => m260 N D v1 v2) (fun D => m78 N D v1 v2) D := by
  obtain ⟨n, p, T, V, hK⟩ := q_I_K hI
  have hp := k_p3 hK
  rcases q40 v1 with ⟨x, hx, rfl, e1, e2⟩ | ⟨e1, e2⟩
  · rcases q41 v2 with ⟨t, ht, rfl, e3, e4⟩ | ⟨e3, e4⟩
    · have c1 := q212 hN hK ht (Int32.ofNat x)
      have c2 := q77 hN hK ht (Int32.ofNat x)
      by_cases hc : p = 0 ∧ q_P D t = 5 ∧ q_cnt (q_P D) (Int32.ofNat x) < 7
      · rw [if_pos hc] at c1 c2
        obtain ⟨rfl, hc1, hc2⟩ := hc
        obtain ⟨D1, d1, d2⟩ := q_sav hI
        have p1 := (q_pre_1 d2).1
        have hfr : q_fr D1 (am_uI D1 7 t (Int32.ofNat x)) := q_fr_uI (by omega)
        obtain ⟨E1, f1, f2⟩ := q_pre_of hN hI d2 hfr (Int32.ofNat (q_cnt ((am_uI D1 7 t (Int32.ofNat x)).1 7) (Int32.ofNat x))).toInt64
        obtain ⟨s1, s2, s3, s4, s5, s6⟩ := q_pre_s f2
        have hfm : q_fm E1 (am_uI E1 107 (25 + t) (Int32.ofNat x)) := q_fm_uI (by omega)
        refine q_G_mu _ hI f2 hfm ?_ (q_tx_same hI f2 hfm (q_uI_ne _ (by omega)) (by rw [q_uI_ne _ (by omega)])) ?_ ?_
        · rw [show q_c (am_uI D1 7 t (Int32.ofNat x)) 1 = _ from q_c_up D1 6 t _, q_s_up]
          exact ⟨n, 0, T, V, q_C4_w (fun i j hw => by rw [q_up_eq (q_c_D1 d2) 6 t _ i (by unfold q_w at hw; omega)]) (q_ud_eq s1 _ _) (c_giv hK hx ht hc1 hc2)⟩
        · show m260 N D _ _ = _
          unfold m260 m1
          rw [if_neg (by rw [e1]; decide), if_neg (by rw [e3]; decide), c1, Option.bind_some, if_neg (by decide), d1, Option.bind_some]
          unfold m213 am_rput
          rw [if_pos (show 0 ≤ Int32.ofNat t ∧ Int32.ofNat t < Int32.ofNat 28 from q_in (by omega) ht), q_tn (by omega)]
          simp only [am_lt, q204 hN, Option.bind_some]
          rfl
        · show m78 N _ _ _ = _
          have c3 : m77 N (am_uJ (am_uI D1 7 t (Int32.ofNat x)) 124 0 (Int32.ofNat (q_cnt ((am_uI D1 7 t (Int32.ofNat x)).1 7) (Int32.ofNat x))).toInt64) (Int32.ofNat x) (Int32.ofNat t) = m77 N D (Int32.ofNat x) (Int32.ofNat t) := by
            have g1 : ∀ F : am_D, F.1 107 = D.1 107 → m77 N F (Int32.ofNat x) (Int32.ofNat t) = m77 N D (Int32.ofNat x) (Int32.ofNat t) := fun F hF => by
              unfold m77
              rw [q57 hN, q57 hN, q56 F ht, q56 D ht]
              unfold q_P
              rw [hF]
            refine g1 _ ?_
            show (am_uI D1 7 t (Int32.ofNat x)).1 107 = D.1 107
            rw [q_uI_ne _ (by omega), p1 107 (by omega)]
          have e10 : 25 + t < 1320 := by omega
          have e9 : q_cnt (q_P (am_uI E1 107 (25 + t) (Int32.ofNat x))) (Int32.ofNat x) = q_cnt ((am_uI D1 7 t (Int32.ofNat x)).1 7) (Int32.ofNat x) := q_cnt_congr (fun j hj => by
            unfold q_P
            rw [q_uI_at, q_uI_at]
            by_cases hjt : j = t
            · rw [if_pos (by omega), if_pos (by omega)]
            · rw [if_neg (by omega), if_neg (by omega), p1 7 (by omega), k_pl hK j hj]
              exact s1 (25 + j) (by omega))
          unfold m78
          simp only [am_lt, e2, e4, q_10, if_false, c3, c2, Option.bind_some]
          rw [if_neg (by decide), Option.bind_some, q47a]
          simp only [q_10, if_false, f1, Option.bind_some]
          simp (disch := omega) only [q_l0, q_l1, q_l2, q_l3, q_l4, q_l5, q_l6, q_l7, q_l8, q_l9, q_l10, q_l13, q_l15, q_l17, q_l18, q_l19, q_l21, q_l22, q_l23, q_l25, q_l27, q_l28, q_l31, q_l33, q_l41, q_l43, q_l44, q_l45, q_l48, q_l49, q_l51, q_l52, q_l53, q_l54, q_l56, q_l57, q_l58, q_l59, q_l60, q_l62, q_l63, q_l64, q_l73, q_l81, q_l99, q_l108, q_l109, q_l112, q_l116, q_l126, q_l127, q_l128, q_l137, q_l165, q_l484, q_l1023, q_l1320, q_l4095, q_l4096, q_lm, am_lt, q_le, q_lt, q_tn, q_add, q_ite, Nat.zero_le, and_self, true_and, and_true, if_true, if_false, ite_self, e10, q57 hN, Option.bind_some, e9]
      · rw [if_neg hc] at c1 c2
        refine q_G_ex hI 2 (by omega) ?_ ?_
        · show m260 N D _ _ = _
          unfold m260 m1
          rw [if_neg (by rw [e1]; decide), if_neg (by rw [e3]; decide), c1, Option.bind_some, if_pos (by decide)]
          rfl
        · show m78 N D _ _ = _
          unfold m78
          simp only [am_lt, e2, e4, q_10, if_false, c2, Option.bind_some]
          rw [if_pos (by decide), Option.bind_some, q47c]
          rfl
    · refine q_G_ex hI 1 (by omega) ?_ ?_
      · show m260 N D _ _ = _
        unfold m260 m1
        rw [if_neg (by rw [e1]; decide), if_pos e3]
        rfl
      · show m78 N D _ _ = _
        unfold m78
        simp only [am_lt, e2, e4, q_10, if_false, if_true, Option.bind_some, q47b]
        rfl
  · refine q_G_ex hI 1 (by omega) ?_ ?_
    · show m260 N D _ _ = _
      unfold m260 m1
      rw [if_pos e1]
      rfl
    · show m78 N D _ _ = _
      unfold m78
      simp only [am_lt, e2, if_true, Option.bind_some, q47b]
      rfl
end MB
