/-! lay and pass: the calls -/
section MM
variable {D : am_D} {n p : Nat} {T V : Nat → Nat}
/-- what is left of a hand -/
theorem q_out7 {f g : Nat → Int32} {t x : Nat} (ht : t < 28) (hx : x < 4) (hf : f t = Int32.ofNat x) (hg : ∀ j, j < 28 → g j = if j = t then Int32.ofNat 4 else f j) (h7 : ∀ y, y < 4 → q_cnt f (Int32.ofNat y) ≤ 7) : ∀ y, y < 4 → q_cnt g (Int32.ofNat y) ≤ 7 := fun y hy => by
  have h1 := (q_out ht hx hf hg).1 y hy
  have h2 := h7 y hy
  have h3 : (if x = y then 1 else 0) ≤ 1 := by split <;> omega
  omega
/-- both have laid -/
theorem c_lay {D1 D' E D2 : am_D} (hK : q_K D1 n 1 T V) (hs : ∀ k, k < 165 → E.1 107 k = D1.1 107 k) {x t e w : Nat} (hx : x < 4) (ht : t < 28) (he : e < 2) (hn : n ≤ 27) (hf : n = 0 ∨ q_sh t (m156 D1 (Int32.ofNat e))) (hP : q_P D1 t = Int32.ofNat x)
    (a1 : D'.1 2 4 = Int32.ofNat (n + 1) ∧
      (∀ k, k < n + 1 → D'.1 3 k = Int32.ofNat (q_T1 e n t T k) ∧ D'.1 4 k = Int32.ofNat (q_V1 e n t T V k) ∧ D'.1 5 k = (if k = (if e = 0 then 0 else n) then Int32.ofNat x else D1.1 5 (if e = 0 then k - 1 else k)) ∧ D'.1 6 k = (if k = (if e = 0 then 0 else n) then Int32.ofNat (n + 1) else D1.1 6 (if e = 0 then k - 1 else k))) ∧
      D'.1 2 5 = Int32.ofNat (q_V1 e n t T V 0) ∧ D'.1 2 6 = Int32.ofNat (q_pip (q_T1 e n t T n) - q_V1 e n t T V n))
    (a2 : ∀ b, D'.1 1 b = if b = 7 then (if q_cnt (q_P D1) (Int32.ofNat x) = 1 then q_nn else Int32.ofNat ((x + 1) % 4)) else if b = 6 then (if q_cnt (q_P D1) (Int32.ofNat x) = 1 then Int32.ofNat 2 else Int32.ofNat 1) else if b = 13 then D1.1 1 13 + 1 else if b = 11 then 0 else if b = 9 then Int32.ofNat x else D1.1 1 b)
    (a3 : ∀ b, D'.1 7 b = if b = t then Int32.ofNat 4 else D1.1 7 b) (a4 : ∀ b, D'.1 11 b = if b = x % 2 then D1.1 11 (x % 2) + Int32.ofNat (q_gain D1 x w) else D1.1 11 b)
    (a5 : ∀ a, a = 0 ∨ (8 ≤ a ∧ a ≤ 10) ∨ 12 ≤ a → D'.1 a = D1.1 a)
    (b1 : ∀ k, k < n + 1 → D2.1 107 (109 + k) = Int32.ofNat (q_T1 e n t T k) ∧ D2.1 107 (137 + k) = Int32.ofNat (q_V1 e n t T V k))
    (b2 : ∀ j, j < 109 ∨ 165 ≤ j → D2.1 107 j = if j = 1 then Int32.ofNat ((x + 1) % 4) else if j = 6 + x % 2 then E.1 107 (6 + x % 2) + Int32.ofNat (q_gain D1 x w) else if j = 0 then (if q_cnt (q_P D1) (Int32.ofNat x) = 1 then Int32.ofNat 2 else Int32.ofNat 1) else if j = 4 then 0 else if j = 5 then Int32.ofNat x else if j = 9 then E.1 107 9 + 1 else if j = 81 + t then Int32.ofNat (n + 1) else if j = 53 + t then Int32.ofNat x else if j = 25 + t then Int32.ofNat 4 else if j = 12 then Int32.ofNat (n + 1) else E.1 107 j) : q_C (q_c D' 1) (q_s D2 0) := by
  have htv := q_tv hK ht he hf
  have hnt : ∀ k, k < n → T k ≠ t := fun k hk q => by
    have := (k_in hK t ht).mpr ⟨k, hk, q⟩
    rw [hP] at this
    have := q_ofN (by omega) (by omega) this
    omega
  have s25 : ∀ j, j < 28 → D2.1 107 (25 + j) = if j = t then Int32.ofNat 4 else q_P D1 j := fun j hj => by
    rw [b2 _ (by omega), if_neg (by omega), if_neg (by omega), if_neg (by omega), if_neg (by omega), if_neg (by omega), if_neg (by omega), if_neg (by omega), if_neg (by omega)]
    by_cases c : j = t
    · rw [if_pos (by omega), if_pos c]
    · rw [if_neg (by omega), if_neg c, if_neg (by omega), hs _ (by omega)]; rfl
  have sx : ∀ k, k < 25 → k ≠ 0 → k ≠ 1 → k ≠ 4 → k ≠ 5 → k ≠ 9 → k ≠ 12 → k ≠ 6 + x % 2 → D2.1 107 k = D1.1 107 k := fun k h1 h2 h3 h4 h5 h6 h7 h8 => by
    rw [b2 _ (by omega), if_neg h3, if_neg h8, if_neg h2, if_neg h4, if_neg h5, if_neg h6, if_neg (by omega), if_neg (by omega), if_neg (by omega), if_neg h7, hs k (by omega)]
  have hch : q_ch (q_c D' 1) (q_s D2 0) (n + 1) (q_T1 e n t T) (q_V1 e n t T V) := c_chn hK.1 ht he hn hnt htv a1.1 a1.2.1 a1.2.2.1 a1.2.2.2 (by
      show D2.1 107 12 = _
      rw [b2 _ (by omega), if_neg (by omega), if_neg (by omega), if_neg (by omega), if_neg (by omega), if_neg (by omega), if_neg (by omega), if_neg (by omega), if_neg (by omega), if_neg (by omega), if_pos rfl]) b1 (fun j hj => s25 j hj) (fun j hj => by
      show D2.1 107 (53 + j) = if j = t then Int32.ofNat x else D1.1 107 (53 + j)
      rw [b2 _ (by omega), if_neg (by omega), if_neg (by omega), if_neg (by omega), if_neg (by omega), if_neg (by omega), if_neg (by omega), if_neg (by omega)]
      by_cases c : j = t
      · rw [if_pos (by omega), if_pos c]
      · rw [if_neg (by omega), if_neg (by omega), if_neg c, if_neg (by omega), hs _ (by omega)]) (fun j hj => by
      show D2.1 107 (81 + j) = if j = t then Int32.ofNat (n + 1) else D1.1 107 (81 + j)
      rw [b2 _ (by omega), if_neg (by omega), if_neg (by omega), if_neg (by omega), if_neg (by omega), if_neg (by omega), if_neg (by omega)]
      by_cases c : j = t
      · rw [if_pos (by omega), if_pos c]
      · rw [if_neg (by omega), if_neg (by omega), if_neg (by omega), if_neg c, if_neg (by omega), hs _ (by omega)])
  obtain ⟨c8, c9, c10, c11, c12, c13⟩ := k_c hK
  obtain ⟨w3, w31, w32, w33⟩ := k_sew hK
  refine ⟨n + 1, (if q_cnt (q_P D1) (Int32.ofNat x) = 1 then 2 else 1), _, _, hch, fun j hj => ?_, fun y hy => ?_, ⟨⟨?_, ?_, ?_, ?_, ?_⟩, ⟨(x + 1) % 4, by omega, ?_, ?_⟩, ?_, ?_, ?_, Or.inr ⟨x, hx, ?_⟩, ?_, ⟨w3, w31, w32, ?_⟩, ?_, ⟨0, by omega, fun _ => by omega, ?_⟩, ?_, ?_, ?_, ?_, ?_, ?_⟩⟩
  · show D'.1 7 j = D2.1 107 (25 + j) ∧ _
    have := s25 j hj
    constructor
    · rw [a3, this, k_pl hK j hj]
    · show ∃ w, w < 6 ∧ D2.1 107 (25 + j) = Int32.ofNat w
      rw [this]
      by_cases c : j = t
      · exact ⟨4, by omega, by rw [if_pos c]⟩
      · rw [if_neg c]; exact k_pw hK j hj
  · show D'.1 8 y = D2.1 107 (13 + y) ∧ D'.1 9 y = D2.1 107 (17 + y) ∧ D'.1 10 y = D2.1 107 (21 + y) ∧ (∃ w, w ≤ 60 ∧ D2.1 107 (13 + y) = Int32.ofNat w) ∧ (∃ w, w < 128 ∧ D2.1 107 (17 + y) = Int32.ofNat w) ∧ q_cnt (fun t => D2.1 107 (25 + t)) (Int32.ofNat y) ≤ 7
    rw [a5 8 (by omega), a5 9 (by omega), a5 10 (by omega), sx _ (by omega) (by omega) (by omega) (by omega) (by omega) (by omega) (by omega) (by omega), sx _ (by omega) (by omega) (by omega) (by omega) (by omega) (by omega) (by omega) (by omega), sx _ (by omega) (by omega) (by omega) (by omega) (by omega) (by omega) (by omega) (by omega)]
    exact ⟨k_ti hK y hy, k_la hK y hy, k_pa hK y hy, k_tw hK y hy, k_lw hK y hy, q_out7 ht hx hP s25 (k_h7 hK) y hy⟩
  · split <;> omega
  · show D2.1 107 0 = _
    rw [b2 _ (by omega), if_neg (by omega), if_neg (by omega), if_pos rfl]
    split <;> rfl
  · show D'.1 1 6 = _
    rw [a2, if_neg (by omega), if_pos rfl]
    split <;> rfl
  · intro q
    split at q <;> omega
  · intro _ j hj
    show D2.1 107 (25 + j) ≠ _
    rw [s25 j hj]
    by_cases c : j = t
    · rw [if_pos c]; decide
    · rw [if_neg c]; exact k_nob hK (by omega) j hj
  · show D2.1 107 1 = _
    rw [b2 _ (by omega), if_pos rfl]
  · show D'.1 1 7 = _
    rw [a2, if_pos rfl]
    by_cases c : q_cnt (q_P D1) (Int32.ofNat x) = 1
    · rw [if_pos c, if_pos c, if_neg (by omega)]
    · rw [if_neg c, if_neg c, if_pos rfl]
  · right
    obtain ⟨u, hu, hu'⟩ := (k_hw hK).resolve_left (fun q => q.2 rfl)
    exact ⟨u, hu, by
      show D2.1 107 2 = _
      rw [sx 2 (by omega) (by omega) (by omega) (by omega) (by omega) (by omega) (by omega) (by omega)]; exact hu'⟩
  · show D'.1 1 8 = D2.1 107 2
    rw [a2, if_neg (by omega), if_neg (by omega), if_neg (by omega), if_neg (by omega), if_neg (by omega), sx 2 (by omega) (by omega) (by omega) (by omega) (by omega) (by omega) (by omega) (by omega)]; exact k_ho hK
  · show D'.1 1 9 = D2.1 107 5
    rw [a2, if_neg (by omega), if_neg (by omega), if_neg (by omega), if_neg (by omega), if_pos rfl, b2 _ (by omega), if_neg (by omega), if_neg (by omega), if_neg (by omega), if_neg (by omega), if_pos rfl]
  · show D2.1 107 5 = _
    rw [b2 _ (by omega), if_neg (by omega), if_neg (by omega), if_neg (by omega), if_neg (by omega), if_pos rfl]
  · show D'.1 1 10 = D2.1 107 3
    rw [a2, if_neg (by omega), if_neg (by omega), if_neg (by omega), if_neg (by omega), if_neg (by omega), sx 3 (by omega) (by omega) (by omega) (by omega) (by omega) (by omega) (by omega) (by omega)]; exact k_se hK
  · show D2.1 107 3 = _
    rw [sx 3 (by omega) (by omega) (by omega) (by omega) (by omega) (by omega) (by omega) (by omega)]; exact w33
  · show D'.1 1 11 = D2.1 107 4
    rw [a2, if_neg (by omega), if_neg (by omega), if_neg (by omega), if_pos rfl, b2 _ (by omega), if_neg (by omega), if_neg (by omega), if_neg (by omega), if_pos rfl]
  · show D2.1 107 4 = _
    rw [b2 _ (by omega), if_neg (by omega), if_neg (by omega), if_neg (by omega), if_pos rfl]; rfl
  · show D'.1 1 12 = D2.1 107 8
    rw [a2, if_neg (by omega), if_neg (by omega), if_neg (by omega), if_neg (by omega), if_neg (by omega), sx 8 (by omega) (by omega) (by omega) (by omega) (by omega) (by omega) (by omega) (by omega)]; exact c8
  · show D'.1 1 13 = D2.1 107 9
    rw [a2, if_neg (by omega), if_neg (by omega), if_pos rfl, b2 _ (by omega), if_neg (by omega), if_neg (by omega), if_neg (by omega), if_neg (by omega), if_neg (by omega), if_pos rfl, hs 9 (by omega), c9]
  · show D'.1 1 14 = D2.1 107 10
    rw [a2, if_neg (by omega), if_neg (by omega), if_neg (by omega), if_neg (by omega), if_neg (by omega), sx 10 (by omega) (by omega) (by omega) (by omega) (by omega) (by omega) (by omega) (by omega)]; exact c10
  · show D'.1 1 15 = D2.1 107 11
    rw [a2, if_neg (by omega), if_neg (by omega), if_neg (by omega), if_neg (by omega), if_neg (by omega), sx 11 (by omega) (by omega) (by omega) (by omega) (by omega) (by omega) (by omega) (by omega)]; exact c11
  · show D'.1 11 0 = D2.1 107 6
    by_cases c : x % 2 = 0
    · rw [a4, if_pos c.symm, b2 _ (by omega), if_neg (by omega), if_pos (by omega), c, hs _ (by omega), c12]
    · rw [a4, if_neg (by omega), sx 6 (by omega) (by omega) (by omega) (by omega) (by omega) (by omega) (by omega) (by omega)]; exact c12
  · show D'.1 11 1 = D2.1 107 7
    by_cases c : x % 2 = 1
    · rw [a4, if_pos c.symm, b2 _ (by omega), if_neg (by omega), if_pos (by omega), c, hs _ (by omega), c13]
    · rw [a4, if_neg (by omega), sx 7 (by omega) (by omega) (by omega) (by omega) (by omega) (by omega) (by omega) (by omega)]; exact c13
theorem g_lay {N : Nat} (hN : 2000 ≤ N) (hI : q_I D) (v1 v2 v3 : Int32) : q_G (fun D => m264 N D v1 v2 v3) (fun D => m84 N D v1 v2 v3) D := by
  obtain ⟨n, p, T, V, hK⟩ := q_I_K hI
  have hB := hI.1
  rcases q40 v1 with ⟨x, hx, rfl, e1, e2⟩ | ⟨e1, e2⟩
  · rcases q41 v2 with ⟨t, ht, rfl, e3, e4⟩ | ⟨e3, e4⟩
    · rcases q43 v3 with ⟨e, he, rfl, e5, e6, -⟩ | ⟨e5, e6, -⟩
      · have hr : m220 D (Int32.ofNat x) (Int32.ofNat t) (Int32.ofNat e) = 0 ∨ ∃ y, 1 ≤ y ∧ y < 7 ∧ m220 D (Int32.ofNat x) (Int32.ofNat t) (Int32.ofNat e) = Int32.ofNat y := by
          unfold m220
          split
          · split
            · split
              · split
                · exact Or.inr ⟨4, by omega, by omega, rfl⟩
                · split
                  · exact Or.inr ⟨5, by omega, by omega, rfl⟩
                  · split
                    · exact Or.inr ⟨6, by omega, by omega, rfl⟩
                    · exact Or.inl rfl
              · exact Or.inr ⟨3, by omega, by omega, rfl⟩
            · exact Or.inr ⟨2, by omega, by omega, rfl⟩
          · exact Or.inr ⟨1, by omega, by omega, rfl⟩
        rcases hr with hr | ⟨y, y1, y2, hr⟩
        · obtain ⟨rfl, hu, hP, hf⟩ := q220z hK hx ht hr
          have hnt : ∀ k, k < n → T k ≠ t := fun k hk q => by
            have := (k_in hK t ht).mpr ⟨k, hk, q⟩
            rw [hP] at this
            have := q_ofN (by omega) (by omega) this
            omega
          have hn : n ≤ 27 := q_n27 ht (fun k hk => (k_k hK k hk).1) (k_inj hK) hnt
          obtain ⟨D1, d1, d2⟩ := q_sav hI
          have p1 := (q_pre_1 d2).1
          have hK1 := q_K_D1 d2 hK
          have hP1 : q_P D1 t = Int32.ofNat x := by
            unfold q_P
            rw [p1 107 (by omega)]; exact hP
          have hf1 : n = 0 ∨ q_sh t (m156 D1 (Int32.ofNat e)) := by
            unfold m156
            rw [p1 2 (by omega)]; exact hf
          obtain ⟨w, hw, h161⟩ := q161s hK1 ht he hf1
          obtain ⟨D', c1, c2, c3, c4, c5, c6, c7⟩ := q223 hN hK1 hx ht he hn hf1 hP1 hw h161
          have hfr : q_fr D1 D' := ⟨fun a ha => c6 a (by omega), by rw [c7]⟩
          obtain ⟨E1, f1, f2⟩ := q_pre_of hN hI d2 hfr (Int32.ofNat (q_gain D1 x w)).toInt64
          obtain ⟨s1, s2, s3, s4, s5, s6⟩ := q_pre_s f2
          have hsE : ∀ k, k < 165 → E1.1 107 k = D1.1 107 k := fun k hk => by
            rw [p1 107 (by omega)]; exact s1 k hk
          have hBE : q_B E1 := by intro t ht; rw [s2 109 (by omega), s2 110 (by omega)]; exact hB t ht
          obtain ⟨D2, b1, b2, b3, b4, b5⟩ := q71 hN hK1 hBE hsE hx ht he hn hf1 hP1 hw h161
          have hfm : q_fm E1 D2 := ⟨fun a ha => b4 a (by omega), ⟨by rw [b4 106 (by omega)], by rw [b4 106 (by omega)], by rw [b4 106 (by omega)]⟩, fun o h5 h6 k hk => by
            show D2.1 107 _ = E1.1 107 _
            rw [b3 _ (by omega), if_neg (by omega), if_neg (by omega), if_neg (by omega), if_neg (by omega), if_neg (by omega), if_neg (by omega), if_neg (by omega), if_neg (by omega), if_neg (by omega), if_neg (by omega)], b5⟩
          refine q_G_mu _ hI f2 hfm (c_lay hK1 hsE hx ht he hn hf1 hP1 c2 c3 c4 c5 c6 b2 b3) (q_tx_same hI f2 hfm (c6 91 (by omega)) (by rw [b4 106 (by omega)])) ?_ ?_
          · show m264 N D _ _ _ = _
            unfold m264 m5
            rw [if_neg (by rw [e1]; decide), if_neg (by rw [e3]; decide), if_neg (by rw [e5]; decide), if_pos hr, d1, Option.bind_some, c1]
            rfl
          · show m84 N _ _ _ _ = _
            have z : ∀ F : am_D, F.1 107 = D.1 107 → F.1 109 = D.1 109 → F.1 110 = D.1 110 → m67 F (Int32.ofNat x) (Int32.ofNat t) (Int32.ofNat e) = some 0 := fun F h1 h2 h3 => by
              have : m67 F (Int32.ofNat x) (Int32.ofNat t) (Int32.ofNat e) = m67 D (Int32.ofNat x) (Int32.ofNat t) (Int32.ofNat e) := by
                unfold m67 m62 m66 m56 m53
                rw [q_M61 h1 h2 h3, q_M59 h1, h1, h2, h3]
              rw [this, q67 hB hK hx ht, hr]
            have zz := z (am_uJ D' 124 0 (Int32.ofNat (q_gain D1 x w)).toInt64) (by show D'.1 107 = _; rw [c6 107 (by omega), p1 107 (by omega)]) (by show D'.1 109 = _; rw [c6 109 (by omega), p1 109 (by omega)]) (by show D'.1 110 = _; rw [c6 110 (by omega), p1 110 (by omega)])
            unfold m84
            simp only [am_lt, e2, e4, e6, q_10, if_false, zz, Option.bind_some, show ((0 : Int32) ≤ 0) = True from by decide, if_true, q47a, f1, b1]
        · refine q_G_ex hI 3 (by omega) ?_ ?_
          · show m264 N D _ _ _ = _
            unfold m264 m5
            rw [if_neg (by rw [e1]; decide), if_neg (by rw [e3]; decide), if_neg (by rw [e5]; decide), if_neg (by rw [hr, q_l0, q_eq (by omega) (by omega)]; omega)]
            rfl
          · show m84 N D _ _ _ = _
            have z := q67 hB hK hx ht (Int32.ofNat e)
            have z2 : ¬ Int32.ofNat y ≤ 0 := q_nle (a := 0) (b := y) (by omega) (by omega)
            rw [hr] at z
            unfold m84
            simp only [am_lt, e2, e4, e6, q_10, if_false, z, Option.bind_some, z2, q47d]
            rfl
      · refine q_G_ex hI 2 (by omega) ?_ ?_
        · show m264 N D _ _ _ = _
          unfold m264 m5
          rw [if_neg (by rw [e1]; decide), if_neg (by rw [e3]; decide), if_pos e5]
          rfl
        · show m84 N D _ _ _ = _
          unfold m84
          simp only [am_lt, e2, e4, e6, q_10, if_false, if_true, Option.bind_some, q47c]
          rfl
    · refine q_G_ex hI 1 (by omega) ?_ ?_
      · show m264 N D _ _ _ = _
        unfold m264 m5
        rw [if_neg (by rw [e1]; decide), if_pos e3]
        rfl
      · show m84 N D _ _ _ = _
        unfold m84
        simp only [am_lt, e2, e4, q_10, if_false, if_true, Option.bind_some, q47b]
        rfl
  · refine q_G_ex hI 1 (by omega) ?_ ?_
    · show m264 N D _ _ _ = _
      unfold m264 m5
      rw [if_pos e1]
      rfl
    · show m84 N D _ _ _ = _
      unfold m84
      simp only [am_lt, e2, if_true, Option.bind_some, q47b]
      rfl
end MM
