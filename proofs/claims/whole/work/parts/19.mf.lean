/-! methods as functions, with their walks (by wip/tools/decomp.py): 119 120 122 130 131 132 133 134 135 136 137 -/
section XE
variable {xs : Nat → Int32} {L : Nat}
theorem r119_0 : am_at 119 0 = some (.iload_n 1, 1, [1]) := by decide +kernel
theorem r119_1 : am_at 119 1 = some (.invokestatic 133, 3, [48, 1, 1302, 0]) := by decide +kernel
theorem r119_4 : am_at 119 4 = some (.ifCond .eq (14), 3, [18]) := by decide +kernel
theorem r119_7 : am_at 119 7 = some (.iload_n 2, 1, [2]) := by decide +kernel
theorem r119_8 : am_at 119 8 = some (.invokestatic 136, 3, [49, 1, 1308, 0]) := by decide +kernel
theorem r119_11 : am_at 119 11 = some (.ifCond .eq (7), 3, [18]) := by decide +kernel
theorem r119_14 : am_at 119 14 = some (.iconst (1), 1, []) := by decide +kernel
theorem r119_15 : am_at 119 15 = some (.goto (4), 3, [19]) := by decide +kernel
theorem r119_18 : am_at 119 18 = some (.iconst (0), 1, []) := by decide +kernel
theorem r119_19 : am_at 119 19 = some (.istore 4, 2, [4]) := by decide +kernel
theorem r119_21 : am_at 119 21 = some (.aload_n 0, 1, [0]) := by decide +kernel
theorem r119_22 : am_at 119 22 = some (.iload 4, 2, [4]) := by decide +kernel
theorem r119_24 : am_at 119 24 = some (.ifCond .ne (7), 3, [31]) := by decide +kernel
theorem r119_27 : am_at 119 27 = some (.iconst (1), 1, []) := by decide +kernel
theorem r119_28 : am_at 119 28 = some (.goto (15), 3, [43]) := by decide +kernel
theorem r119_31 : am_at 119 31 = some (.iload_n 3, 1, [3]) := by decide +kernel
theorem r119_32 : am_at 119 32 = some (.invokestatic 154, 3, [50, 1, 1363, 0]) := by decide +kernel
theorem r119_35 : am_at 119 35 = some (.ifCond .ne (7), 3, [42]) := by decide +kernel
theorem r119_38 : am_at 119 38 = some (.iconst (2), 1, []) := by decide +kernel
theorem r119_39 : am_at 119 39 = some (.goto (4), 3, [43]) := by decide +kernel
theorem r119_42 : am_at 119 42 = some (.iconst (0), 1, []) := by decide +kernel
theorem r119_43 : am_at 119 43 = some (.invokevirtual 142, 3, [47, 2, 1323, 0]) := by decide +kernel
theorem r119_46 : am_at 119 46 = some (.ifCond .eq (13), 3, [59]) := by decide +kernel
theorem r119_49 : am_at 119 49 = some (.aload_n 0, 1, [0]) := by decide +kernel
theorem r119_50 : am_at 119 50 = some (.iload_n 1, 1, [1]) := by decide +kernel
theorem r119_51 : am_at 119 51 = some (.iload_n 2, 1, [2]) := by decide +kernel
theorem r119_52 : am_at 119 52 = some (.iload_n 3, 1, [3]) := by decide +kernel
theorem r119_53 : am_at 119 53 = some (.invokevirtual 157, 3, [67, 4, 1366, 0]) := by decide +kernel
theorem r119_56 : am_at 119 56 = some (.goto (4), 3, [60]) := by decide +kernel
theorem r119_59 : am_at 119 59 = some (.iconst (0), 1, []) := by decide +kernel
theorem r119_60 : am_at 119 60 = some (.ireturn, 1, []) := by decide +kernel
theorem rt119 : am_rtt 119 = some (some .int) := by decide +kernel
set_option maxRecDepth 100000 in
theorem pg119 : am_pg[119]? = some am_m119 := rfl
theorem m119_w {d mc ms : Nat} {D : am_D} {v1 : Int32} {v2 : Int32} {v3 : Int32} {Q : am_O → am_AH → Prop} (hd : 6 ≤ d) {r : Int32 × am_D} (h : m119 D v1 v2 v3 = some r) (hQ : Q (.inl (some (.int r.1))) (am_mk r.2)) : am_X xs L 119 d mc ms 0 [.ref 106, .int v1, .int v2, .int v3, am_dead] [] (am_mk D) 0 0 Q := by
  unfold m119 at h
  refine x_ld (v := .int v1) r119_0 rfl rfl rfl ?_
  refine x_call1 (as := [.int v1]) (rest := []) r119_1 rfl rfl rfl (by decide) (Nat.le_of_ble_eq_true rfl) (m48_ok rfl) (Nat.le_trans (by decide) hd) (Nat.zero_le _) (Nat.zero_le _) rfl ?_
  obtain ⟨q1, h3, h⟩ := am_ltE h
  replace h3 := h3.symm
  have kj2 : am_X xs L 119 d mc ms 19 [.ref 106, .int v1, .int v2, .int v3, am_dead] [.int q1] (am_mk D) 0 0 Q := by
    refine x_sto (lc' := [.ref 106, .int v1, .int v2, .int v3, .int q1]) r119_19 rfl rfl rfl rfl ?_
    refine x_ld (v := .ref 106) r119_21 rfl rfl rfl ?_
    refine x_ld (v := .int q1) r119_22 rfl rfl rfl ?_
    obtain ⟨q6, h8, h⟩ := am_ltE h
    replace h8 := h8.symm
    have kj7 : am_X xs L 119 d mc ms 43 [.ref 106, .int v1, .int v2, .int v3, .int q1] [.int q6, .ref 106] (am_mk D) 0 0 Q := by
      obtain ⟨q11, h12, h⟩ := am_ltE h
      replace h12 := h12.symm
      refine x_call1 (as := [.ref 106, .int q6]) (rest := []) r119_43 rfl rfl rfl (by decide) (Nat.le_of_ble_eq_true rfl) (m47_ok h12) (Nat.le_trans (by decide) hd) (Nat.zero_le _) (Nat.zero_le _) rfl ?_
      rcases am_ifE h with ⟨c13, h⟩ | ⟨c13, h⟩
      · refine x_ifeqT r119_46 c13 ?_
        refine x_ic (v := 0) r119_59 rfl rfl ?_
        cases h
        exact x_ret (ret := some .int) (C := True) (v := some (.int _)) r119_60 rt119 rfl rfl rfl rfl rfl rfl rfl rfl trivial hQ
      · refine x_ifeqF r119_46 c13 rfl ?_
        refine x_ld (v := .ref 106) r119_49 rfl rfl rfl ?_
        refine x_ld (v := .int v1) r119_50 rfl rfl rfl ?_
        refine x_ld (v := .int v2) r119_51 rfl rfl rfl ?_
        refine x_ld (v := .int v3) r119_52 rfl rfl rfl ?_
        obtain ⟨q14, h15, h⟩ := Option.bind_eq_some_iff.mp h
        refine x_call1 (as := [.ref 106, .int v1, .int v2, .int v3]) (rest := []) r119_53 rfl rfl rfl (by decide) (Nat.le_of_ble_eq_true rfl) (m67_ok h15) (Nat.le_trans (by decide) hd) (Nat.zero_le _) (Nat.zero_le _) rfl ?_
        refine x_goto r119_56 ?_
        cases h
        exact x_ret (ret := some .int) (C := True) (v := some (.int _)) r119_60 rt119 rfl rfl rfl rfl rfl rfl rfl rfl trivial hQ
    rcases am_ifE h8 with ⟨c9, h8⟩ | ⟨c9, h8⟩
    · refine x_ifneT r119_24 c9 rfl ?_
      refine x_ic (v := 1) r119_27 rfl rfl ?_
      refine x_goto r119_28 ?_
      subst h8
      exact kj7
    · refine x_ifneF r119_24 c9 ?_
      refine x_ld (v := .int v3) r119_31 rfl rfl rfl ?_
      refine x_call1 (as := [.int v3]) (rest := [.ref 106]) r119_32 rfl rfl rfl (by decide) (Nat.le_of_ble_eq_true rfl) (m50_ok rfl) (Nat.le_trans (by decide) hd) (Nat.zero_le _) (Nat.zero_le _) rfl ?_
      rcases am_ifE h8 with ⟨c10, h8⟩ | ⟨c10, h8⟩
      · refine x_ifneT r119_35 c10 rfl ?_
        refine x_ic (v := 2) r119_38 rfl rfl ?_
        refine x_goto r119_39 ?_
        subst h8
        exact kj7
      · refine x_ifneF r119_35 c10 ?_
        refine x_ic (v := 0) r119_42 rfl rfl ?_
        subst h8
        exact kj7
  rcases am_ifE h3 with ⟨c4, h3⟩ | ⟨c4, h3⟩
  · refine x_ifeqT r119_4 c4 ?_
    refine x_ic (v := 0) r119_18 rfl rfl ?_
    subst h3
    exact kj2
  · refine x_ifeqF r119_4 c4 rfl ?_
    refine x_ld (v := .int v2) r119_7 rfl rfl rfl ?_
    refine x_call1 (as := [.int v2]) (rest := []) r119_8 rfl rfl rfl (by decide) (Nat.le_of_ble_eq_true rfl) (m49_ok rfl) (Nat.le_trans (by decide) hd) (Nat.zero_le _) (Nat.zero_le _) rfl ?_
    rcases am_ifE h3 with ⟨c5, h3⟩ | ⟨c5, h3⟩
    · refine x_ifeqT r119_11 c5 ?_
      refine x_ic (v := 0) r119_18 rfl rfl ?_
      subst h3
      exact kj2
    · refine x_ifeqF r119_11 c5 rfl ?_
      refine x_ic (v := 1) r119_14 rfl rfl ?_
      refine x_goto r119_15 ?_
      subst h3
      exact kj2
theorem m119_ok {D : am_D} {v1 : Int32} {v2 : Int32} {v3 : Int32} {r : Int32 × am_D} (h : m119 D v1 v2 v3 = some r) : am_Y xs L 119 6 0 0 [.ref 106, .int v1, .int v2, .int v3] D (.inl (some (.int r.1))) r.2 := am_Yof (mi := am_m119) (lc := [.ref 106, .int v1, .int v2, .int v3, am_dead]) pg119 (Nat.le_of_ble_eq_true rfl) (am_rc1 (ci := 8) rfl rfl rfl rfl rfl) rfl (fun Q hQ => m119_w (Nat.le_refl _) h hQ)
theorem r120_0 : am_at 120 0 = some (.aload_n 0, 1, [0]) := by decide +kernel
theorem r120_1 : am_at 120 1 = some (.getfield 7, 3, [8, 1, 3, 1216]) := by decide +kernel
theorem r120_4 : am_at 120 4 = some (.bipush (17), 2, []) := by decide +kernel
theorem r120_6 : am_at 120 6 = some (.iload_n 1, 1, [1]) := by decide +kernel
theorem r120_7 : am_at 120 7 = some (.iadd, 1, []) := by decide +kernel
theorem r120_8 : am_at 120 8 = some (.iaload, 1, []) := by decide +kernel
theorem r120_9 : am_at 120 9 = some (.aload_n 0, 1, [0]) := by decide +kernel
theorem r120_10 : am_at 120 10 = some (.getfield 16, 3, [8, 9, 3, 1224]) := by decide +kernel
theorem r120_13 : am_at 120 13 = some (.iload_n 2, 1, [2]) := by decide +kernel
theorem r120_14 : am_at 120 14 = some (.iaload, 1, []) := by decide +kernel
theorem r120_15 : am_at 120 15 = some (.ishr, 1, []) := by decide +kernel
theorem r120_16 : am_at 120 16 = some (.aload_n 0, 1, [0]) := by decide +kernel
theorem r120_17 : am_at 120 17 = some (.getfield 7, 3, [8, 1, 3, 1216]) := by decide +kernel
theorem r120_20 : am_at 120 20 = some (.bipush (17), 2, []) := by decide +kernel
theorem r120_22 : am_at 120 22 = some (.iload_n 1, 1, [1]) := by decide +kernel
theorem r120_23 : am_at 120 23 = some (.iadd, 1, []) := by decide +kernel
theorem r120_24 : am_at 120 24 = some (.iaload, 1, []) := by decide +kernel
theorem r120_25 : am_at 120 25 = some (.aload_n 0, 1, [0]) := by decide +kernel
theorem r120_26 : am_at 120 26 = some (.getfield 19, 3, [8, 10, 3, 1225]) := by decide +kernel
theorem r120_29 : am_at 120 29 = some (.iload_n 2, 1, [2]) := by decide +kernel
theorem r120_30 : am_at 120 30 = some (.iaload, 1, []) := by decide +kernel
theorem r120_31 : am_at 120 31 = some (.ishr, 1, []) := by decide +kernel
theorem r120_32 : am_at 120 32 = some (.ior, 1, []) := by decide +kernel
theorem r120_33 : am_at 120 33 = some (.iconst (1), 1, []) := by decide +kernel
theorem r120_34 : am_at 120 34 = some (.iand, 1, []) := by decide +kernel
theorem r120_35 : am_at 120 35 = some (.ifCond .ne (7), 3, [42]) := by decide +kernel
theorem r120_38 : am_at 120 38 = some (.iconst (1), 1, []) := by decide +kernel
theorem r120_39 : am_at 120 39 = some (.goto (4), 3, [43]) := by decide +kernel
theorem r120_42 : am_at 120 42 = some (.iconst (0), 1, []) := by decide +kernel
theorem r120_43 : am_at 120 43 = some (.ireturn, 1, []) := by decide +kernel
theorem rt120 : am_rtt 120 = some (some .boolean) := by decide +kernel
set_option maxRecDepth 100000 in
theorem pg120 : am_pg[120]? = some am_m120 := rfl
theorem m120_w {d mc ms : Nat} {D : am_D} {v1 : Int32} {v2 : Int32} {Q : am_O → am_AH → Prop} (hd : 1 ≤ d) {r : Int32} (h : m120 D v1 v2 = some r) (hQ : Q (.inl (some (.int r))) (am_mk D)) : am_X xs L 120 d mc ms 0 [.ref 106, .int v1, .int v2] [] (am_mk D) 0 0 Q := by
  unfold m120 at h
  refine x_ld (v := .ref 106) r120_0 rfl rfl rfl ?_
  refine y_gf (cd := 109) (v := .ref 107) r120_1 rfl rfl rfl ?_
  refine x_bi (v := 17) r120_4 rfl rfl ?_
  refine x_ld (v := .int v1) r120_6 rfl rfl rfl ?_
  refine x_ar r120_7 rfl trivial rfl ?_
  obtain ⟨g1, h⟩ := am_gdE h
  refine y_ial (n := 1320) r120_8 rfl (by decide) g1 rfl rfl ?_
  refine x_ld (v := .ref 106) r120_9 rfl rfl rfl ?_
  refine y_gf (cd := 111) (v := .ref 109) r120_10 rfl rfl rfl ?_
  refine x_ld (v := .int v2) r120_13 rfl rfl rfl ?_
  obtain ⟨g2, h⟩ := am_gdE h
  refine y_ial (n := 28) r120_14 rfl (by decide) g2 rfl rfl ?_
  refine x_ar r120_15 rfl trivial rfl ?_
  refine x_ld (v := .ref 106) r120_16 rfl rfl rfl ?_
  refine y_gf (cd := 109) (v := .ref 107) r120_17 rfl rfl rfl ?_
  refine x_bi (v := 17) r120_20 rfl rfl ?_
  refine x_ld (v := .int v1) r120_22 rfl rfl rfl ?_
  refine x_ar r120_23 rfl trivial rfl ?_
  obtain ⟨g3, h⟩ := am_gdE h
  refine y_ial (n := 1320) r120_24 rfl (by decide) g3 rfl rfl ?_
  refine x_ld (v := .ref 106) r120_25 rfl rfl rfl ?_
  refine y_gf (cd := 112) (v := .ref 110) r120_26 rfl rfl rfl ?_
  refine x_ld (v := .int v2) r120_29 rfl rfl rfl ?_
  obtain ⟨g4, h⟩ := am_gdE h
  refine y_ial (n := 28) r120_30 rfl (by decide) g4 rfl rfl ?_
  refine x_ar r120_31 rfl trivial rfl ?_
  refine x_ar r120_32 rfl trivial rfl ?_
  refine x_ic (v := 1) r120_33 rfl rfl ?_
  refine x_ar r120_34 rfl trivial rfl ?_
  rcases am_ifE h with ⟨c5, h⟩ | ⟨c5, h⟩
  · refine x_ifneT r120_35 c5 rfl ?_
    refine x_ic (v := 1) r120_38 rfl rfl ?_
    refine x_goto r120_39 ?_
    cases h
    exact x_ret (ret := some .boolean) (C := narrow .boolean (.int (1 : Int32)) = .int (1 : Int32)) (v := some (.int (1 : Int32))) r120_43 rt120 rfl rfl rfl rfl rfl rfl rfl rfl (by decide) hQ
  · refine x_ifneF r120_35 c5 ?_
    refine x_ic (v := 0) r120_42 rfl rfl ?_
    cases h
    exact x_ret (ret := some .boolean) (C := narrow .boolean (.int (0 : Int32)) = .int (0 : Int32)) (v := some (.int (0 : Int32))) r120_43 rt120 rfl rfl rfl rfl rfl rfl rfl rfl (by decide) hQ
theorem m120_ok {D : am_D} {v1 : Int32} {v2 : Int32} {r : Int32} (h : m120 D v1 v2 = some r) : am_Y xs L 120 1 0 0 [.ref 106, .int v1, .int v2] D (.inl (some (.int r))) D := am_Yof (mi := am_m120) (lc := [.ref 106, .int v1, .int v2]) pg120 (Nat.le_of_ble_eq_true rfl) (am_rc1 (ci := 8) rfl rfl rfl rfl rfl) rfl (fun Q hQ => m120_w (Nat.le_refl _) h hQ)
theorem r122_0 : am_at 122 0 = some (.iload_n 2, 1, [2]) := by decide +kernel
theorem r122_1 : am_at 122 1 = some (.iconst (-1), 1, []) := by decide +kernel
theorem r122_2 : am_at 122 2 = some (.if_icmp .eq (13), 3, [15]) := by decide +kernel
theorem r122_5 : am_at 122 5 = some (.iload_n 2, 1, [2]) := by decide +kernel
theorem r122_6 : am_at 122 6 = some (.aload_n 0, 1, [0]) := by decide +kernel
theorem r122_7 : am_at 122 7 = some (.getfield 25, 3, [8, 12, 3, 1227]) := by decide +kernel
theorem r122_10 : am_at 122 10 = some (.iconst (0), 1, []) := by decide +kernel
theorem r122_11 : am_at 122 11 = some (.iaload, 1, []) := by decide +kernel
theorem r122_12 : am_at 122 12 = some (.if_icmp .ne (21), 3, [33]) := by decide +kernel
theorem r122_15 : am_at 122 15 = some (.aload_n 0, 1, [0]) := by decide +kernel
theorem r122_16 : am_at 122 16 = some (.aload_n 0, 1, [0]) := by decide +kernel
theorem r122_17 : am_at 122 17 = some (.getfield 25, 3, [8, 12, 3, 1227]) := by decide +kernel
theorem r122_20 : am_at 122 20 = some (.iconst (0), 1, []) := by decide +kernel
theorem r122_21 : am_at 122 21 = some (.iaload, 1, []) := by decide +kernel
theorem r122_22 : am_at 122 22 = some (.iload_n 1, 1, [1]) := by decide +kernel
theorem r122_23 : am_at 122 23 = some (.invokevirtual 250, 3, [120, 3, 1600, 0]) := by decide +kernel
theorem r122_26 : am_at 122 26 = some (.ifCond .eq (7), 3, [33]) := by decide +kernel
theorem r122_29 : am_at 122 29 = some (.iconst (1), 1, []) := by decide +kernel
theorem r122_30 : am_at 122 30 = some (.goto (4), 3, [34]) := by decide +kernel
theorem r122_33 : am_at 122 33 = some (.iconst (0), 1, []) := by decide +kernel
theorem r122_34 : am_at 122 34 = some (.istore 5, 2, [5]) := by decide +kernel
theorem r122_36 : am_at 122 36 = some (.iload_n 2, 1, [2]) := by decide +kernel
theorem r122_37 : am_at 122 37 = some (.iconst (-1), 1, []) := by decide +kernel
theorem r122_38 : am_at 122 38 = some (.if_icmp .eq (13), 3, [51]) := by decide +kernel
theorem r122_41 : am_at 122 41 = some (.iload_n 2, 1, [2]) := by decide +kernel
theorem r122_42 : am_at 122 42 = some (.aload_n 0, 1, [0]) := by decide +kernel
theorem r122_43 : am_at 122 43 = some (.getfield 25, 3, [8, 12, 3, 1227]) := by decide +kernel
theorem r122_46 : am_at 122 46 = some (.iconst (1), 1, []) := by decide +kernel
theorem r122_47 : am_at 122 47 = some (.iaload, 1, []) := by decide +kernel
theorem r122_48 : am_at 122 48 = some (.if_icmp .ne (21), 3, [69]) := by decide +kernel
theorem r122_51 : am_at 122 51 = some (.aload_n 0, 1, [0]) := by decide +kernel
theorem r122_52 : am_at 122 52 = some (.aload_n 0, 1, [0]) := by decide +kernel
theorem r122_53 : am_at 122 53 = some (.getfield 25, 3, [8, 12, 3, 1227]) := by decide +kernel
theorem r122_56 : am_at 122 56 = some (.iconst (1), 1, []) := by decide +kernel
theorem r122_57 : am_at 122 57 = some (.iaload, 1, []) := by decide +kernel
theorem r122_58 : am_at 122 58 = some (.iload_n 1, 1, [1]) := by decide +kernel
theorem r122_59 : am_at 122 59 = some (.invokevirtual 250, 3, [120, 3, 1600, 0]) := by decide +kernel
theorem r122_62 : am_at 122 62 = some (.ifCond .eq (7), 3, [69]) := by decide +kernel
theorem r122_65 : am_at 122 65 = some (.iconst (1), 1, []) := by decide +kernel
theorem r122_66 : am_at 122 66 = some (.goto (4), 3, [70]) := by decide +kernel
theorem r122_69 : am_at 122 69 = some (.iconst (0), 1, []) := by decide +kernel
theorem r122_70 : am_at 122 70 = some (.istore 6, 2, [6]) := by decide +kernel
theorem r122_72 : am_at 122 72 = some (.iload_n 2, 1, [2]) := by decide +kernel
theorem r122_73 : am_at 122 73 = some (.iconst (-1), 1, []) := by decide +kernel
theorem r122_74 : am_at 122 74 = some (.if_icmp .eq (13), 3, [87]) := by decide +kernel
theorem r122_77 : am_at 122 77 = some (.iload_n 2, 1, [2]) := by decide +kernel
theorem r122_78 : am_at 122 78 = some (.aload_n 0, 1, [0]) := by decide +kernel
theorem r122_79 : am_at 122 79 = some (.getfield 25, 3, [8, 12, 3, 1227]) := by decide +kernel
theorem r122_82 : am_at 122 82 = some (.iconst (2), 1, []) := by decide +kernel
theorem r122_83 : am_at 122 83 = some (.iaload, 1, []) := by decide +kernel
theorem r122_84 : am_at 122 84 = some (.if_icmp .ne (21), 3, [105]) := by decide +kernel
theorem r122_87 : am_at 122 87 = some (.aload_n 0, 1, [0]) := by decide +kernel
theorem r122_88 : am_at 122 88 = some (.aload_n 0, 1, [0]) := by decide +kernel
theorem r122_89 : am_at 122 89 = some (.getfield 25, 3, [8, 12, 3, 1227]) := by decide +kernel
theorem r122_92 : am_at 122 92 = some (.iconst (2), 1, []) := by decide +kernel
theorem r122_93 : am_at 122 93 = some (.iaload, 1, []) := by decide +kernel
theorem r122_94 : am_at 122 94 = some (.iload_n 1, 1, [1]) := by decide +kernel
theorem r122_95 : am_at 122 95 = some (.invokevirtual 250, 3, [120, 3, 1600, 0]) := by decide +kernel
theorem r122_98 : am_at 122 98 = some (.ifCond .eq (7), 3, [105]) := by decide +kernel
theorem r122_101 : am_at 122 101 = some (.iconst (1), 1, []) := by decide +kernel
theorem r122_102 : am_at 122 102 = some (.goto (4), 3, [106]) := by decide +kernel
theorem r122_105 : am_at 122 105 = some (.iconst (0), 1, []) := by decide +kernel
theorem r122_106 : am_at 122 106 = some (.istore 7, 2, [7]) := by decide +kernel
theorem r122_108 : am_at 122 108 = some (.bipush (63), 2, []) := by decide +kernel
theorem r122_110 : am_at 122 110 = some (.istore 8, 2, [8]) := by decide +kernel
theorem r122_112 : am_at 122 112 = some (.iload 8, 2, [8]) := by decide +kernel
theorem r122_114 : am_at 122 114 = some (.ifCond .lt (144), 3, [258]) := by decide +kernel
theorem r122_117 : am_at 122 117 = some (.iload 8, 2, [8]) := by decide +kernel
theorem r122_119 : am_at 122 119 = some (.bipush (8), 2, []) := by decide +kernel
theorem r122_121 : am_at 122 121 = some (.idiv, 1, []) := by decide +kernel
theorem r122_122 : am_at 122 122 = some (.istore 9, 2, [9]) := by decide +kernel
theorem r122_124 : am_at 122 124 = some (.iload 8, 2, [8]) := by decide +kernel
theorem r122_126 : am_at 122 126 = some (.bipush (8), 2, []) := by decide +kernel
theorem r122_128 : am_at 122 128 = some (.irem, 1, []) := by decide +kernel
theorem r122_129 : am_at 122 129 = some (.istore 10, 2, [10]) := by decide +kernel
theorem r122_131 : am_at 122 131 = some (.iload_n 3, 1, [3]) := by decide +kernel
theorem r122_132 : am_at 122 132 = some (.iconst (1), 1, []) := by decide +kernel
theorem r122_133 : am_at 122 133 = some (.iadd, 1, []) := by decide +kernel
theorem r122_134 : am_at 122 134 = some (.iload 9, 2, [9]) := by decide +kernel
theorem r122_136 : am_at 122 136 = some (.isub, 1, []) := by decide +kernel
theorem r122_137 : am_at 122 137 = some (.iload 10, 2, [10]) := by decide +kernel
theorem r122_139 : am_at 122 139 = some (.isub, 1, []) := by decide +kernel
theorem r122_140 : am_at 122 140 = some (.istore 11, 2, [11]) := by decide +kernel
theorem r122_142 : am_at 122 142 = some (.iload 7, 2, [7]) := by decide +kernel
theorem r122_144 : am_at 122 144 = some (.ifCond .eq (24), 3, [168]) := by decide +kernel
theorem r122_147 : am_at 122 147 = some (.iload 11, 2, [11]) := by decide +kernel
theorem r122_149 : am_at 122 149 = some (.iconst (1), 1, []) := by decide +kernel
theorem r122_150 : am_at 122 150 = some (.iload 4, 2, [4]) := by decide +kernel
theorem r122_152 : am_at 122 152 = some (.invokestatic 65, 3, [46, 3, 1305, 0]) := by decide +kernel
theorem r122_155 : am_at 122 155 = some (.ifCond .eq (13), 3, [168]) := by decide +kernel
theorem r122_158 : am_at 122 158 = some (.aload_n 0, 1, [0]) := by decide +kernel
theorem r122_159 : am_at 122 159 = some (.getfield 22, 3, [8, 11, 3, 1226]) := by decide +kernel
theorem r122_162 : am_at 122 162 = some (.iload 8, 2, [8]) := by decide +kernel
theorem r122_164 : am_at 122 164 = some (.iaload, 1, []) := by decide +kernel
theorem r122_165 : am_at 122 165 = some (.goto (4), 3, [169]) := by decide +kernel
theorem r122_168 : am_at 122 168 = some (.iconst (0), 1, []) := by decide +kernel
theorem r122_169 : am_at 122 169 = some (.istore 12, 2, [12]) := by decide +kernel
theorem r122_171 : am_at 122 171 = some (.iload 12, 2, [12]) := by decide +kernel
theorem r122_173 : am_at 122 173 = some (.iload 5, 2, [5]) := by decide +kernel
theorem r122_175 : am_at 122 175 = some (.ifCond .eq (21), 3, [196]) := by decide +kernel
theorem r122_178 : am_at 122 178 = some (.iload 9, 2, [9]) := by decide +kernel
theorem r122_180 : am_at 122 180 = some (.ifCond .le (16), 3, [196]) := by decide +kernel
theorem r122_183 : am_at 122 183 = some (.aload_n 0, 1, [0]) := by decide +kernel
theorem r122_184 : am_at 122 184 = some (.getfield 22, 3, [8, 11, 3, 1226]) := by decide +kernel
theorem r122_187 : am_at 122 187 = some (.iload 8, 2, [8]) := by decide +kernel
theorem r122_189 : am_at 122 189 = some (.bipush (8), 2, []) := by decide +kernel
theorem r122_191 : am_at 122 191 = some (.isub, 1, []) := by decide +kernel
theorem r122_192 : am_at 122 192 = some (.iaload, 1, []) := by decide +kernel
theorem r122_193 : am_at 122 193 = some (.goto (4), 3, [197]) := by decide +kernel
theorem r122_196 : am_at 122 196 = some (.iconst (0), 1, []) := by decide +kernel
theorem r122_197 : am_at 122 197 = some (.iadd, 1, []) := by decide +kernel
theorem r122_198 : am_at 122 198 = some (.istore 12, 2, [12]) := by decide +kernel
theorem r122_200 : am_at 122 200 = some (.iload 12, 2, [12]) := by decide +kernel
theorem r122_202 : am_at 122 202 = some (.iload 6, 2, [6]) := by decide +kernel
theorem r122_204 : am_at 122 204 = some (.ifCond .eq (20), 3, [224]) := by decide +kernel
theorem r122_207 : am_at 122 207 = some (.iload 10, 2, [10]) := by decide +kernel
theorem r122_209 : am_at 122 209 = some (.ifCond .le (15), 3, [224]) := by decide +kernel
theorem r122_212 : am_at 122 212 = some (.aload_n 0, 1, [0]) := by decide +kernel
theorem r122_213 : am_at 122 213 = some (.getfield 22, 3, [8, 11, 3, 1226]) := by decide +kernel
theorem r122_216 : am_at 122 216 = some (.iload 8, 2, [8]) := by decide +kernel
theorem r122_218 : am_at 122 218 = some (.iconst (1), 1, []) := by decide +kernel
theorem r122_219 : am_at 122 219 = some (.isub, 1, []) := by decide +kernel
theorem r122_220 : am_at 122 220 = some (.iaload, 1, []) := by decide +kernel
theorem r122_221 : am_at 122 221 = some (.goto (4), 3, [225]) := by decide +kernel
theorem r122_224 : am_at 122 224 = some (.iconst (0), 1, []) := by decide +kernel
theorem r122_225 : am_at 122 225 = some (.iadd, 1, []) := by decide +kernel
theorem r122_226 : am_at 122 226 = some (.istore 12, 2, [12]) := by decide +kernel
theorem r122_228 : am_at 122 228 = some (.aload_n 0, 1, [0]) := by decide +kernel
theorem r122_229 : am_at 122 229 = some (.getfield 22, 3, [8, 11, 3, 1226]) := by decide +kernel
theorem r122_232 : am_at 122 232 = some (.iload 8, 2, [8]) := by decide +kernel
theorem r122_234 : am_at 122 234 = some (.iload 11, 2, [11]) := by decide +kernel
theorem r122_236 : am_at 122 236 = some (.iconst (0), 1, []) := by decide +kernel
theorem r122_237 : am_at 122 237 = some (.iload 4, 2, [4]) := by decide +kernel
theorem r122_239 : am_at 122 239 = some (.invokestatic 65, 3, [46, 3, 1305, 0]) := by decide +kernel
theorem r122_242 : am_at 122 242 = some (.ifCond .eq (8), 3, [250]) := by decide +kernel
theorem r122_245 : am_at 122 245 = some (.iload 12, 2, [12]) := by decide +kernel
theorem r122_247 : am_at 122 247 = some (.goto (4), 3, [251]) := by decide +kernel
theorem r122_250 : am_at 122 250 = some (.iconst (0), 1, []) := by decide +kernel
theorem r122_251 : am_at 122 251 = some (.iastore, 1, []) := by decide +kernel
theorem r122_252 : am_at 122 252 = some (.iinc 8 (-1), 3, [8]) := by decide +kernel
theorem r122_255 : am_at 122 255 = some (.goto (-143), 3, [112]) := by decide +kernel
theorem r122_258 : am_at 122 258 = some (.return_, 1, []) := by decide +kernel
theorem rt122 : am_rtt 122 = some (none) := by decide +kernel
set_option maxRecDepth 100000 in
theorem pg122 : am_pg[122]? = some am_m122 := rfl
theorem m122_L112_w {d : Nat} {N : Nat} {v3 : Int32} {v4 : Int32} {v5 : Int32} {v6 : Int32} {v7 : Int32} {mc ms : Nat} {Q : am_O → am_AH → Prop} (hd : 2 ≤ d) : ∀ (n : Nat) (D : am_D) (v8 : Int32) {q : am_D} (h : m122_L112 N v3 v4 v5 v6 v7  n D v8 = some q) (k0 : am_X xs L 122 d mc ms 258 [.ref 106, am_dead, am_dead, am_dead, am_dead, am_dead, am_dead, am_dead, am_dead, am_dead, am_dead, am_dead, am_dead] [] (am_mk q) 0 0 Q), am_X xs L 122 d mc ms 112 [.ref 106, am_dead, am_dead, .int v3, .int v4, .int v5, .int v6, .int v7, .int v8, am_dead, am_dead, am_dead, am_dead] [] (am_mk D) 0 0 Q := by
  intro n
  induction n with
  | zero =>
    intro D v8 q h k0
    exact (nomatch (show none = some q from h))
  | succ n ih =>
    intro D v8 q h k0
    rw [m122_L112] at h
    refine x_ld (v := .int v8) r122_112 rfl rfl rfl ?_
    rcases am_ifE h with ⟨c34, h⟩ | ⟨c34, h⟩
    · refine x_ifltT r122_114 c34 ?_
      refine x_forget (lc0 := [.ref 106, am_dead, am_dead, am_dead, am_dead, am_dead, am_dead, am_dead, am_dead, am_dead, am_dead, am_dead, am_dead]) ⟨Or.inl rfl, Or.inl rfl, Or.inl rfl, Or.inr ⟨rfl, rfl⟩, Or.inr ⟨rfl, rfl⟩, Or.inr ⟨rfl, rfl⟩, Or.inr ⟨rfl, rfl⟩, Or.inr ⟨rfl, rfl⟩, Or.inr ⟨rfl, rfl⟩, Or.inl rfl, Or.inl rfl, Or.inl rfl, Or.inl rfl, trivial⟩ ?_
      cases h
      exact k0
    · refine x_ifltF r122_114 c34 rfl ?_
      refine x_ld (v := .int v8) r122_117 rfl rfl rfl ?_
      refine x_bi (v := 8) r122_119 rfl rfl ?_
      refine x_ar r122_121 rfl (by decide) rfl ?_
      obtain ⟨x35, e36, h⟩ := am_ltE h
      refine am_topI e36 ?_
      refine x_sto (lc' := [.ref 106, am_dead, am_dead, .int v3, .int v4, .int v5, .int v6, .int v7, .int v8, .int x35, am_dead, am_dead, am_dead]) r122_122 rfl rfl rfl rfl ?_
      refine x_ld (v := .int v8) r122_124 rfl rfl rfl ?_
      refine x_bi (v := 8) r122_126 rfl rfl ?_
      refine x_ar r122_128 rfl (by decide) rfl ?_
      obtain ⟨x37, e38, h⟩ := am_ltE h
      refine am_topI e38 ?_
      refine x_sto (lc' := [.ref 106, am_dead, am_dead, .int v3, .int v4, .int v5, .int v6, .int v7, .int v8, .int x35, .int x37, am_dead, am_dead]) r122_129 rfl rfl rfl rfl ?_
      refine x_ld (v := .int v3) r122_131 rfl rfl rfl ?_
      refine x_ic (v := 1) r122_132 rfl rfl ?_
      refine x_ar r122_133 rfl trivial rfl ?_
      refine x_ld (v := .int x35) r122_134 rfl rfl rfl ?_
      refine x_ar r122_136 rfl trivial rfl ?_
      refine x_ld (v := .int x37) r122_137 rfl rfl rfl ?_
      refine x_ar r122_139 rfl trivial rfl ?_
      obtain ⟨x39, e40, h⟩ := am_ltE h
      refine am_topI e40 ?_
      refine x_sto (lc' := [.ref 106, am_dead, am_dead, .int v3, .int v4, .int v5, .int v6, .int v7, .int v8, .int x35, .int x37, .int x39, am_dead]) r122_140 rfl rfl rfl rfl ?_
      refine x_ld (v := .int v7) r122_142 rfl rfl rfl ?_
      obtain ⟨q41, h43, h⟩ := Option.bind_eq_some_iff.mp h
      have kj42 : am_X xs L 122 d mc ms 169 [.ref 106, am_dead, am_dead, .int v3, .int v4, .int v5, .int v6, .int v7, .int v8, .int x35, .int x37, .int x39, am_dead] [.int q41] (am_mk D) 0 0 Q := by
        refine x_sto (lc' := [.ref 106, am_dead, am_dead, .int v3, .int v4, .int v5, .int v6, .int v7, .int v8, .int x35, .int x37, .int x39, .int q41]) r122_169 rfl rfl rfl rfl ?_
        refine x_ld (v := .int q41) r122_171 rfl rfl rfl ?_
        refine x_ld (v := .int v5) r122_173 rfl rfl rfl ?_
        obtain ⟨q47, h49, h⟩ := Option.bind_eq_some_iff.mp h
        have kj48 : am_X xs L 122 d mc ms 197 [.ref 106, am_dead, am_dead, .int v3, .int v4, .int v5, .int v6, .int v7, .int v8, .int x35, .int x37, .int x39, .int q41] [.int q47, .int q41] (am_mk D) 0 0 Q := by
          refine x_ar r122_197 rfl trivial rfl ?_
          obtain ⟨x53, e54, h⟩ := am_ltE h
          refine am_topI e54 ?_
          refine x_sto (lc' := [.ref 106, am_dead, am_dead, .int v3, .int v4, .int v5, .int v6, .int v7, .int v8, .int x35, .int x37, .int x39, .int x53]) r122_198 rfl rfl rfl rfl ?_
          refine x_ld (v := .int x53) r122_200 rfl rfl rfl ?_
          refine x_ld (v := .int v6) r122_202 rfl rfl rfl ?_
          obtain ⟨q55, h57, h⟩ := Option.bind_eq_some_iff.mp h
          have kj56 : am_X xs L 122 d mc ms 225 [.ref 106, am_dead, am_dead, .int v3, .int v4, .int v5, .int v6, .int v7, .int v8, .int x35, .int x37, .int x39, .int x53] [.int q55, .int x53] (am_mk D) 0 0 Q := by
            refine x_ar r122_225 rfl trivial rfl ?_
            obtain ⟨x61, e62, h⟩ := am_ltE h
            refine am_topI e62 ?_
            refine x_sto (lc' := [.ref 106, am_dead, am_dead, .int v3, .int v4, .int v5, .int v6, .int v7, .int v8, .int x35, .int x37, .int x39, .int x61]) r122_226 rfl rfl rfl rfl ?_
            refine x_ld (v := .ref 106) r122_228 rfl rfl rfl ?_
            refine y_gf (cd := 113) (v := .ref 111) r122_229 rfl rfl rfl ?_
            refine x_ld (v := .int v8) r122_232 rfl rfl rfl ?_
            refine x_ld (v := .int x39) r122_234 rfl rfl rfl ?_
            refine x_ic (v := 0) r122_236 rfl rfl ?_
            refine x_ld (v := .int v4) r122_237 rfl rfl rfl ?_
            refine x_call1 (as := [.int x39, .int (0 : Int32), .int v4]) (rest := [.int v8, .ref 111]) r122_239 rfl rfl rfl (by decide) (Nat.le_of_ble_eq_true rfl) (m46_ok rfl) (Nat.le_trans (by decide) hd) (Nat.zero_le _) (Nat.zero_le _) rfl ?_
            obtain ⟨q63, h65, h⟩ := am_ltE h
            replace h65 := h65.symm
            have kj64 : am_X xs L 122 d mc ms 251 [.ref 106, am_dead, am_dead, .int v3, .int v4, .int v5, .int v6, .int v7, .int v8, .int x35, .int x37, .int x39, .int x61] [.int q63, .int v8, .ref 111] (am_mk D) 0 0 Q := by
              obtain ⟨g69, h⟩ := am_gdE h
              obtain ⟨D67, e68, h⟩ := am_ltE h
              refine y_ias (n := 64) r122_251 rfl (by decide) g69 rfl e68 rfl ?_
              obtain ⟨x70, e71, h⟩ := am_ltE h
              refine x_sto (lc' := [.ref 106, am_dead, am_dead, .int v3, .int v4, .int v5, .int v6, .int v7, .int x70, .int x35, .int x37, .int x39, .int x61]) r122_252 rfl rfl (by subst e71; rfl) rfl ?_
              refine x_goto r122_255 ?_
              exact x_forget (lc0 := [.ref 106, am_dead, am_dead, .int v3, .int v4, .int v5, .int v6, .int v7, .int x70, am_dead, am_dead, am_dead, am_dead]) ⟨Or.inl rfl, Or.inl rfl, Or.inl rfl, Or.inl rfl, Or.inl rfl, Or.inl rfl, Or.inl rfl, Or.inl rfl, Or.inl rfl, Or.inr ⟨rfl, rfl⟩, Or.inr ⟨rfl, rfl⟩, Or.inr ⟨rfl, rfl⟩, Or.inr ⟨rfl, rfl⟩, trivial⟩ (ih D67 x70 h k0)
            rcases am_ifE h65 with ⟨c66, h65⟩ | ⟨c66, h65⟩
            · refine x_ifeqT r122_242 c66 ?_
              refine x_ic (v := 0) r122_250 rfl rfl ?_
              subst h65
              exact kj64
            · refine x_ifeqF r122_242 c66 rfl ?_
              refine x_ld (v := .int x61) r122_245 rfl rfl rfl ?_
              refine x_goto r122_247 ?_
              subst h65
              exact kj64
          rcases am_ifE h57 with ⟨c58, h57⟩ | ⟨c58, h57⟩
          · refine x_ifeqT r122_204 c58 ?_
            refine x_ic (v := 0) r122_224 rfl rfl ?_
            cases h57
            exact kj56
          · refine x_ifeqF r122_204 c58 rfl ?_
            refine x_ld (v := .int x37) r122_207 rfl rfl rfl ?_
            rcases am_ifE h57 with ⟨c59, h57⟩ | ⟨c59, h57⟩
            · refine x_ifleT r122_209 c59 ?_
              refine x_ic (v := 0) r122_224 rfl rfl ?_
              cases h57
              exact kj56
            · refine x_ifleF r122_209 c59 rfl ?_
              refine x_ld (v := .ref 106) r122_212 rfl rfl rfl ?_
              refine y_gf (cd := 113) (v := .ref 111) r122_213 rfl rfl rfl ?_
              refine x_ld (v := .int v8) r122_216 rfl rfl rfl ?_
              refine x_ic (v := 1) r122_218 rfl rfl ?_
              refine x_ar r122_219 rfl trivial rfl ?_
              obtain ⟨g60, h57⟩ := am_gdE h57
              refine y_ial (n := 64) r122_220 rfl (by decide) g60 rfl rfl ?_
              refine x_goto r122_221 ?_
              cases h57
              exact kj56
        rcases am_ifE h49 with ⟨c50, h49⟩ | ⟨c50, h49⟩
        · refine x_ifeqT r122_175 c50 ?_
          refine x_ic (v := 0) r122_196 rfl rfl ?_
          cases h49
          exact kj48
        · refine x_ifeqF r122_175 c50 rfl ?_
          refine x_ld (v := .int x35) r122_178 rfl rfl rfl ?_
          rcases am_ifE h49 with ⟨c51, h49⟩ | ⟨c51, h49⟩
          · refine x_ifleT r122_180 c51 ?_
            refine x_ic (v := 0) r122_196 rfl rfl ?_
            cases h49
            exact kj48
          · refine x_ifleF r122_180 c51 rfl ?_
            refine x_ld (v := .ref 106) r122_183 rfl rfl rfl ?_
            refine y_gf (cd := 113) (v := .ref 111) r122_184 rfl rfl rfl ?_
            refine x_ld (v := .int v8) r122_187 rfl rfl rfl ?_
            refine x_bi (v := 8) r122_189 rfl rfl ?_
            refine x_ar r122_191 rfl trivial rfl ?_
            obtain ⟨g52, h49⟩ := am_gdE h49
            refine y_ial (n := 64) r122_192 rfl (by decide) g52 rfl rfl ?_
            refine x_goto r122_193 ?_
            cases h49
            exact kj48
      rcases am_ifE h43 with ⟨c44, h43⟩ | ⟨c44, h43⟩
      · refine x_ifeqT r122_144 c44 ?_
        refine x_ic (v := 0) r122_168 rfl rfl ?_
        cases h43
        exact kj42
      · refine x_ifeqF r122_144 c44 rfl ?_
        refine x_ld (v := .int x39) r122_147 rfl rfl rfl ?_
        refine x_ic (v := 1) r122_149 rfl rfl ?_
        refine x_ld (v := .int v4) r122_150 rfl rfl rfl ?_
        refine x_call1 (as := [.int x39, .int (1 : Int32), .int v4]) (rest := []) r122_152 rfl rfl rfl (by decide) (Nat.le_of_ble_eq_true rfl) (m46_ok rfl) (Nat.le_trans (by decide) hd) (Nat.zero_le _) (Nat.zero_le _) rfl ?_
        rcases am_ifE h43 with ⟨c45, h43⟩ | ⟨c45, h43⟩
        · refine x_ifeqT r122_155 c45 ?_
          refine x_ic (v := 0) r122_168 rfl rfl ?_
          cases h43
          exact kj42
        · refine x_ifeqF r122_155 c45 rfl ?_
          refine x_ld (v := .ref 106) r122_158 rfl rfl rfl ?_
          refine y_gf (cd := 113) (v := .ref 111) r122_159 rfl rfl rfl ?_
          refine x_ld (v := .int v8) r122_162 rfl rfl rfl ?_
          obtain ⟨g46, h43⟩ := am_gdE h43
          refine y_ial (n := 64) r122_164 rfl (by decide) g46 rfl rfl ?_
          refine x_goto r122_165 ?_
          cases h43
          exact kj42
theorem m122_w {d mc ms : Nat} {N : Nat} {D : am_D} {v1 : Int32} {v2 : Int32} {v3 : Int32} {v4 : Int32} {Q : am_O → am_AH → Prop} (hd : 2 ≤ d) {r : am_D} (h : m122 N D v1 v2 v3 v4 = some r) (hQ : Q (.inl none) (am_mk r)) : am_X xs L 122 d mc ms 0 [.ref 106, .int v1, .int v2, .int v3, .int v4, am_dead, am_dead, am_dead, am_dead, am_dead, am_dead, am_dead, am_dead] [] (am_mk D) 0 0 Q := by
  unfold m122 at h
  refine x_ld (v := .int v2) r122_0 rfl rfl rfl ?_
  refine x_ic (v := -1) r122_1 rfl rfl ?_
  obtain ⟨q1, h3, h⟩ := Option.bind_eq_some_iff.mp h
  have kj2 : am_X xs L 122 d mc ms 34 [.ref 106, .int v1, .int v2, .int v3, .int v4, am_dead, am_dead, am_dead, am_dead, am_dead, am_dead, am_dead, am_dead] [.int q1] (am_mk D) 0 0 Q := by
    refine x_sto (lc' := [.ref 106, .int v1, .int v2, .int v3, .int v4, .int q1, am_dead, am_dead, am_dead, am_dead, am_dead, am_dead, am_dead]) r122_34 rfl rfl rfl rfl ?_
    refine x_ld (v := .int v2) r122_36 rfl rfl rfl ?_
    refine x_ic (v := -1) r122_37 rfl rfl ?_
    obtain ⟨q12, h14, h⟩ := Option.bind_eq_some_iff.mp h
    have kj13 : am_X xs L 122 d mc ms 70 [.ref 106, .int v1, .int v2, .int v3, .int v4, .int q1, am_dead, am_dead, am_dead, am_dead, am_dead, am_dead, am_dead] [.int q12] (am_mk D) 0 0 Q := by
      refine x_sto (lc' := [.ref 106, .int v1, .int v2, .int v3, .int v4, .int q1, .int q12, am_dead, am_dead, am_dead, am_dead, am_dead, am_dead]) r122_70 rfl rfl rfl rfl ?_
      refine x_ld (v := .int v2) r122_72 rfl rfl rfl ?_
      refine x_ic (v := -1) r122_73 rfl rfl ?_
      obtain ⟨q23, h25, h⟩ := Option.bind_eq_some_iff.mp h
      have kj24 : am_X xs L 122 d mc ms 106 [.ref 106, .int v1, .int v2, .int v3, .int v4, .int q1, .int q12, am_dead, am_dead, am_dead, am_dead, am_dead, am_dead] [.int q23] (am_mk D) 0 0 Q := by
        refine x_sto (lc' := [.ref 106, .int v1, .int v2, .int v3, .int v4, .int q1, .int q12, .int q23, am_dead, am_dead, am_dead, am_dead, am_dead]) r122_106 rfl rfl rfl rfl ?_
        refine x_bi (v := 63) r122_108 rfl rfl ?_
        refine x_sto (lc' := [.ref 106, .int v1, .int v2, .int v3, .int v4, .int q1, .int q12, .int q23, .int (63 : Int32), am_dead, am_dead, am_dead, am_dead]) r122_110 rfl rfl rfl rfl ?_
        obtain ⟨q72, h73, h⟩ := Option.bind_eq_some_iff.mp h
        refine x_forget (lc0 := [.ref 106, am_dead, am_dead, .int v3, .int v4, .int q1, .int q12, .int q23, .int (63 : Int32), am_dead, am_dead, am_dead, am_dead]) ⟨Or.inl rfl, Or.inr ⟨rfl, rfl⟩, Or.inr ⟨rfl, rfl⟩, Or.inl rfl, Or.inl rfl, Or.inl rfl, Or.inl rfl, Or.inl rfl, Or.inl rfl, Or.inl rfl, Or.inl rfl, Or.inl rfl, Or.inl rfl, trivial⟩ (m122_L112_w hd N D (63 : Int32) h73 ?_)
        cases h
        exact x_ret (ret := none) (C := True) (v := none) r122_258 rt122 rfl rfl rfl rfl rfl rfl rfl rfl trivial hQ
      rcases am_ifE h25 with ⟨c26, h25⟩ | ⟨c26, h25⟩
      · refine x_iceqT r122_74 c26 ?_
        refine x_ld (v := .ref 106) r122_87 rfl rfl rfl ?_
        refine x_ld (v := .ref 106) r122_88 rfl rfl rfl ?_
        refine y_gf (cd := 114) (v := .ref 112) r122_89 rfl rfl rfl ?_
        refine x_ic (v := 2) r122_92 rfl rfl ?_
        refine y_ial (n := 3) r122_93 rfl (by decide) (by decide) (e := 2) (by decide) rfl ?_
        refine x_ld (v := .int v1) r122_94 rfl rfl rfl ?_
        obtain ⟨q27, h28, h25⟩ := Option.bind_eq_some_iff.mp h25
        refine x_call1 (as := [.ref 106, .int (D.1 112 2), .int v1]) (rest := []) r122_95 rfl rfl rfl (by decide) (Nat.le_of_ble_eq_true rfl) (m120_ok h28) (Nat.le_trans (by decide) hd) (Nat.zero_le _) (Nat.zero_le _) rfl ?_
        rcases am_ifE h25 with ⟨c29, h25⟩ | ⟨c29, h25⟩
        · refine x_ifeqT r122_98 c29 ?_
          refine x_ic (v := 0) r122_105 rfl rfl ?_
          cases h25
          exact kj24
        · refine x_ifeqF r122_98 c29 rfl ?_
          refine x_ic (v := 1) r122_101 rfl rfl ?_
          refine x_goto r122_102 ?_
          cases h25
          exact kj24
      · refine x_iceqF r122_74 c26 rfl ?_
        refine x_ld (v := .int v2) r122_77 rfl rfl rfl ?_
        refine x_ld (v := .ref 106) r122_78 rfl rfl rfl ?_
        refine y_gf (cd := 114) (v := .ref 112) r122_79 rfl rfl rfl ?_
        refine x_ic (v := 2) r122_82 rfl rfl ?_
        refine y_ial (n := 3) r122_83 rfl (by decide) (by decide) (e := 2) (by decide) rfl ?_
        rcases am_ifE h25 with ⟨c30, h25⟩ | ⟨c30, h25⟩
        · refine x_icneT r122_84 c30 rfl ?_
          refine x_ld (v := .ref 106) r122_87 rfl rfl rfl ?_
          refine x_ld (v := .ref 106) r122_88 rfl rfl rfl ?_
          refine y_gf (cd := 114) (v := .ref 112) r122_89 rfl rfl rfl ?_
          refine x_ic (v := 2) r122_92 rfl rfl ?_
          refine y_ial (n := 3) r122_93 rfl (by decide) (by decide) (e := 2) (by decide) rfl ?_
          refine x_ld (v := .int v1) r122_94 rfl rfl rfl ?_
          obtain ⟨q31, h32, h25⟩ := Option.bind_eq_some_iff.mp h25
          refine x_call1 (as := [.ref 106, .int (D.1 112 2), .int v1]) (rest := []) r122_95 rfl rfl rfl (by decide) (Nat.le_of_ble_eq_true rfl) (m120_ok h32) (Nat.le_trans (by decide) hd) (Nat.zero_le _) (Nat.zero_le _) rfl ?_
          rcases am_ifE h25 with ⟨c33, h25⟩ | ⟨c33, h25⟩
          · refine x_ifeqT r122_98 c33 ?_
            refine x_ic (v := 0) r122_105 rfl rfl ?_
            cases h25
            exact kj24
          · refine x_ifeqF r122_98 c33 rfl ?_
            refine x_ic (v := 1) r122_101 rfl rfl ?_
            refine x_goto r122_102 ?_
            cases h25
            exact kj24
        · refine x_icneF r122_84 c30 ?_
          refine x_ic (v := 0) r122_105 rfl rfl ?_
          cases h25
          exact kj24
    rcases am_ifE h14 with ⟨c15, h14⟩ | ⟨c15, h14⟩
    · refine x_iceqT r122_38 c15 ?_
      refine x_ld (v := .ref 106) r122_51 rfl rfl rfl ?_
      refine x_ld (v := .ref 106) r122_52 rfl rfl rfl ?_
      refine y_gf (cd := 114) (v := .ref 112) r122_53 rfl rfl rfl ?_
      refine x_ic (v := 1) r122_56 rfl rfl ?_
      refine y_ial (n := 3) r122_57 rfl (by decide) (by decide) (e := 1) (by decide) rfl ?_
      refine x_ld (v := .int v1) r122_58 rfl rfl rfl ?_
      obtain ⟨q16, h17, h14⟩ := Option.bind_eq_some_iff.mp h14
      refine x_call1 (as := [.ref 106, .int (D.1 112 1), .int v1]) (rest := []) r122_59 rfl rfl rfl (by decide) (Nat.le_of_ble_eq_true rfl) (m120_ok h17) (Nat.le_trans (by decide) hd) (Nat.zero_le _) (Nat.zero_le _) rfl ?_
      rcases am_ifE h14 with ⟨c18, h14⟩ | ⟨c18, h14⟩
      · refine x_ifeqT r122_62 c18 ?_
        refine x_ic (v := 0) r122_69 rfl rfl ?_
        cases h14
        exact kj13
      · refine x_ifeqF r122_62 c18 rfl ?_
        refine x_ic (v := 1) r122_65 rfl rfl ?_
        refine x_goto r122_66 ?_
        cases h14
        exact kj13
    · refine x_iceqF r122_38 c15 rfl ?_
      refine x_ld (v := .int v2) r122_41 rfl rfl rfl ?_
      refine x_ld (v := .ref 106) r122_42 rfl rfl rfl ?_
      refine y_gf (cd := 114) (v := .ref 112) r122_43 rfl rfl rfl ?_
      refine x_ic (v := 1) r122_46 rfl rfl ?_
      refine y_ial (n := 3) r122_47 rfl (by decide) (by decide) (e := 1) (by decide) rfl ?_
      rcases am_ifE h14 with ⟨c19, h14⟩ | ⟨c19, h14⟩
      · refine x_icneT r122_48 c19 rfl ?_
        refine x_ld (v := .ref 106) r122_51 rfl rfl rfl ?_
        refine x_ld (v := .ref 106) r122_52 rfl rfl rfl ?_
        refine y_gf (cd := 114) (v := .ref 112) r122_53 rfl rfl rfl ?_
        refine x_ic (v := 1) r122_56 rfl rfl ?_
        refine y_ial (n := 3) r122_57 rfl (by decide) (by decide) (e := 1) (by decide) rfl ?_
        refine x_ld (v := .int v1) r122_58 rfl rfl rfl ?_
        obtain ⟨q20, h21, h14⟩ := Option.bind_eq_some_iff.mp h14
        refine x_call1 (as := [.ref 106, .int (D.1 112 1), .int v1]) (rest := []) r122_59 rfl rfl rfl (by decide) (Nat.le_of_ble_eq_true rfl) (m120_ok h21) (Nat.le_trans (by decide) hd) (Nat.zero_le _) (Nat.zero_le _) rfl ?_
        rcases am_ifE h14 with ⟨c22, h14⟩ | ⟨c22, h14⟩
        · refine x_ifeqT r122_62 c22 ?_
          refine x_ic (v := 0) r122_69 rfl rfl ?_
          cases h14
          exact kj13
        · refine x_ifeqF r122_62 c22 rfl ?_
          refine x_ic (v := 1) r122_65 rfl rfl ?_
          refine x_goto r122_66 ?_
          cases h14
          exact kj13
      · refine x_icneF r122_48 c19 ?_
        refine x_ic (v := 0) r122_69 rfl rfl ?_
        cases h14
        exact kj13
  rcases am_ifE h3 with ⟨c4, h3⟩ | ⟨c4, h3⟩
  · refine x_iceqT r122_2 c4 ?_
    refine x_ld (v := .ref 106) r122_15 rfl rfl rfl ?_
    refine x_ld (v := .ref 106) r122_16 rfl rfl rfl ?_
    refine y_gf (cd := 114) (v := .ref 112) r122_17 rfl rfl rfl ?_
    refine x_ic (v := 0) r122_20 rfl rfl ?_
    refine y_ial (n := 3) r122_21 rfl (by decide) (by decide) (e := 0) (by decide) rfl ?_
    refine x_ld (v := .int v1) r122_22 rfl rfl rfl ?_
    obtain ⟨q5, h6, h3⟩ := Option.bind_eq_some_iff.mp h3
    refine x_call1 (as := [.ref 106, .int (D.1 112 0), .int v1]) (rest := []) r122_23 rfl rfl rfl (by decide) (Nat.le_of_ble_eq_true rfl) (m120_ok h6) (Nat.le_trans (by decide) hd) (Nat.zero_le _) (Nat.zero_le _) rfl ?_
    rcases am_ifE h3 with ⟨c7, h3⟩ | ⟨c7, h3⟩
    · refine x_ifeqT r122_26 c7 ?_
      refine x_ic (v := 0) r122_33 rfl rfl ?_
      cases h3
      exact kj2
    · refine x_ifeqF r122_26 c7 rfl ?_
      refine x_ic (v := 1) r122_29 rfl rfl ?_
      refine x_goto r122_30 ?_
      cases h3
      exact kj2
  · refine x_iceqF r122_2 c4 rfl ?_
    refine x_ld (v := .int v2) r122_5 rfl rfl rfl ?_
    refine x_ld (v := .ref 106) r122_6 rfl rfl rfl ?_
    refine y_gf (cd := 114) (v := .ref 112) r122_7 rfl rfl rfl ?_
    refine x_ic (v := 0) r122_10 rfl rfl ?_
    refine y_ial (n := 3) r122_11 rfl (by decide) (by decide) (e := 0) (by decide) rfl ?_
    rcases am_ifE h3 with ⟨c8, h3⟩ | ⟨c8, h3⟩
    · refine x_icneT r122_12 c8 rfl ?_
      refine x_ld (v := .ref 106) r122_15 rfl rfl rfl ?_
      refine x_ld (v := .ref 106) r122_16 rfl rfl rfl ?_
      refine y_gf (cd := 114) (v := .ref 112) r122_17 rfl rfl rfl ?_
      refine x_ic (v := 0) r122_20 rfl rfl ?_
      refine y_ial (n := 3) r122_21 rfl (by decide) (by decide) (e := 0) (by decide) rfl ?_
      refine x_ld (v := .int v1) r122_22 rfl rfl rfl ?_
      obtain ⟨q9, h10, h3⟩ := Option.bind_eq_some_iff.mp h3
      refine x_call1 (as := [.ref 106, .int (D.1 112 0), .int v1]) (rest := []) r122_23 rfl rfl rfl (by decide) (Nat.le_of_ble_eq_true rfl) (m120_ok h10) (Nat.le_trans (by decide) hd) (Nat.zero_le _) (Nat.zero_le _) rfl ?_
      rcases am_ifE h3 with ⟨c11, h3⟩ | ⟨c11, h3⟩
      · refine x_ifeqT r122_26 c11 ?_
        refine x_ic (v := 0) r122_33 rfl rfl ?_
        cases h3
        exact kj2
      · refine x_ifeqF r122_26 c11 rfl ?_
        refine x_ic (v := 1) r122_29 rfl rfl ?_
        refine x_goto r122_30 ?_
        cases h3
        exact kj2
    · refine x_icneF r122_12 c8 ?_
      refine x_ic (v := 0) r122_33 rfl rfl ?_
      cases h3
      exact kj2
theorem m122_ok {N : Nat} {D : am_D} {v1 : Int32} {v2 : Int32} {v3 : Int32} {v4 : Int32} {r : am_D} (h : m122 N D v1 v2 v3 v4 = some r) : am_Y xs L 122 2 0 0 [.ref 106, .int v1, .int v2, .int v3, .int v4] D (.inl none) r := am_Yof (mi := am_m122) (lc := [.ref 106, .int v1, .int v2, .int v3, .int v4, am_dead, am_dead, am_dead, am_dead, am_dead, am_dead, am_dead, am_dead]) pg122 (Nat.le_of_ble_eq_true rfl) (am_rc1 (ci := 8) rfl rfl rfl rfl rfl) rfl (fun Q hQ => m122_w (Nat.le_refl _) h hQ)
theorem r130_0 : am_at 130 0 = some (.iload_n 0, 1, [0]) := by decide +kernel
theorem r130_1 : am_at 130 1 = some (.bipush (8), 2, []) := by decide +kernel
theorem r130_3 : am_at 130 3 = some (.irem, 1, []) := by decide +kernel
theorem r130_4 : am_at 130 4 = some (.iload_n 0, 1, [0]) := by decide +kernel
theorem r130_5 : am_at 130 5 = some (.bipush (8), 2, []) := by decide +kernel
theorem r130_7 : am_at 130 7 = some (.idiv, 1, []) := by decide +kernel
theorem r130_8 : am_at 130 8 = some (.iconst (1), 1, []) := by decide +kernel
theorem r130_9 : am_at 130 9 = some (.iadd, 1, []) := by decide +kernel
theorem r130_10 : am_at 130 10 = some (.imul, 1, []) := by decide +kernel
theorem r130_11 : am_at 130 11 = some (.iload_n 1, 1, [1]) := by decide +kernel
theorem r130_12 : am_at 130 12 = some (.bipush (8), 2, []) := by decide +kernel
theorem r130_14 : am_at 130 14 = some (.irem, 1, []) := by decide +kernel
theorem r130_15 : am_at 130 15 = some (.iload_n 1, 1, [1]) := by decide +kernel
theorem r130_16 : am_at 130 16 = some (.bipush (8), 2, []) := by decide +kernel
theorem r130_18 : am_at 130 18 = some (.idiv, 1, []) := by decide +kernel
theorem r130_19 : am_at 130 19 = some (.iconst (1), 1, []) := by decide +kernel
theorem r130_20 : am_at 130 20 = some (.iadd, 1, []) := by decide +kernel
theorem r130_21 : am_at 130 21 = some (.imul, 1, []) := by decide +kernel
theorem r130_22 : am_at 130 22 = some (.iadd, 1, []) := by decide +kernel
theorem r130_23 : am_at 130 23 = some (.ireturn, 1, []) := by decide +kernel
theorem rt130 : am_rtt 130 = some (some .int) := by decide +kernel
set_option maxRecDepth 100000 in
theorem pg130 : am_pg[130]? = some am_m130 := rfl
theorem m130_w {d mc ms : Nat} {D : am_D} {v0 : Int32} {v1 : Int32} {Q : am_O → am_AH → Prop} (hd : 1 ≤ d) {r : Int32} (h : m130 v0 v1 = r) (hQ : Q (.inl (some (.int r))) (am_mk D)) : am_X xs L 130 d mc ms 0 [.int v0, .int v1] [] (am_mk D) 0 0 Q := by
  unfold m130 at h
  refine x_ld (v := .int v0) r130_0 rfl rfl rfl ?_
  refine x_bi (v := 8) r130_1 rfl rfl ?_
  refine x_ar r130_3 rfl (by decide) rfl ?_
  refine x_ld (v := .int v0) r130_4 rfl rfl rfl ?_
  refine x_bi (v := 8) r130_5 rfl rfl ?_
  refine x_ar r130_7 rfl (by decide) rfl ?_
  refine x_ic (v := 1) r130_8 rfl rfl ?_
  refine x_ar r130_9 rfl trivial rfl ?_
  refine x_ar r130_10 rfl trivial rfl ?_
  refine x_ld (v := .int v1) r130_11 rfl rfl rfl ?_
  refine x_bi (v := 8) r130_12 rfl rfl ?_
  refine x_ar r130_14 rfl (by decide) rfl ?_
  refine x_ld (v := .int v1) r130_15 rfl rfl rfl ?_
  refine x_bi (v := 8) r130_16 rfl rfl ?_
  refine x_ar r130_18 rfl (by decide) rfl ?_
  refine x_ic (v := 1) r130_19 rfl rfl ?_
  refine x_ar r130_20 rfl trivial rfl ?_
  refine x_ar r130_21 rfl trivial rfl ?_
  refine x_ar r130_22 rfl trivial rfl ?_
  subst h
  exact x_ret (ret := some .int) (C := True) (v := some (.int _)) r130_23 rt130 rfl rfl rfl rfl rfl rfl rfl rfl trivial hQ
theorem m130_ok {D : am_D} {v0 : Int32} {v1 : Int32} {r : Int32} (h : m130 v0 v1 = r) : am_Y xs L 130 1 0 0 [.int v0, .int v1] D (.inl (some (.int r))) D := am_Yof (mi := am_m130) (lc := [.int v0, .int v1]) pg130 (Nat.le_of_ble_eq_true rfl) (am_rc0 rfl) rfl (fun Q hQ => m130_w (Nat.le_refl _) h hQ)
theorem r131_0 : am_at 131 0 = some (.aload_n 0, 1, [0]) := by decide +kernel
theorem r131_1 : am_at 131 1 = some (.iload_n 1, 1, [1]) := by decide +kernel
theorem r131_2 : am_at 131 2 = some (.invokevirtual 97, 3, [52, 2, 1351, 0]) := by decide +kernel
theorem r131_5 : am_at 131 5 = some (.ifCond .eq (15), 3, [20]) := by decide +kernel
theorem r131_8 : am_at 131 8 = some (.bipush (8), 2, []) := by decide +kernel
theorem r131_10 : am_at 131 10 = some (.aload_n 0, 1, [0]) := by decide +kernel
theorem r131_11 : am_at 131 11 = some (.getfield 16, 3, [8, 9, 3, 1224]) := by decide +kernel
theorem r131_14 : am_at 131 14 = some (.iload_n 1, 1, [1]) := by decide +kernel
theorem r131_15 : am_at 131 15 = some (.iaload, 1, []) := by decide +kernel
theorem r131_16 : am_at 131 16 = some (.iadd, 1, []) := by decide +kernel
theorem r131_17 : am_at 131 17 = some (.goto (12), 3, [29]) := by decide +kernel
theorem r131_20 : am_at 131 20 = some (.aload_n 0, 1, [0]) := by decide +kernel
theorem r131_21 : am_at 131 21 = some (.iload_n 1, 1, [1]) := by decide +kernel
theorem r131_22 : am_at 131 22 = some (.iload_n 2, 1, [2]) := by decide +kernel
theorem r131_23 : am_at 131 23 = some (.bipush (8), 2, []) := by decide +kernel
theorem r131_25 : am_at 131 25 = some (.irem, 1, []) := by decide +kernel
theorem r131_26 : am_at 131 26 = some (.invokevirtual 77, 3, [54, 3, 1386, 0]) := by decide +kernel
theorem r131_29 : am_at 131 29 = some (.ireturn, 1, []) := by decide +kernel
theorem rt131 : am_rtt 131 = some (some .int) := by decide +kernel
set_option maxRecDepth 100000 in
theorem pg131 : am_pg[131]? = some am_m131 := rfl
theorem m131_w {d mc ms : Nat} {D : am_D} {v1 : Int32} {v2 : Int32} {Q : am_O → am_AH → Prop} (hd : 2 ≤ d) {r : Int32} (h : m131 D v1 v2 = some r) (hQ : Q (.inl (some (.int r))) (am_mk D)) : am_X xs L 131 d mc ms 0 [.ref 106, .int v1, .int v2] [] (am_mk D) 0 0 Q := by
  unfold m131 at h
  refine x_ld (v := .ref 106) r131_0 rfl rfl rfl ?_
  refine x_ld (v := .int v1) r131_1 rfl rfl rfl ?_
  obtain ⟨q1, h2, h⟩ := Option.bind_eq_some_iff.mp h
  refine x_call1 (as := [.ref 106, .int v1]) (rest := []) r131_2 rfl rfl rfl (by decide) (Nat.le_of_ble_eq_true rfl) (m52_ok h2) (Nat.le_trans (by decide) hd) (Nat.zero_le _) (Nat.zero_le _) rfl ?_
  rcases am_ifE h with ⟨c3, h⟩ | ⟨c3, h⟩
  · refine x_ifeqT r131_5 c3 ?_
    refine x_ld (v := .ref 106) r131_20 rfl rfl rfl ?_
    refine x_ld (v := .int v1) r131_21 rfl rfl rfl ?_
    refine x_ld (v := .int v2) r131_22 rfl rfl rfl ?_
    refine x_bi (v := 8) r131_23 rfl rfl ?_
    refine x_ar r131_25 rfl (by decide) rfl ?_
    obtain ⟨q4, h5, h⟩ := Option.bind_eq_some_iff.mp h
    refine x_call1 (as := [.ref 106, .int v1, .int (v2 - v2 / (8 : Int32) * (8 : Int32))]) (rest := []) r131_26 rfl rfl rfl (by decide) (Nat.le_of_ble_eq_true rfl) (m54_ok h5) (Nat.le_trans (by decide) hd) (Nat.zero_le _) (Nat.zero_le _) rfl ?_
    cases h
    exact x_ret (ret := some .int) (C := True) (v := some (.int _)) r131_29 rt131 rfl rfl rfl rfl rfl rfl rfl rfl trivial hQ
  · refine x_ifeqF r131_5 c3 rfl ?_
    refine x_bi (v := 8) r131_8 rfl rfl ?_
    refine x_ld (v := .ref 106) r131_10 rfl rfl rfl ?_
    refine y_gf (cd := 111) (v := .ref 109) r131_11 rfl rfl rfl ?_
    refine x_ld (v := .int v1) r131_14 rfl rfl rfl ?_
    obtain ⟨g6, h⟩ := am_gdE h
    refine y_ial (n := 28) r131_15 rfl (by decide) g6 rfl rfl ?_
    refine x_ar r131_16 rfl trivial rfl ?_
    refine x_goto r131_17 ?_
    cases h
    exact x_ret (ret := some .int) (C := True) (v := some (.int _)) r131_29 rt131 rfl rfl rfl rfl rfl rfl rfl rfl trivial hQ
theorem m131_ok {D : am_D} {v1 : Int32} {v2 : Int32} {r : Int32} (h : m131 D v1 v2 = some r) : am_Y xs L 131 2 0 0 [.ref 106, .int v1, .int v2] D (.inl (some (.int r))) D := am_Yof (mi := am_m131) (lc := [.ref 106, .int v1, .int v2]) pg131 (Nat.le_of_ble_eq_true rfl) (am_rc1 (ci := 8) rfl rfl rfl rfl rfl) rfl (fun Q hQ => m131_w (Nat.le_refl _) h hQ)
theorem r132_0 : am_at 132 0 = some (.aload_n 0, 1, [0]) := by decide +kernel
theorem r132_1 : am_at 132 1 = some (.getfield 7, 3, [8, 1, 3, 1216]) := by decide +kernel
theorem r132_4 : am_at 132 4 = some (.bipush (109), 2, []) := by decide +kernel
theorem r132_6 : am_at 132 6 = some (.iload_n 1, 1, [1]) := by decide +kernel
theorem r132_7 : am_at 132 7 = some (.ifCond .ne (7), 3, [14]) := by decide +kernel
theorem r132_10 : am_at 132 10 = some (.iconst (0), 1, []) := by decide +kernel
theorem r132_11 : am_at 132 11 = some (.goto (12), 3, [23]) := by decide +kernel
theorem r132_14 : am_at 132 14 = some (.aload_n 0, 1, [0]) := by decide +kernel
theorem r132_15 : am_at 132 15 = some (.getfield 7, 3, [8, 1, 3, 1216]) := by decide +kernel
theorem r132_18 : am_at 132 18 = some (.bipush (12), 2, []) := by decide +kernel
theorem r132_20 : am_at 132 20 = some (.iaload, 1, []) := by decide +kernel
theorem r132_21 : am_at 132 21 = some (.iconst (1), 1, []) := by decide +kernel
theorem r132_22 : am_at 132 22 = some (.isub, 1, []) := by decide +kernel
theorem r132_23 : am_at 132 23 = some (.iadd, 1, []) := by decide +kernel
theorem r132_24 : am_at 132 24 = some (.iaload, 1, []) := by decide +kernel
theorem r132_25 : am_at 132 25 = some (.istore_n 2, 1, [2]) := by decide +kernel
theorem r132_26 : am_at 132 26 = some (.iload_n 1, 1, [1]) := by decide +kernel
theorem r132_27 : am_at 132 27 = some (.ifCond .ne (10), 3, [37]) := by decide +kernel
theorem r132_30 : am_at 132 30 = some (.aload_n 0, 1, [0]) := by decide +kernel
theorem r132_31 : am_at 132 31 = some (.invokevirtual 84, 3, [59, 1, 1374, 0]) := by decide +kernel
theorem r132_34 : am_at 132 34 = some (.goto (7), 3, [41]) := by decide +kernel
theorem r132_37 : am_at 132 37 = some (.aload_n 0, 1, [0]) := by decide +kernel
theorem r132_38 : am_at 132 38 = some (.invokevirtual 88, 3, [61, 1, 1378, 0]) := by decide +kernel
theorem r132_41 : am_at 132 41 = some (.aload_n 0, 1, [0]) := by decide +kernel
theorem r132_42 : am_at 132 42 = some (.iload_n 2, 1, [2]) := by decide +kernel
theorem r132_43 : am_at 132 43 = some (.invokevirtual 97, 3, [52, 2, 1351, 0]) := by decide +kernel
theorem r132_46 : am_at 132 46 = some (.ifCond .eq (8), 3, [54]) := by decide +kernel
theorem r132_49 : am_at 132 49 = some (.bipush (8), 2, []) := by decide +kernel
theorem r132_51 : am_at 132 51 = some (.goto (4), 3, [55]) := by decide +kernel
theorem r132_54 : am_at 132 54 = some (.iconst (0), 1, []) := by decide +kernel
theorem r132_55 : am_at 132 55 = some (.iadd, 1, []) := by decide +kernel
theorem r132_56 : am_at 132 56 = some (.ireturn, 1, []) := by decide +kernel
theorem rt132 : am_rtt 132 = some (some .int) := by decide +kernel
set_option maxRecDepth 100000 in
theorem pg132 : am_pg[132]? = some am_m132 := rfl
theorem m132_w {d mc ms : Nat} {D : am_D} {v1 : Int32} {Q : am_O → am_AH → Prop} (hd : 4 ≤ d) {r : Int32} (h : m132 D v1 = some r) (hQ : Q (.inl (some (.int r))) (am_mk D)) : am_X xs L 132 d mc ms 0 [.ref 106, .int v1, am_dead] [] (am_mk D) 0 0 Q := by
  unfold m132 at h
  refine x_ld (v := .ref 106) r132_0 rfl rfl rfl ?_
  refine y_gf (cd := 109) (v := .ref 107) r132_1 rfl rfl rfl ?_
  refine x_bi (v := 109) r132_4 rfl rfl ?_
  refine x_ld (v := .int v1) r132_6 rfl rfl rfl ?_
  obtain ⟨q1, h3, h⟩ := am_ltE h
  replace h3 := h3.symm
  have kj2 : am_X xs L 132 d mc ms 23 [.ref 106, .int v1, am_dead] [.int q1, .int (109 : Int32), .ref 107] (am_mk D) 0 0 Q := by
    refine x_ar r132_23 rfl trivial rfl ?_
    obtain ⟨g5, h⟩ := am_gdE h
    refine y_ial (n := 1320) r132_24 rfl (by decide) g5 rfl rfl ?_
    obtain ⟨x6, e7, h⟩ := am_ltE h
    refine am_topI e7 ?_
    refine x_sto (lc' := [.ref 106, .int v1, .int x6]) r132_25 rfl rfl rfl rfl ?_
    refine x_ld (v := .int v1) r132_26 rfl rfl rfl ?_
    obtain ⟨q8, h10, h⟩ := Option.bind_eq_some_iff.mp h
    have kj9 : am_X xs L 132 d mc ms 41 [.ref 106, .int v1, .int x6] [.int q8] (am_mk D) 0 0 Q := by
      refine x_ld (v := .ref 106) r132_41 rfl rfl rfl ?_
      refine x_ld (v := .int x6) r132_42 rfl rfl rfl ?_
      obtain ⟨q14, h15, h⟩ := Option.bind_eq_some_iff.mp h
      refine x_call1 (as := [.ref 106, .int x6]) (rest := [.int q8]) r132_43 rfl rfl rfl (by decide) (Nat.le_of_ble_eq_true rfl) (m52_ok h15) (Nat.le_trans (by decide) hd) (Nat.zero_le _) (Nat.zero_le _) rfl ?_
      rcases am_ifE h with ⟨c16, h⟩ | ⟨c16, h⟩
      · refine x_ifeqT r132_46 c16 ?_
        refine x_ic (v := 0) r132_54 rfl rfl ?_
        refine x_ar r132_55 rfl trivial rfl ?_
        cases h
        exact x_ret (ret := some .int) (C := True) (v := some (.int _)) r132_56 rt132 rfl rfl rfl rfl rfl rfl rfl rfl trivial hQ
      · refine x_ifeqF r132_46 c16 rfl ?_
        refine x_bi (v := 8) r132_49 rfl rfl ?_
        refine x_goto r132_51 ?_
        refine x_ar r132_55 rfl trivial rfl ?_
        cases h
        exact x_ret (ret := some .int) (C := True) (v := some (.int _)) r132_56 rt132 rfl rfl rfl rfl rfl rfl rfl rfl trivial hQ
    rcases am_ifE h10 with ⟨c11, h10⟩ | ⟨c11, h10⟩
    · refine x_ifneT r132_27 c11 rfl ?_
      refine x_ld (v := .ref 106) r132_30 rfl rfl rfl ?_
      refine x_call1 (as := [.ref 106]) (rest := []) r132_31 rfl rfl rfl (by decide) (Nat.le_of_ble_eq_true rfl) (m59_ok rfl) (Nat.le_trans (by decide) hd) (Nat.zero_le _) (Nat.zero_le _) rfl ?_
      refine x_goto r132_34 ?_
      cases h10
      exact kj9
    · refine x_ifneF r132_27 c11 ?_
      refine x_ld (v := .ref 106) r132_37 rfl rfl rfl ?_
      obtain ⟨q12, h13, h10⟩ := Option.bind_eq_some_iff.mp h10
      refine x_call1 (as := [.ref 106]) (rest := []) r132_38 rfl rfl rfl (by decide) (Nat.le_of_ble_eq_true rfl) (m61_ok h13) (Nat.le_trans (by decide) hd) (Nat.zero_le _) (Nat.zero_le _) rfl ?_
      cases h10
      exact kj9
  rcases am_ifE h3 with ⟨c4, h3⟩ | ⟨c4, h3⟩
  · refine x_ifneT r132_7 c4 rfl ?_
    refine x_ic (v := 0) r132_10 rfl rfl ?_
    refine x_goto r132_11 ?_
    subst h3
    exact kj2
  · refine x_ifneF r132_7 c4 ?_
    refine x_ld (v := .ref 106) r132_14 rfl rfl rfl ?_
    refine y_gf (cd := 109) (v := .ref 107) r132_15 rfl rfl rfl ?_
    refine x_bi (v := 12) r132_18 rfl rfl ?_
    refine y_ial (n := 1320) r132_20 rfl (by decide) (by decide) (e := 12) (by decide) rfl ?_
    refine x_ic (v := 1) r132_21 rfl rfl ?_
    refine x_ar r132_22 rfl trivial rfl ?_
    subst h3
    exact kj2
theorem m132_ok {D : am_D} {v1 : Int32} {r : Int32} (h : m132 D v1 = some r) : am_Y xs L 132 4 0 0 [.ref 106, .int v1] D (.inl (some (.int r))) D := am_Yof (mi := am_m132) (lc := [.ref 106, .int v1, am_dead]) pg132 (Nat.le_of_ble_eq_true rfl) (am_rc1 (ci := 8) rfl rfl rfl rfl rfl) rfl (fun Q hQ => m132_w (Nat.le_refl _) h hQ)
theorem r133_0 : am_at 133 0 = some (.aload_n 0, 1, [0]) := by decide +kernel
theorem r133_1 : am_at 133 1 = some (.getfield 7, 3, [8, 1, 3, 1216]) := by decide +kernel
theorem r133_4 : am_at 133 4 = some (.bipush (12), 2, []) := by decide +kernel
theorem r133_6 : am_at 133 6 = some (.iaload, 1, []) := by decide +kernel
theorem r133_7 : am_at 133 7 = some (.ifCond .ne (7), 3, [14]) := by decide +kernel
theorem r133_10 : am_at 133 10 = some (.iconst (1), 1, []) := by decide +kernel
theorem r133_11 : am_at 133 11 = some (.goto (4), 3, [15]) := by decide +kernel
theorem r133_14 : am_at 133 14 = some (.iconst (0), 1, []) := by decide +kernel
theorem r133_15 : am_at 133 15 = some (.istore 5, 2, [5]) := by decide +kernel
theorem r133_17 : am_at 133 17 = some (.iload 5, 2, [5]) := by decide +kernel
theorem r133_19 : am_at 133 19 = some (.ifCond .eq (12), 3, [31]) := by decide +kernel
theorem r133_22 : am_at 133 22 = some (.aload_n 0, 1, [0]) := by decide +kernel
theorem r133_23 : am_at 133 23 = some (.getfield 16, 3, [8, 9, 3, 1224]) := by decide +kernel
theorem r133_26 : am_at 133 26 = some (.iload_n 2, 1, [2]) := by decide +kernel
theorem r133_27 : am_at 133 27 = some (.iaload, 1, []) := by decide +kernel
theorem r133_28 : am_at 133 28 = some (.goto (24), 3, [52]) := by decide +kernel
theorem r133_31 : am_at 133 31 = some (.iload_n 3, 1, [3]) := by decide +kernel
theorem r133_32 : am_at 133 32 = some (.ifCond .ne (15), 3, [47]) := by decide +kernel
theorem r133_35 : am_at 133 35 = some (.aload_n 0, 1, [0]) := by decide +kernel
theorem r133_36 : am_at 133 36 = some (.iload_n 2, 1, [2]) := by decide +kernel
theorem r133_37 : am_at 133 37 = some (.aload_n 0, 1, [0]) := by decide +kernel
theorem r133_38 : am_at 133 38 = some (.invokevirtual 84, 3, [59, 1, 1374, 0]) := by decide +kernel
theorem r133_41 : am_at 133 41 = some (.invokevirtual 266, 3, [131, 3, 1636, 0]) := by decide +kernel
theorem r133_44 : am_at 133 44 = some (.goto (8), 3, [52]) := by decide +kernel
theorem r133_47 : am_at 133 47 = some (.aload_n 0, 1, [0]) := by decide +kernel
theorem r133_48 : am_at 133 48 = some (.iconst (0), 1, []) := by decide +kernel
theorem r133_49 : am_at 133 49 = some (.invokevirtual 269, 3, [132, 2, 1640, 0]) := by decide +kernel
theorem r133_52 : am_at 133 52 = some (.istore 6, 2, [6]) := by decide +kernel
theorem r133_54 : am_at 133 54 = some (.iload 5, 2, [5]) := by decide +kernel
theorem r133_56 : am_at 133 56 = some (.ifCond .eq (12), 3, [68]) := by decide +kernel
theorem r133_59 : am_at 133 59 = some (.aload_n 0, 1, [0]) := by decide +kernel
theorem r133_60 : am_at 133 60 = some (.getfield 19, 3, [8, 10, 3, 1225]) := by decide +kernel
theorem r133_63 : am_at 133 63 = some (.iload_n 2, 1, [2]) := by decide +kernel
theorem r133_64 : am_at 133 64 = some (.iaload, 1, []) := by decide +kernel
theorem r133_65 : am_at 133 65 = some (.goto (25), 3, [90]) := by decide +kernel
theorem r133_68 : am_at 133 68 = some (.iload_n 3, 1, [3]) := by decide +kernel
theorem r133_69 : am_at 133 69 = some (.iconst (1), 1, []) := by decide +kernel
theorem r133_70 : am_at 133 70 = some (.if_icmp .ne (15), 3, [85]) := by decide +kernel
theorem r133_73 : am_at 133 73 = some (.aload_n 0, 1, [0]) := by decide +kernel
theorem r133_74 : am_at 133 74 = some (.iload_n 2, 1, [2]) := by decide +kernel
theorem r133_75 : am_at 133 75 = some (.aload_n 0, 1, [0]) := by decide +kernel
theorem r133_76 : am_at 133 76 = some (.invokevirtual 88, 3, [61, 1, 1378, 0]) := by decide +kernel
theorem r133_79 : am_at 133 79 = some (.invokevirtual 266, 3, [131, 3, 1636, 0]) := by decide +kernel
theorem r133_82 : am_at 133 82 = some (.goto (8), 3, [90]) := by decide +kernel
theorem r133_85 : am_at 133 85 = some (.aload_n 0, 1, [0]) := by decide +kernel
theorem r133_86 : am_at 133 86 = some (.iconst (1), 1, []) := by decide +kernel
theorem r133_87 : am_at 133 87 = some (.invokevirtual 269, 3, [132, 2, 1640, 0]) := by decide +kernel
theorem r133_90 : am_at 133 90 = some (.istore 7, 2, [7]) := by decide +kernel
theorem r133_92 : am_at 133 92 = some (.iload 6, 2, [6]) := by decide +kernel
theorem r133_94 : am_at 133 94 = some (.iload 7, 2, [7]) := by decide +kernel
theorem r133_96 : am_at 133 96 = some (.invokestatic 272, 3, [130, 2, 1644, 0]) := by decide +kernel
theorem r133_99 : am_at 133 99 = some (.istore 8, 2, [8]) := by decide +kernel
theorem r133_101 : am_at 133 101 = some (.iload 4, 2, [4]) := by decide +kernel
theorem r133_103 : am_at 133 103 = some (.iconst (1), 1, []) := by decide +kernel
theorem r133_104 : am_at 133 104 = some (.if_icmp .ne (6), 3, [110]) := by decide +kernel
theorem r133_107 : am_at 133 107 = some (.iload 8, 2, [8]) := by decide +kernel
theorem r133_109 : am_at 133 109 = some (.ireturn, 1, []) := by decide +kernel
theorem r133_110 : am_at 133 110 = some (.iload_n 1, 1, [1]) := by decide +kernel
theorem r133_111 : am_at 133 111 = some (.iconst (1), 1, []) := by decide +kernel
theorem r133_112 : am_at 133 112 = some (.iadd, 1, []) := by decide +kernel
theorem r133_113 : am_at 133 113 = some (.iconst (4), 1, []) := by decide +kernel
theorem r133_114 : am_at 133 114 = some (.irem, 1, []) := by decide +kernel
theorem r133_115 : am_at 133 115 = some (.istore 9, 2, [9]) := by decide +kernel
theorem r133_117 : am_at 133 117 = some (.iconst (0), 1, []) := by decide +kernel
theorem r133_118 : am_at 133 118 = some (.istore 10, 2, [10]) := by decide +kernel
theorem r133_120 : am_at 133 120 = some (.iconst (0), 1, []) := by decide +kernel
theorem r133_121 : am_at 133 121 = some (.istore 11, 2, [11]) := by decide +kernel
theorem r133_123 : am_at 133 123 = some (.iconst (0), 1, []) := by decide +kernel
theorem r133_124 : am_at 133 124 = some (.istore 12, 2, [12]) := by decide +kernel
theorem r133_126 : am_at 133 126 = some (.iload 12, 2, [12]) := by decide +kernel
theorem r133_128 : am_at 133 128 = some (.bipush (28), 2, []) := by decide +kernel
theorem r133_130 : am_at 133 130 = some (.if_icmp .ge (95), 3, [225]) := by decide +kernel
theorem r133_133 : am_at 133 133 = some (.iload 10, 2, [10]) := by decide +kernel
theorem r133_135 : am_at 133 135 = some (.aload_n 0, 1, [0]) := by decide +kernel
theorem r133_136 : am_at 133 136 = some (.iload 9, 2, [9]) := by decide +kernel
theorem r133_138 : am_at 133 138 = some (.iload 12, 2, [12]) := by decide +kernel
theorem r133_140 : am_at 133 140 = some (.invokevirtual 69, 3, [56, 3, 1315, 0]) := by decide +kernel
theorem r133_143 : am_at 133 143 = some (.ifCond .eq (35), 3, [178]) := by decide +kernel
theorem r133_146 : am_at 133 146 = some (.aload_n 0, 1, [0]) := by decide +kernel
theorem r133_147 : am_at 133 147 = some (.iload 12, 2, [12]) := by decide +kernel
theorem r133_149 : am_at 133 149 = some (.iload 6, 2, [6]) := by decide +kernel
theorem r133_151 : am_at 133 151 = some (.bipush (8), 2, []) := by decide +kernel
theorem r133_153 : am_at 133 153 = some (.irem, 1, []) := by decide +kernel
theorem r133_154 : am_at 133 154 = some (.invokevirtual 91, 3, [53, 3, 1390, 0]) := by decide +kernel
theorem r133_157 : am_at 133 157 = some (.ifCond .ne (17), 3, [174]) := by decide +kernel
theorem r133_160 : am_at 133 160 = some (.aload_n 0, 1, [0]) := by decide +kernel
theorem r133_161 : am_at 133 161 = some (.iload 12, 2, [12]) := by decide +kernel
theorem r133_163 : am_at 133 163 = some (.iload 7, 2, [7]) := by decide +kernel
theorem r133_165 : am_at 133 165 = some (.bipush (8), 2, []) := by decide +kernel
theorem r133_167 : am_at 133 167 = some (.irem, 1, []) := by decide +kernel
theorem r133_168 : am_at 133 168 = some (.invokevirtual 91, 3, [53, 3, 1390, 0]) := by decide +kernel
theorem r133_171 : am_at 133 171 = some (.ifCond .eq (7), 3, [178]) := by decide +kernel
theorem r133_174 : am_at 133 174 = some (.iconst (1), 1, []) := by decide +kernel
theorem r133_175 : am_at 133 175 = some (.goto (4), 3, [179]) := by decide +kernel
theorem r133_178 : am_at 133 178 = some (.iconst (0), 1, []) := by decide +kernel
theorem r133_179 : am_at 133 179 = some (.iadd, 1, []) := by decide +kernel
theorem r133_180 : am_at 133 180 = some (.istore 10, 2, [10]) := by decide +kernel
theorem r133_182 : am_at 133 182 = some (.iload 11, 2, [11]) := by decide +kernel
theorem r133_184 : am_at 133 184 = some (.aload_n 0, 1, [0]) := by decide +kernel
theorem r133_185 : am_at 133 185 = some (.getfield 7, 3, [8, 1, 3, 1216]) := by decide +kernel
theorem r133_188 : am_at 133 188 = some (.bipush (25), 2, []) := by decide +kernel
theorem r133_190 : am_at 133 190 = some (.iload 12, 2, [12]) := by decide +kernel
theorem r133_192 : am_at 133 192 = some (.iadd, 1, []) := by decide +kernel
theorem r133_193 : am_at 133 193 = some (.iaload, 1, []) := by decide +kernel
theorem r133_194 : am_at 133 194 = some (.invokestatic 133, 3, [48, 1, 1302, 0]) := by decide +kernel
theorem r133_197 : am_at 133 197 = some (.ifCond .eq (18), 3, [215]) := by decide +kernel
theorem r133_200 : am_at 133 200 = some (.iload 12, 2, [12]) := by decide +kernel
theorem r133_202 : am_at 133 202 = some (.iload_n 2, 1, [2]) := by decide +kernel
theorem r133_203 : am_at 133 203 = some (.if_icmp .eq (12), 3, [215]) := by decide +kernel
theorem r133_206 : am_at 133 206 = some (.aload_n 0, 1, [0]) := by decide +kernel
theorem r133_207 : am_at 133 207 = some (.iload 12, 2, [12]) := by decide +kernel
theorem r133_209 : am_at 133 209 = some (.invokevirtual 73, 3, [51, 2, 1410, 0]) := by decide +kernel
theorem r133_212 : am_at 133 212 = some (.goto (4), 3, [216]) := by decide +kernel
theorem r133_215 : am_at 133 215 = some (.iconst (0), 1, []) := by decide +kernel
theorem r133_216 : am_at 133 216 = some (.iadd, 1, []) := by decide +kernel
theorem r133_217 : am_at 133 217 = some (.istore 11, 2, [11]) := by decide +kernel
theorem r133_219 : am_at 133 219 = some (.iinc 12 (1), 3, [12]) := by decide +kernel
theorem r133_222 : am_at 133 222 = some (.goto (-96), 3, [126]) := by decide +kernel
theorem r133_225 : am_at 133 225 = some (.iload 4, 2, [4]) := by decide +kernel
theorem r133_227 : am_at 133 227 = some (.iconst (2), 1, []) := by decide +kernel
theorem r133_228 : am_at 133 228 = some (.if_icmp .ne (8), 3, [236]) := by decide +kernel
theorem r133_231 : am_at 133 231 = some (.iload 10, 2, [10]) := by decide +kernel
theorem r133_233 : am_at 133 233 = some (.goto (26), 3, [259]) := by decide +kernel
theorem r133_236 : am_at 133 236 = some (.iload 8, 2, [8]) := by decide +kernel
theorem r133_238 : am_at 133 238 = some (.invokestatic 118, 3, [65, 1, 1414, 0]) := by decide +kernel
theorem r133_241 : am_at 133 241 = some (.aload_n 0, 1, [0]) := by decide +kernel
theorem r133_242 : am_at 133 242 = some (.iload_n 1, 1, [1]) := by decide +kernel
theorem r133_243 : am_at 133 243 = some (.invokevirtual 121, 3, [57, 2, 1319, 0]) := by decide +kernel
theorem r133_246 : am_at 133 246 = some (.iconst (1), 1, []) := by decide +kernel
theorem r133_247 : am_at 133 247 = some (.if_icmp .ne (10), 3, [257]) := by decide +kernel
theorem r133_250 : am_at 133 250 = some (.iload 11, 2, [11]) := by decide +kernel
theorem r133_252 : am_at 133 252 = some (.iconst (5), 1, []) := by decide +kernel
theorem r133_253 : am_at 133 253 = some (.idiv, 1, []) := by decide +kernel
theorem r133_254 : am_at 133 254 = some (.goto (4), 3, [258]) := by decide +kernel
theorem r133_257 : am_at 133 257 = some (.iconst (0), 1, []) := by decide +kernel
theorem r133_258 : am_at 133 258 = some (.iadd, 1, []) := by decide +kernel
theorem r133_259 : am_at 133 259 = some (.ireturn, 1, []) := by decide +kernel
theorem rt133 : am_rtt 133 = some (some .int) := by decide +kernel
set_option maxRecDepth 100000 in
theorem pg133 : am_pg[133]? = some am_m133 := rfl
theorem m133_L126_w {d : Nat} {N : Nat} {D : am_D} {v1 : Int32} {v2 : Int32} {v4 : Int32} {v6 : Int32} {v7 : Int32} {v8 : Int32} {v9 : Int32} {mc ms : Nat} {Q : am_O → am_AH → Prop} (hd : 5 ≤ d) : ∀ (n : Nat) (v10 : Int32) (v11 : Int32) (v12 : Int32) {q : Int32 × Int32} (h : m133_L126 N D v1 v2 v4 v6 v7 v8 v9  n v10 v11 v12 = some q) (k0 : am_X xs L 133 d mc ms 225 [.ref 106, .int v1, am_dead, am_dead, .int v4, am_dead, am_dead, am_dead, .int v8, am_dead, .int q.1, .int q.2, am_dead] [] (am_mk D) 0 0 Q), am_X xs L 133 d mc ms 126 [.ref 106, .int v1, .int v2, am_dead, .int v4, am_dead, .int v6, .int v7, .int v8, .int v9, .int v10, .int v11, .int v12] [] (am_mk D) 0 0 Q := by
  intro n
  induction n with
  | zero =>
    intro v10 v11 v12 q h k0
    exact (nomatch (show none = some q from h))
  | succ n ih =>
    intro v10 v11 v12 q h k0
    rw [m133_L126] at h
    refine x_ld (v := .int v12) r133_126 rfl rfl rfl ?_
    refine x_bi (v := 28) r133_128 rfl rfl ?_
    rcases am_ifE h with ⟨c32, h⟩ | ⟨c32, h⟩
    · refine x_icgeT r133_130 c32 ?_
      refine x_forget (lc0 := [.ref 106, .int v1, am_dead, am_dead, .int v4, am_dead, am_dead, am_dead, .int v8, am_dead, .int v10, .int v11, am_dead]) ⟨Or.inl rfl, Or.inl rfl, Or.inr ⟨rfl, rfl⟩, Or.inl rfl, Or.inl rfl, Or.inl rfl, Or.inr ⟨rfl, rfl⟩, Or.inr ⟨rfl, rfl⟩, Or.inl rfl, Or.inr ⟨rfl, rfl⟩, Or.inl rfl, Or.inl rfl, Or.inr ⟨rfl, rfl⟩, trivial⟩ ?_
      cases h
      exact k0
    · refine x_icgeF r133_130 c32 rfl ?_
      refine x_ld (v := .int v10) r133_133 rfl rfl rfl ?_
      refine x_ld (v := .ref 106) r133_135 rfl rfl rfl ?_
      refine x_ld (v := .int v9) r133_136 rfl rfl rfl ?_
      refine x_ld (v := .int v12) r133_138 rfl rfl rfl ?_
      obtain ⟨q33, h34, h⟩ := Option.bind_eq_some_iff.mp h
      refine x_call1 (as := [.ref 106, .int v9, .int v12]) (rest := [.int v10]) r133_140 rfl rfl rfl (by decide) (Nat.le_of_ble_eq_true rfl) (m56_ok h34) (Nat.le_trans (by decide) hd) (Nat.zero_le _) (Nat.zero_le _) rfl ?_
      obtain ⟨q35, h37, h⟩ := Option.bind_eq_some_iff.mp h
      have kj36 : am_X xs L 133 d mc ms 179 [.ref 106, .int v1, .int v2, am_dead, .int v4, am_dead, .int v6, .int v7, .int v8, .int v9, .int v10, .int v11, .int v12] [.int q35, .int v10] (am_mk D) 0 0 Q := by
        refine x_ar r133_179 rfl trivial rfl ?_
        obtain ⟨x45, e46, h⟩ := am_ltE h
        refine am_topI e46 ?_
        refine x_sto (lc' := [.ref 106, .int v1, .int v2, am_dead, .int v4, am_dead, .int v6, .int v7, .int v8, .int v9, .int x45, .int v11, .int v12]) r133_180 rfl rfl rfl rfl ?_
        refine x_ld (v := .int v11) r133_182 rfl rfl rfl ?_
        refine x_ld (v := .ref 106) r133_184 rfl rfl rfl ?_
        refine y_gf (cd := 109) (v := .ref 107) r133_185 rfl rfl rfl ?_
        refine x_bi (v := 25) r133_188 rfl rfl ?_
        refine x_ld (v := .int v12) r133_190 rfl rfl rfl ?_
        refine x_ar r133_192 rfl trivial rfl ?_
        obtain ⟨g47, h⟩ := am_gdE h
        refine y_ial (n := 1320) r133_193 rfl (by decide) g47 rfl rfl ?_
        refine x_call1 (as := [.int (D.1 107 (((25 : Int32) + v12)).toNatClampNeg)]) (rest := [.int v11]) r133_194 rfl rfl rfl (by decide) (Nat.le_of_ble_eq_true rfl) (m48_ok rfl) (Nat.le_trans (by decide) hd) (Nat.zero_le _) (Nat.zero_le _) rfl ?_
        obtain ⟨q48, h50, h⟩ := Option.bind_eq_some_iff.mp h
        have kj49 : am_X xs L 133 d mc ms 216 [.ref 106, .int v1, .int v2, am_dead, .int v4, am_dead, .int v6, .int v7, .int v8, .int v9, .int x45, .int v11, .int v12] [.int q48, .int v11] (am_mk D) 0 0 Q := by
          refine x_ar r133_216 rfl trivial rfl ?_
          obtain ⟨x55, e56, h⟩ := am_ltE h
          refine am_topI e56 ?_
          refine x_sto (lc' := [.ref 106, .int v1, .int v2, am_dead, .int v4, am_dead, .int v6, .int v7, .int v8, .int v9, .int x45, .int x55, .int v12]) r133_217 rfl rfl rfl rfl ?_
          obtain ⟨x57, e58, h⟩ := am_ltE h
          refine x_sto (lc' := [.ref 106, .int v1, .int v2, am_dead, .int v4, am_dead, .int v6, .int v7, .int v8, .int v9, .int x45, .int x55, .int x57]) r133_219 rfl rfl (by subst e58; rfl) rfl ?_
          refine x_goto r133_222 ?_
          exact x_forget (lc0 := [.ref 106, .int v1, .int v2, am_dead, .int v4, am_dead, .int v6, .int v7, .int v8, .int v9, .int x45, .int x55, .int x57]) ⟨Or.inl rfl, Or.inl rfl, Or.inl rfl, Or.inl rfl, Or.inl rfl, Or.inl rfl, Or.inl rfl, Or.inl rfl, Or.inl rfl, Or.inl rfl, Or.inl rfl, Or.inl rfl, Or.inl rfl, trivial⟩ (ih x45 x55 x57 h k0)
        rcases am_ifE h50 with ⟨c51, h50⟩ | ⟨c51, h50⟩
        · refine x_ifeqT r133_197 c51 ?_
          refine x_ic (v := 0) r133_215 rfl rfl ?_
          cases h50
          exact kj49
        · refine x_ifeqF r133_197 c51 rfl ?_
          refine x_ld (v := .int v12) r133_200 rfl rfl rfl ?_
          refine x_ld (v := .int v2) r133_202 rfl rfl rfl ?_
          rcases am_ifE h50 with ⟨c52, h50⟩ | ⟨c52, h50⟩
          · refine x_iceqT r133_203 c52 ?_
            refine x_ic (v := 0) r133_215 rfl rfl ?_
            cases h50
            exact kj49
          · refine x_iceqF r133_203 c52 rfl ?_
            refine x_ld (v := .ref 106) r133_206 rfl rfl rfl ?_
            refine x_ld (v := .int v12) r133_207 rfl rfl rfl ?_
            obtain ⟨q53, h54, h50⟩ := Option.bind_eq_some_iff.mp h50
            refine x_call1 (as := [.ref 106, .int v12]) (rest := [.int v11]) r133_209 rfl rfl rfl (by decide) (Nat.le_of_ble_eq_true rfl) (m51_ok h54) (Nat.le_trans (by decide) hd) (Nat.zero_le _) (Nat.zero_le _) rfl ?_
            refine x_goto r133_212 ?_
            cases h50
            exact kj49
      rcases am_ifE h37 with ⟨c38, h37⟩ | ⟨c38, h37⟩
      · refine x_ifeqT r133_143 c38 ?_
        refine x_ic (v := 0) r133_178 rfl rfl ?_
        cases h37
        exact kj36
      · refine x_ifeqF r133_143 c38 rfl ?_
        refine x_ld (v := .ref 106) r133_146 rfl rfl rfl ?_
        refine x_ld (v := .int v12) r133_147 rfl rfl rfl ?_
        refine x_ld (v := .int v6) r133_149 rfl rfl rfl ?_
        refine x_bi (v := 8) r133_151 rfl rfl ?_
        refine x_ar r133_153 rfl (by decide) rfl ?_
        obtain ⟨q39, h40, h37⟩ := Option.bind_eq_some_iff.mp h37
        refine x_call1 (as := [.ref 106, .int v12, .int (v6 - v6 / (8 : Int32) * (8 : Int32))]) (rest := [.int v10]) r133_154 rfl rfl rfl (by decide) (Nat.le_of_ble_eq_true rfl) (m53_ok h40) (Nat.le_trans (by decide) hd) (Nat.zero_le _) (Nat.zero_le _) rfl ?_
        rcases am_ifE h37 with ⟨c41, h37⟩ | ⟨c41, h37⟩
        · refine x_ifneT r133_157 c41 rfl ?_
          refine x_ld (v := .ref 106) r133_160 rfl rfl rfl ?_
          refine x_ld (v := .int v12) r133_161 rfl rfl rfl ?_
          refine x_ld (v := .int v7) r133_163 rfl rfl rfl ?_
          refine x_bi (v := 8) r133_165 rfl rfl ?_
          refine x_ar r133_167 rfl (by decide) rfl ?_
          obtain ⟨q42, h43, h37⟩ := Option.bind_eq_some_iff.mp h37
          refine x_call1 (as := [.ref 106, .int v12, .int (v7 - v7 / (8 : Int32) * (8 : Int32))]) (rest := [.int v10]) r133_168 rfl rfl rfl (by decide) (Nat.le_of_ble_eq_true rfl) (m53_ok h43) (Nat.le_trans (by decide) hd) (Nat.zero_le _) (Nat.zero_le _) rfl ?_
          rcases am_ifE h37 with ⟨c44, h37⟩ | ⟨c44, h37⟩
          · refine x_ifeqT r133_171 c44 ?_
            refine x_ic (v := 0) r133_178 rfl rfl ?_
            cases h37
            exact kj36
          · refine x_ifeqF r133_171 c44 rfl ?_
            refine x_ic (v := 1) r133_174 rfl rfl ?_
            refine x_goto r133_175 ?_
            cases h37
            exact kj36
        · refine x_ifneF r133_157 c41 ?_
          refine x_ic (v := 1) r133_174 rfl rfl ?_
          refine x_goto r133_175 ?_
          cases h37
          exact kj36
theorem m133_w {d mc ms : Nat} {N : Nat} {D : am_D} {v1 : Int32} {v2 : Int32} {v3 : Int32} {v4 : Int32} {Q : am_O → am_AH → Prop} (hd : 5 ≤ d) {r : Int32} (h : m133 N D v1 v2 v3 v4 = some r) (hQ : Q (.inl (some (.int r))) (am_mk D)) : am_X xs L 133 d mc ms 0 [.ref 106, .int v1, .int v2, .int v3, .int v4, am_dead, am_dead, am_dead, am_dead, am_dead, am_dead, am_dead, am_dead] [] (am_mk D) 0 0 Q := by
  unfold m133 at h
  refine x_ld (v := .ref 106) r133_0 rfl rfl rfl ?_
  refine y_gf (cd := 109) (v := .ref 107) r133_1 rfl rfl rfl ?_
  refine x_bi (v := 12) r133_4 rfl rfl ?_
  refine y_ial (n := 1320) r133_6 rfl (by decide) (by decide) (e := 12) (by decide) rfl ?_
  obtain ⟨q1, h3, h⟩ := am_ltE h
  replace h3 := h3.symm
  have kj2 : am_X xs L 133 d mc ms 15 [.ref 106, .int v1, .int v2, .int v3, .int v4, am_dead, am_dead, am_dead, am_dead, am_dead, am_dead, am_dead, am_dead] [.int q1] (am_mk D) 0 0 Q := by
    refine x_sto (lc' := [.ref 106, .int v1, .int v2, .int v3, .int v4, .int q1, am_dead, am_dead, am_dead, am_dead, am_dead, am_dead, am_dead]) r133_15 rfl rfl rfl rfl ?_
    refine x_ld (v := .int q1) r133_17 rfl rfl rfl ?_
    obtain ⟨q5, h7, h⟩ := Option.bind_eq_some_iff.mp h
    have kj6 : am_X xs L 133 d mc ms 52 [.ref 106, .int v1, .int v2, .int v3, .int v4, .int q1, am_dead, am_dead, am_dead, am_dead, am_dead, am_dead, am_dead] [.int q5] (am_mk D) 0 0 Q := by
      refine x_sto (lc' := [.ref 106, .int v1, .int v2, .int v3, .int v4, .int q1, .int q5, am_dead, am_dead, am_dead, am_dead, am_dead, am_dead]) r133_52 rfl rfl rfl rfl ?_
      refine x_ld (v := .int q1) r133_54 rfl rfl rfl ?_
      obtain ⟨q15, h17, h⟩ := Option.bind_eq_some_iff.mp h
      have kj16 : am_X xs L 133 d mc ms 90 [.ref 106, .int v1, .int v2, .int v3, .int v4, .int q1, .int q5, am_dead, am_dead, am_dead, am_dead, am_dead, am_dead] [.int q15] (am_mk D) 0 0 Q := by
        refine x_sto (lc' := [.ref 106, .int v1, .int v2, .int v3, .int v4, .int q1, .int q5, .int q15, am_dead, am_dead, am_dead, am_dead, am_dead]) r133_90 rfl rfl rfl rfl ?_
        refine x_ld (v := .int q5) r133_92 rfl rfl rfl ?_
        refine x_ld (v := .int q15) r133_94 rfl rfl rfl ?_
        refine x_call1 (as := [.int q5, .int q15]) (rest := []) r133_96 rfl rfl rfl (by decide) (Nat.le_of_ble_eq_true rfl) (m130_ok rfl) (Nat.le_trans (by decide) hd) (Nat.zero_le _) (Nat.zero_le _) rfl ?_
        obtain ⟨x27, e28, h⟩ := am_ltE h
        refine am_topI e28 ?_
        refine x_sto (lc' := [.ref 106, .int v1, .int v2, .int v3, .int v4, .int q1, .int q5, .int q15, .int x27, am_dead, am_dead, am_dead, am_dead]) r133_99 rfl rfl rfl rfl ?_
        refine x_ld (v := .int v4) r133_101 rfl rfl rfl ?_
        refine x_ic (v := 1) r133_103 rfl rfl ?_
        rcases am_ifE h with ⟨c29, h⟩ | ⟨c29, h⟩
        · refine x_icneT r133_104 c29 rfl ?_
          refine x_ld (v := .int x27) r133_107 rfl rfl rfl ?_
          cases h
          exact x_ret (ret := some .int) (C := True) (v := some (.int _)) r133_109 rt133 rfl rfl rfl rfl rfl rfl rfl rfl trivial hQ
        · refine x_icneF r133_104 c29 ?_
          refine x_ld (v := .int v1) r133_110 rfl rfl rfl ?_
          refine x_ic (v := 1) r133_111 rfl rfl ?_
          refine x_ar r133_112 rfl trivial rfl ?_
          refine x_ic (v := 4) r133_113 rfl rfl ?_
          refine x_ar r133_114 rfl (by decide) rfl ?_
          obtain ⟨x30, e31, h⟩ := am_ltE h
          refine am_topI e31 ?_
          refine x_sto (lc' := [.ref 106, .int v1, .int v2, .int v3, .int v4, .int q1, .int q5, .int q15, .int x27, .int x30, am_dead, am_dead, am_dead]) r133_115 rfl rfl rfl rfl ?_
          refine x_ic (v := 0) r133_117 rfl rfl ?_
          refine x_sto (lc' := [.ref 106, .int v1, .int v2, .int v3, .int v4, .int q1, .int q5, .int q15, .int x27, .int x30, .int (0 : Int32), am_dead, am_dead]) r133_118 rfl rfl rfl rfl ?_
          refine x_ic (v := 0) r133_120 rfl rfl ?_
          refine x_sto (lc' := [.ref 106, .int v1, .int v2, .int v3, .int v4, .int q1, .int q5, .int q15, .int x27, .int x30, .int (0 : Int32), .int (0 : Int32), am_dead]) r133_121 rfl rfl rfl rfl ?_
          refine x_ic (v := 0) r133_123 rfl rfl ?_
          refine x_sto (lc' := [.ref 106, .int v1, .int v2, .int v3, .int v4, .int q1, .int q5, .int q15, .int x27, .int x30, .int (0 : Int32), .int (0 : Int32), .int (0 : Int32)]) r133_124 rfl rfl rfl rfl ?_
          obtain ⟨q59, h60, h⟩ := Option.bind_eq_some_iff.mp h
          refine x_forget (lc0 := [.ref 106, .int v1, .int v2, am_dead, .int v4, am_dead, .int q5, .int q15, .int x27, .int x30, .int (0 : Int32), .int (0 : Int32), .int (0 : Int32)]) ⟨Or.inl rfl, Or.inl rfl, Or.inl rfl, Or.inr ⟨rfl, rfl⟩, Or.inl rfl, Or.inr ⟨rfl, rfl⟩, Or.inl rfl, Or.inl rfl, Or.inl rfl, Or.inl rfl, Or.inl rfl, Or.inl rfl, Or.inl rfl, trivial⟩ (m133_L126_w hd N (0 : Int32) (0 : Int32) (0 : Int32) h60 ?_)
          refine x_ld (v := .int v4) r133_225 rfl rfl rfl ?_
          refine x_ic (v := 2) r133_227 rfl rfl ?_
          rcases am_ifE h with ⟨c61, h⟩ | ⟨c61, h⟩
          · refine x_icneT r133_228 c61 rfl ?_
            refine x_ld (v := .int q59.1) r133_231 rfl rfl rfl ?_
            refine x_goto r133_233 ?_
            cases h
            exact x_ret (ret := some .int) (C := True) (v := some (.int _)) r133_259 rt133 rfl rfl rfl rfl rfl rfl rfl rfl trivial hQ
          · refine x_icneF r133_228 c61 ?_
            refine x_ld (v := .int x27) r133_236 rfl rfl rfl ?_
            refine x_call1 (as := [.int x27]) (rest := []) r133_238 rfl rfl rfl (by decide) (Nat.le_of_ble_eq_true rfl) (m65_ok rfl) (Nat.le_trans (by decide) hd) (Nat.zero_le _) (Nat.zero_le _) rfl ?_
            refine x_ld (v := .ref 106) r133_241 rfl rfl rfl ?_
            refine x_ld (v := .int v1) r133_242 rfl rfl rfl ?_
            obtain ⟨q62, h63, h⟩ := Option.bind_eq_some_iff.mp h
            refine x_call1 (as := [.ref 106, .int v1]) (rest := [.int (m65 x27)]) r133_243 rfl rfl rfl (by decide) (Nat.le_of_ble_eq_true rfl) (m57_ok h63) (Nat.le_trans (by decide) hd) (Nat.zero_le _) (Nat.zero_le _) rfl ?_
            refine x_ic (v := 1) r133_246 rfl rfl ?_
            rcases am_ifE h with ⟨c64, h⟩ | ⟨c64, h⟩
            · refine x_icneT r133_247 c64 rfl ?_
              refine x_ld (v := .int q59.2) r133_250 rfl rfl rfl ?_
              refine x_ic (v := 5) r133_252 rfl rfl ?_
              refine x_ar r133_253 rfl (by decide) rfl ?_
              refine x_goto r133_254 ?_
              refine x_ar r133_258 rfl trivial rfl ?_
              cases h
              exact x_ret (ret := some .int) (C := True) (v := some (.int _)) r133_259 rt133 rfl rfl rfl rfl rfl rfl rfl rfl trivial hQ
            · refine x_icneF r133_247 c64 ?_
              refine x_ic (v := 0) r133_257 rfl rfl ?_
              refine x_ar r133_258 rfl trivial rfl ?_
              cases h
              exact x_ret (ret := some .int) (C := True) (v := some (.int _)) r133_259 rt133 rfl rfl rfl rfl rfl rfl rfl rfl trivial hQ
      rcases am_ifE h17 with ⟨c18, h17⟩ | ⟨c18, h17⟩
      · refine x_ifeqT r133_56 c18 ?_
        refine x_ld (v := .int v3) r133_68 rfl rfl rfl ?_
        refine x_ic (v := 1) r133_69 rfl rfl ?_
        rcases am_ifE h17 with ⟨c19, h17⟩ | ⟨c19, h17⟩
        · refine x_icneT r133_70 c19 rfl ?_
          refine x_ld (v := .ref 106) r133_73 rfl rfl rfl ?_
          refine x_ld (v := .int v2) r133_74 rfl rfl rfl ?_
          refine x_ld (v := .ref 106) r133_75 rfl rfl rfl ?_
          obtain ⟨q20, h21, h17⟩ := Option.bind_eq_some_iff.mp h17
          refine x_call1 (as := [.ref 106]) (rest := [.int v2, .ref 106]) r133_76 rfl rfl rfl (by decide) (Nat.le_of_ble_eq_true rfl) (m61_ok h21) (Nat.le_trans (by decide) hd) (Nat.zero_le _) (Nat.zero_le _) rfl ?_
          obtain ⟨q22, h23, h17⟩ := Option.bind_eq_some_iff.mp h17
          refine x_call1 (as := [.ref 106, .int v2, .int q20]) (rest := []) r133_79 rfl rfl rfl (by decide) (Nat.le_of_ble_eq_true rfl) (m131_ok h23) (Nat.le_trans (by decide) hd) (Nat.zero_le _) (Nat.zero_le _) rfl ?_
          refine x_goto r133_82 ?_
          cases h17
          exact kj16
        · refine x_icneF r133_70 c19 ?_
          refine x_ld (v := .ref 106) r133_85 rfl rfl rfl ?_
          refine x_ic (v := 1) r133_86 rfl rfl ?_
          obtain ⟨q24, h25, h17⟩ := Option.bind_eq_some_iff.mp h17
          refine x_call1 (as := [.ref 106, .int (1 : Int32)]) (rest := []) r133_87 rfl rfl rfl (by decide) (Nat.le_of_ble_eq_true rfl) (m132_ok h25) (Nat.le_trans (by decide) hd) (Nat.zero_le _) (Nat.zero_le _) rfl ?_
          cases h17
          exact kj16
      · refine x_ifeqF r133_56 c18 rfl ?_
        refine x_ld (v := .ref 106) r133_59 rfl rfl rfl ?_
        refine y_gf (cd := 112) (v := .ref 110) r133_60 rfl rfl rfl ?_
        refine x_ld (v := .int v2) r133_63 rfl rfl rfl ?_
        obtain ⟨g26, h17⟩ := am_gdE h17
        refine y_ial (n := 28) r133_64 rfl (by decide) g26 rfl rfl ?_
        refine x_goto r133_65 ?_
        cases h17
        exact kj16
    rcases am_ifE h7 with ⟨c8, h7⟩ | ⟨c8, h7⟩
    · refine x_ifeqT r133_19 c8 ?_
      refine x_ld (v := .int v3) r133_31 rfl rfl rfl ?_
      rcases am_ifE h7 with ⟨c9, h7⟩ | ⟨c9, h7⟩
      · refine x_ifneT r133_32 c9 rfl ?_
        refine x_ld (v := .ref 106) r133_35 rfl rfl rfl ?_
        refine x_ld (v := .int v2) r133_36 rfl rfl rfl ?_
        refine x_ld (v := .ref 106) r133_37 rfl rfl rfl ?_
        refine x_call1 (as := [.ref 106]) (rest := [.int v2, .ref 106]) r133_38 rfl rfl rfl (by decide) (Nat.le_of_ble_eq_true rfl) (m59_ok rfl) (Nat.le_trans (by decide) hd) (Nat.zero_le _) (Nat.zero_le _) rfl ?_
        obtain ⟨q10, h11, h7⟩ := Option.bind_eq_some_iff.mp h7
        refine x_call1 (as := [.ref 106, .int v2, .int (m59 D)]) (rest := []) r133_41 rfl rfl rfl (by decide) (Nat.le_of_ble_eq_true rfl) (m131_ok h11) (Nat.le_trans (by decide) hd) (Nat.zero_le _) (Nat.zero_le _) rfl ?_
        refine x_goto r133_44 ?_
        cases h7
        exact kj6
      · refine x_ifneF r133_32 c9 ?_
        refine x_ld (v := .ref 106) r133_47 rfl rfl rfl ?_
        refine x_ic (v := 0) r133_48 rfl rfl ?_
        obtain ⟨q12, h13, h7⟩ := Option.bind_eq_some_iff.mp h7
        refine x_call1 (as := [.ref 106, .int (0 : Int32)]) (rest := []) r133_49 rfl rfl rfl (by decide) (Nat.le_of_ble_eq_true rfl) (m132_ok h13) (Nat.le_trans (by decide) hd) (Nat.zero_le _) (Nat.zero_le _) rfl ?_
        cases h7
        exact kj6
    · refine x_ifeqF r133_19 c8 rfl ?_
      refine x_ld (v := .ref 106) r133_22 rfl rfl rfl ?_
      refine y_gf (cd := 111) (v := .ref 109) r133_23 rfl rfl rfl ?_
      refine x_ld (v := .int v2) r133_26 rfl rfl rfl ?_
      obtain ⟨g14, h7⟩ := am_gdE h7
      refine y_ial (n := 28) r133_27 rfl (by decide) g14 rfl rfl ?_
      refine x_goto r133_28 ?_
      cases h7
      exact kj6
  rcases am_ifE h3 with ⟨c4, h3⟩ | ⟨c4, h3⟩
  · refine x_ifneT r133_7 c4 rfl ?_
    refine x_ic (v := 1) r133_10 rfl rfl ?_
    refine x_goto r133_11 ?_
    subst h3
    exact kj2
  · refine x_ifneF r133_7 c4 ?_
    refine x_ic (v := 0) r133_14 rfl rfl ?_
    subst h3
    exact kj2
theorem m133_ok {N : Nat} {D : am_D} {v1 : Int32} {v2 : Int32} {v3 : Int32} {v4 : Int32} {r : Int32} (h : m133 N D v1 v2 v3 v4 = some r) : am_Y xs L 133 5 0 0 [.ref 106, .int v1, .int v2, .int v3, .int v4] D (.inl (some (.int r))) D := am_Yof (mi := am_m133) (lc := [.ref 106, .int v1, .int v2, .int v3, .int v4, am_dead, am_dead, am_dead, am_dead, am_dead, am_dead, am_dead, am_dead]) pg133 (Nat.le_of_ble_eq_true rfl) (am_rc1 (ci := 8) rfl rfl rfl rfl rfl) rfl (fun Q hQ => m133_w (Nat.le_refl _) h hQ)
theorem r134_0 : am_at 134 0 = some (.iload_n 1, 1, [1]) := by decide +kernel
theorem r134_1 : am_at 134 1 = some (.invokestatic 133, 3, [48, 1, 1302, 0]) := by decide +kernel
theorem r134_4 : am_at 134 4 = some (.ifCond .eq (14), 3, [18]) := by decide +kernel
theorem r134_7 : am_at 134 7 = some (.iload_n 2, 1, [2]) := by decide +kernel
theorem r134_8 : am_at 134 8 = some (.invokestatic 136, 3, [49, 1, 1308, 0]) := by decide +kernel
theorem r134_11 : am_at 134 11 = some (.ifCond .eq (7), 3, [18]) := by decide +kernel
theorem r134_14 : am_at 134 14 = some (.iconst (1), 1, []) := by decide +kernel
theorem r134_15 : am_at 134 15 = some (.goto (4), 3, [19]) := by decide +kernel
theorem r134_18 : am_at 134 18 = some (.iconst (0), 1, []) := by decide +kernel
theorem r134_19 : am_at 134 19 = some (.istore 5, 2, [5]) := by decide +kernel
theorem r134_21 : am_at 134 21 = some (.aload_n 0, 1, [0]) := by decide +kernel
theorem r134_22 : am_at 134 22 = some (.iload 5, 2, [5]) := by decide +kernel
theorem r134_24 : am_at 134 24 = some (.ifCond .ne (7), 3, [31]) := by decide +kernel
theorem r134_27 : am_at 134 27 = some (.iconst (1), 1, []) := by decide +kernel
theorem r134_28 : am_at 134 28 = some (.goto (25), 3, [53]) := by decide +kernel
theorem r134_31 : am_at 134 31 = some (.iload_n 3, 1, [3]) := by decide +kernel
theorem r134_32 : am_at 134 32 = some (.invokestatic 154, 3, [50, 1, 1363, 0]) := by decide +kernel
theorem r134_35 : am_at 134 35 = some (.ifCond .eq (13), 3, [48]) := by decide +kernel
theorem r134_38 : am_at 134 38 = some (.iload 4, 2, [4]) := by decide +kernel
theorem r134_40 : am_at 134 40 = some (.iconst (0), 1, []) := by decide +kernel
theorem r134_41 : am_at 134 41 = some (.iconst (2), 1, []) := by decide +kernel
theorem r134_42 : am_at 134 42 = some (.invokestatic 65, 3, [46, 3, 1305, 0]) := by decide +kernel
theorem r134_45 : am_at 134 45 = some (.ifCond .ne (7), 3, [52]) := by decide +kernel
theorem r134_48 : am_at 134 48 = some (.iconst (2), 1, []) := by decide +kernel
theorem r134_49 : am_at 134 49 = some (.goto (4), 3, [53]) := by decide +kernel
theorem r134_52 : am_at 134 52 = some (.iconst (0), 1, []) := by decide +kernel
theorem r134_53 : am_at 134 53 = some (.invokevirtual 142, 3, [47, 2, 1323, 0]) := by decide +kernel
theorem r134_56 : am_at 134 56 = some (.ifCond .ne (5), 3, [61]) := by decide +kernel
theorem r134_59 : am_at 134 59 = some (.iconst (0), 1, []) := by decide +kernel
theorem r134_60 : am_at 134 60 = some (.ireturn, 1, []) := by decide +kernel
theorem r134_61 : am_at 134 61 = some (.aload_n 0, 1, [0]) := by decide +kernel
theorem r134_62 : am_at 134 62 = some (.getfield 7, 3, [8, 1, 3, 1216]) := by decide +kernel
theorem r134_65 : am_at 134 65 = some (.iconst (0), 1, []) := by decide +kernel
theorem r134_66 : am_at 134 66 = some (.iaload, 1, []) := by decide +kernel
theorem r134_67 : am_at 134 67 = some (.iconst (1), 1, []) := by decide +kernel
theorem r134_68 : am_at 134 68 = some (.if_icmp .ne (33), 3, [101]) := by decide +kernel
theorem r134_71 : am_at 134 71 = some (.aload_n 0, 1, [0]) := by decide +kernel
theorem r134_72 : am_at 134 72 = some (.iload_n 1, 1, [1]) := by decide +kernel
theorem r134_73 : am_at 134 73 = some (.iload_n 2, 1, [2]) := by decide +kernel
theorem r134_74 : am_at 134 74 = some (.invokevirtual 69, 3, [56, 3, 1315, 0]) := by decide +kernel
theorem r134_77 : am_at 134 77 = some (.ifCond .eq (24), 3, [101]) := by decide +kernel
theorem r134_80 : am_at 134 80 = some (.aload_n 0, 1, [0]) := by decide +kernel
theorem r134_81 : am_at 134 81 = some (.iload_n 2, 1, [2]) := by decide +kernel
theorem r134_82 : am_at 134 82 = some (.iload_n 3, 1, [3]) := by decide +kernel
theorem r134_83 : am_at 134 83 = some (.invokevirtual 94, 3, [62, 3, 1370, 0]) := by decide +kernel
theorem r134_86 : am_at 134 86 = some (.ifCond .eq (15), 3, [101]) := by decide +kernel
theorem r134_89 : am_at 134 89 = some (.aload_n 0, 1, [0]) := by decide +kernel
theorem r134_90 : am_at 134 90 = some (.iload_n 1, 1, [1]) := by decide +kernel
theorem r134_91 : am_at 134 91 = some (.iload_n 2, 1, [2]) := by decide +kernel
theorem r134_92 : am_at 134 92 = some (.iload_n 3, 1, [3]) := by decide +kernel
theorem r134_93 : am_at 134 93 = some (.iload 4, 2, [4]) := by decide +kernel
theorem r134_95 : am_at 134 95 = some (.invokevirtual 275, 3, [133, 5, 1632, 0]) := by decide +kernel
theorem r134_98 : am_at 134 98 = some (.goto (4), 3, [102]) := by decide +kernel
theorem r134_101 : am_at 134 101 = some (.iconst (-1), 1, []) := by decide +kernel
theorem r134_102 : am_at 134 102 = some (.ireturn, 1, []) := by decide +kernel
theorem rt134 : am_rtt 134 = some (some .int) := by decide +kernel
set_option maxRecDepth 100000 in
theorem pg134 : am_pg[134]? = some am_m134 := rfl
theorem m134_w {d mc ms : Nat} {N : Nat} {D : am_D} {v1 : Int32} {v2 : Int32} {v3 : Int32} {v4 : Int32} {Q : am_O → am_AH → Prop} (hd : 6 ≤ d) {r : Int32 × am_D} (h : m134 N D v1 v2 v3 v4 = some r) (hQ : Q (.inl (some (.int r.1))) (am_mk r.2)) : am_X xs L 134 d mc ms 0 [.ref 106, .int v1, .int v2, .int v3, .int v4, am_dead] [] (am_mk D) 0 0 Q := by
  unfold m134 at h
  refine x_ld (v := .int v1) r134_0 rfl rfl rfl ?_
  refine x_call1 (as := [.int v1]) (rest := []) r134_1 rfl rfl rfl (by decide) (Nat.le_of_ble_eq_true rfl) (m48_ok rfl) (Nat.le_trans (by decide) hd) (Nat.zero_le _) (Nat.zero_le _) rfl ?_
  obtain ⟨q1, h3, h⟩ := am_ltE h
  replace h3 := h3.symm
  have kj2 : am_X xs L 134 d mc ms 19 [.ref 106, .int v1, .int v2, .int v3, .int v4, am_dead] [.int q1] (am_mk D) 0 0 Q := by
    refine x_sto (lc' := [.ref 106, .int v1, .int v2, .int v3, .int v4, .int q1]) r134_19 rfl rfl rfl rfl ?_
    refine x_ld (v := .ref 106) r134_21 rfl rfl rfl ?_
    refine x_ld (v := .int q1) r134_22 rfl rfl rfl ?_
    obtain ⟨q6, h8, h⟩ := am_ltE h
    replace h8 := h8.symm
    have kj7 : am_X xs L 134 d mc ms 53 [.ref 106, .int v1, .int v2, .int v3, .int v4, .int q1] [.int q6, .ref 106] (am_mk D) 0 0 Q := by
      obtain ⟨q12, h13, h⟩ := am_ltE h
      replace h13 := h13.symm
      refine x_call1 (as := [.ref 106, .int q6]) (rest := []) r134_53 rfl rfl rfl (by decide) (Nat.le_of_ble_eq_true rfl) (m47_ok h13) (Nat.le_trans (by decide) hd) (Nat.zero_le _) (Nat.zero_le _) rfl ?_
      rcases am_ifE h with ⟨c14, h⟩ | ⟨c14, h⟩
      · refine x_ifneT r134_56 c14 rfl ?_
        refine x_ic (v := 0) r134_59 rfl rfl ?_
        cases h
        exact x_ret (ret := some .int) (C := True) (v := some (.int _)) r134_60 rt134 rfl rfl rfl rfl rfl rfl rfl rfl trivial hQ
      · refine x_ifneF r134_56 c14 ?_
        refine x_ld (v := .ref 106) r134_61 rfl rfl rfl ?_
        refine y_gf (cd := 109) (v := .ref 107) r134_62 rfl rfl rfl ?_
        refine x_ic (v := 0) r134_65 rfl rfl ?_
        refine y_ial (n := 1320) r134_66 rfl (by decide) (by decide) (e := 0) (by decide) rfl ?_
        refine x_ic (v := 1) r134_67 rfl rfl ?_
        rcases am_ifE h with ⟨c15, h⟩ | ⟨c15, h⟩
        · refine x_icneT r134_68 c15 rfl ?_
          refine x_ld (v := .ref 106) r134_71 rfl rfl rfl ?_
          refine x_ld (v := .int v1) r134_72 rfl rfl rfl ?_
          refine x_ld (v := .int v2) r134_73 rfl rfl rfl ?_
          obtain ⟨q16, h17, h⟩ := Option.bind_eq_some_iff.mp h
          refine x_call1 (as := [.ref 106, .int v1, .int v2]) (rest := []) r134_74 rfl rfl rfl (by decide) (Nat.le_of_ble_eq_true rfl) (m56_ok h17) (Nat.le_trans (by decide) hd) (Nat.zero_le _) (Nat.zero_le _) rfl ?_
          rcases am_ifE h with ⟨c18, h⟩ | ⟨c18, h⟩
          · refine x_ifeqT r134_77 c18 ?_
            refine x_ic (v := -1) r134_101 rfl rfl ?_
            cases h
            exact x_ret (ret := some .int) (C := True) (v := some (.int _)) r134_102 rt134 rfl rfl rfl rfl rfl rfl rfl rfl trivial hQ
          · refine x_ifeqF r134_77 c18 rfl ?_
            refine x_ld (v := .ref 106) r134_80 rfl rfl rfl ?_
            refine x_ld (v := .int v2) r134_81 rfl rfl rfl ?_
            refine x_ld (v := .int v3) r134_82 rfl rfl rfl ?_
            obtain ⟨q19, h20, h⟩ := Option.bind_eq_some_iff.mp h
            refine x_call1 (as := [.ref 106, .int v2, .int v3]) (rest := []) r134_83 rfl rfl rfl (by decide) (Nat.le_of_ble_eq_true rfl) (m62_ok h20) (Nat.le_trans (by decide) hd) (Nat.zero_le _) (Nat.zero_le _) rfl ?_
            rcases am_ifE h with ⟨c21, h⟩ | ⟨c21, h⟩
            · refine x_ifeqT r134_86 c21 ?_
              refine x_ic (v := -1) r134_101 rfl rfl ?_
              cases h
              exact x_ret (ret := some .int) (C := True) (v := some (.int _)) r134_102 rt134 rfl rfl rfl rfl rfl rfl rfl rfl trivial hQ
            · refine x_ifeqF r134_86 c21 rfl ?_
              refine x_ld (v := .ref 106) r134_89 rfl rfl rfl ?_
              refine x_ld (v := .int v1) r134_90 rfl rfl rfl ?_
              refine x_ld (v := .int v2) r134_91 rfl rfl rfl ?_
              refine x_ld (v := .int v3) r134_92 rfl rfl rfl ?_
              refine x_ld (v := .int v4) r134_93 rfl rfl rfl ?_
              obtain ⟨q22, h23, h⟩ := Option.bind_eq_some_iff.mp h
              refine x_call1 (as := [.ref 106, .int v1, .int v2, .int v3, .int v4]) (rest := []) r134_95 rfl rfl rfl (by decide) (Nat.le_of_ble_eq_true rfl) (m133_ok h23) (Nat.le_trans (by decide) hd) (Nat.zero_le _) (Nat.zero_le _) rfl ?_
              refine x_goto r134_98 ?_
              cases h
              exact x_ret (ret := some .int) (C := True) (v := some (.int _)) r134_102 rt134 rfl rfl rfl rfl rfl rfl rfl rfl trivial hQ
        · refine x_icneF r134_68 c15 ?_
          refine x_ic (v := -1) r134_101 rfl rfl ?_
          cases h
          exact x_ret (ret := some .int) (C := True) (v := some (.int _)) r134_102 rt134 rfl rfl rfl rfl rfl rfl rfl rfl trivial hQ
    rcases am_ifE h8 with ⟨c9, h8⟩ | ⟨c9, h8⟩
    · refine x_ifneT r134_24 c9 rfl ?_
      refine x_ic (v := 1) r134_27 rfl rfl ?_
      refine x_goto r134_28 ?_
      subst h8
      exact kj7
    · refine x_ifneF r134_24 c9 ?_
      refine x_ld (v := .int v3) r134_31 rfl rfl rfl ?_
      refine x_call1 (as := [.int v3]) (rest := [.ref 106]) r134_32 rfl rfl rfl (by decide) (Nat.le_of_ble_eq_true rfl) (m50_ok rfl) (Nat.le_trans (by decide) hd) (Nat.zero_le _) (Nat.zero_le _) rfl ?_
      rcases am_ifE h8 with ⟨c10, h8⟩ | ⟨c10, h8⟩
      · refine x_ifeqT r134_35 c10 ?_
        refine x_ic (v := 2) r134_48 rfl rfl ?_
        refine x_goto r134_49 ?_
        subst h8
        exact kj7
      · refine x_ifeqF r134_35 c10 rfl ?_
        refine x_ld (v := .int v4) r134_38 rfl rfl rfl ?_
        refine x_ic (v := 0) r134_40 rfl rfl ?_
        refine x_ic (v := 2) r134_41 rfl rfl ?_
        refine x_call1 (as := [.int v4, .int (0 : Int32), .int (2 : Int32)]) (rest := [.ref 106]) r134_42 rfl rfl rfl (by decide) (Nat.le_of_ble_eq_true rfl) (m46_ok rfl) (Nat.le_trans (by decide) hd) (Nat.zero_le _) (Nat.zero_le _) rfl ?_
        rcases am_ifE h8 with ⟨c11, h8⟩ | ⟨c11, h8⟩
        · refine x_ifneT r134_45 c11 rfl ?_
          refine x_ic (v := 2) r134_48 rfl rfl ?_
          refine x_goto r134_49 ?_
          subst h8
          exact kj7
        · refine x_ifneF r134_45 c11 ?_
          refine x_ic (v := 0) r134_52 rfl rfl ?_
          subst h8
          exact kj7
  rcases am_ifE h3 with ⟨c4, h3⟩ | ⟨c4, h3⟩
  · refine x_ifeqT r134_4 c4 ?_
    refine x_ic (v := 0) r134_18 rfl rfl ?_
    subst h3
    exact kj2
  · refine x_ifeqF r134_4 c4 rfl ?_
    refine x_ld (v := .int v2) r134_7 rfl rfl rfl ?_
    refine x_call1 (as := [.int v2]) (rest := []) r134_8 rfl rfl rfl (by decide) (Nat.le_of_ble_eq_true rfl) (m49_ok rfl) (Nat.le_trans (by decide) hd) (Nat.zero_le _) (Nat.zero_le _) rfl ?_
    rcases am_ifE h3 with ⟨c5, h3⟩ | ⟨c5, h3⟩
    · refine x_ifeqT r134_11 c5 ?_
      refine x_ic (v := 0) r134_18 rfl rfl ?_
      subst h3
      exact kj2
    · refine x_ifeqF r134_11 c5 rfl ?_
      refine x_ic (v := 1) r134_14 rfl rfl ?_
      refine x_goto r134_15 ?_
      subst h3
      exact kj2
theorem m134_ok {N : Nat} {D : am_D} {v1 : Int32} {v2 : Int32} {v3 : Int32} {v4 : Int32} {r : Int32 × am_D} (h : m134 N D v1 v2 v3 v4 = some r) : am_Y xs L 134 6 0 0 [.ref 106, .int v1, .int v2, .int v3, .int v4] D (.inl (some (.int r.1))) r.2 := am_Yof (mi := am_m134) (lc := [.ref 106, .int v1, .int v2, .int v3, .int v4, am_dead]) pg134 (Nat.le_of_ble_eq_true rfl) (am_rc1 (ci := 8) rfl rfl rfl rfl rfl) rfl (fun Q hQ => m134_w (Nat.le_refl _) h hQ)
theorem r135_0 : am_at 135 0 = some (.bipush (28), 2, []) := by decide +kernel
theorem r135_2 : am_at 135 2 = some (.aload_n 0, 1, [0]) := by decide +kernel
theorem r135_3 : am_at 135 3 = some (.iconst (4), 1, []) := by decide +kernel
theorem r135_4 : am_at 135 4 = some (.invokevirtual 121, 3, [57, 2, 1319, 0]) := by decide +kernel
theorem r135_7 : am_at 135 7 = some (.isub, 1, []) := by decide +kernel
theorem r135_8 : am_at 135 8 = some (.aload_n 0, 1, [0]) := by decide +kernel
theorem r135_9 : am_at 135 9 = some (.iconst (5), 1, []) := by decide +kernel
theorem r135_10 : am_at 135 10 = some (.invokevirtual 121, 3, [57, 2, 1319, 0]) := by decide +kernel
theorem r135_13 : am_at 135 13 = some (.isub, 1, []) := by decide +kernel
theorem r135_14 : am_at 135 14 = some (.ireturn, 1, []) := by decide +kernel
theorem rt135 : am_rtt 135 = some (some .int) := by decide +kernel
set_option maxRecDepth 100000 in
theorem pg135 : am_pg[135]? = some am_m135 := rfl
theorem m135_w {d mc ms : Nat} {N : Nat} {D : am_D} {Q : am_O → am_AH → Prop} (hd : 2 ≤ d) {r : Int32} (h : m135 N D = some r) (hQ : Q (.inl (some (.int r))) (am_mk D)) : am_X xs L 135 d mc ms 0 [.ref 106] [] (am_mk D) 0 0 Q := by
  unfold m135 at h
  refine x_bi (v := 28) r135_0 rfl rfl ?_
  refine x_ld (v := .ref 106) r135_2 rfl rfl rfl ?_
  refine x_ic (v := 4) r135_3 rfl rfl ?_
  obtain ⟨q1, h2, h⟩ := Option.bind_eq_some_iff.mp h
  refine x_call1 (as := [.ref 106, .int (4 : Int32)]) (rest := [.int (28 : Int32)]) r135_4 rfl rfl rfl (by decide) (Nat.le_of_ble_eq_true rfl) (m57_ok h2) (Nat.le_trans (by decide) hd) (Nat.zero_le _) (Nat.zero_le _) rfl ?_
  refine x_ar r135_7 rfl trivial rfl ?_
  refine x_ld (v := .ref 106) r135_8 rfl rfl rfl ?_
  refine x_ic (v := 5) r135_9 rfl rfl ?_
  obtain ⟨q3, h4, h⟩ := Option.bind_eq_some_iff.mp h
  refine x_call1 (as := [.ref 106, .int (5 : Int32)]) (rest := [.int ((28 : Int32) - q1)]) r135_10 rfl rfl rfl (by decide) (Nat.le_of_ble_eq_true rfl) (m57_ok h4) (Nat.le_trans (by decide) hd) (Nat.zero_le _) (Nat.zero_le _) rfl ?_
  refine x_ar r135_13 rfl trivial rfl ?_
  cases h
  exact x_ret (ret := some .int) (C := True) (v := some (.int _)) r135_14 rt135 rfl rfl rfl rfl rfl rfl rfl rfl trivial hQ
theorem m135_ok {N : Nat} {D : am_D} {r : Int32} (h : m135 N D = some r) : am_Y xs L 135 2 0 0 [.ref 106] D (.inl (some (.int r))) D := am_Yof (mi := am_m135) (lc := [.ref 106]) pg135 (Nat.le_of_ble_eq_true rfl) (am_rc1 (ci := 8) rfl rfl rfl rfl rfl) rfl (fun Q hQ => m135_w (Nat.le_refl _) h hQ)
theorem r136_0 : am_at 136 0 = some (.iconst (0), 1, []) := by decide +kernel
theorem r136_1 : am_at 136 1 = some (.istore_n 2, 1, [2]) := by decide +kernel
theorem r136_2 : am_at 136 2 = some (.iconst (0), 1, []) := by decide +kernel
theorem r136_3 : am_at 136 3 = some (.istore_n 3, 1, [3]) := by decide +kernel
theorem r136_4 : am_at 136 4 = some (.iload_n 3, 1, [3]) := by decide +kernel
theorem r136_5 : am_at 136 5 = some (.bipush (28), 2, []) := by decide +kernel
theorem r136_7 : am_at 136 7 = some (.if_icmp .ge (31), 3, [38]) := by decide +kernel
theorem r136_10 : am_at 136 10 = some (.iload_n 2, 1, [2]) := by decide +kernel
theorem r136_11 : am_at 136 11 = some (.aload_n 0, 1, [0]) := by decide +kernel
theorem r136_12 : am_at 136 12 = some (.getfield 34, 3, [8, 15, 3, 1230]) := by decide +kernel
theorem r136_15 : am_at 136 15 = some (.iload_n 3, 1, [3]) := by decide +kernel
theorem r136_16 : am_at 136 16 = some (.iaload, 1, []) := by decide +kernel
theorem r136_17 : am_at 136 17 = some (.iload_n 1, 1, [1]) := by decide +kernel
theorem r136_18 : am_at 136 18 = some (.if_icmp .ne (11), 3, [29]) := by decide +kernel
theorem r136_21 : am_at 136 21 = some (.aload_n 0, 1, [0]) := by decide +kernel
theorem r136_22 : am_at 136 22 = some (.iload_n 3, 1, [3]) := by decide +kernel
theorem r136_23 : am_at 136 23 = some (.invokevirtual 73, 3, [51, 2, 1410, 0]) := by decide +kernel
theorem r136_26 : am_at 136 26 = some (.goto (4), 3, [30]) := by decide +kernel
theorem r136_29 : am_at 136 29 = some (.iconst (0), 1, []) := by decide +kernel
theorem r136_30 : am_at 136 30 = some (.iadd, 1, []) := by decide +kernel
theorem r136_31 : am_at 136 31 = some (.istore_n 2, 1, [2]) := by decide +kernel
theorem r136_32 : am_at 136 32 = some (.iinc 3 (1), 3, [3]) := by decide +kernel
theorem r136_35 : am_at 136 35 = some (.goto (-31), 3, [4]) := by decide +kernel
theorem r136_38 : am_at 136 38 = some (.iload_n 2, 1, [2]) := by decide +kernel
theorem r136_39 : am_at 136 39 = some (.ireturn, 1, []) := by decide +kernel
theorem rt136 : am_rtt 136 = some (some .int) := by decide +kernel
set_option maxRecDepth 100000 in
theorem pg136 : am_pg[136]? = some am_m136 := rfl
theorem m136_L4_w {d : Nat} {N : Nat} {D : am_D} {v1 : Int32} {mc ms : Nat} {Q : am_O → am_AH → Prop} (hd : 2 ≤ d) : ∀ (n : Nat) (v2 : Int32) (v3 : Int32) {q : Int32} (h : m136_L4 N D v1  n v2 v3 = some q) (k0 : am_X xs L 136 d mc ms 38 [.ref 106, am_dead, .int q, am_dead] [] (am_mk D) 0 0 Q), am_X xs L 136 d mc ms 4 [.ref 106, .int v1, .int v2, .int v3] [] (am_mk D) 0 0 Q := by
  intro n
  induction n with
  | zero =>
    intro v2 v3 q h k0
    exact (nomatch (show none = some q from h))
  | succ n ih =>
    intro v2 v3 q h k0
    rw [m136_L4] at h
    refine x_ld (v := .int v3) r136_4 rfl rfl rfl ?_
    refine x_bi (v := 28) r136_5 rfl rfl ?_
    rcases am_ifE h with ⟨c1, h⟩ | ⟨c1, h⟩
    · refine x_icgeT r136_7 c1 ?_
      refine x_forget (lc0 := [.ref 106, am_dead, .int v2, am_dead]) ⟨Or.inl rfl, Or.inr ⟨rfl, rfl⟩, Or.inl rfl, Or.inr ⟨rfl, rfl⟩, trivial⟩ ?_
      cases h
      exact k0
    · refine x_icgeF r136_7 c1 rfl ?_
      refine x_ld (v := .int v2) r136_10 rfl rfl rfl ?_
      refine x_ld (v := .ref 106) r136_11 rfl rfl rfl ?_
      refine y_gf (cd := 117) (v := .ref 115) r136_12 rfl rfl rfl ?_
      refine x_ld (v := .int v3) r136_15 rfl rfl rfl ?_
      obtain ⟨g2, h⟩ := am_gdE h
      refine y_ial (n := 28) r136_16 rfl (by decide) g2 rfl rfl ?_
      refine x_ld (v := .int v1) r136_17 rfl rfl rfl ?_
      obtain ⟨q3, h5, h⟩ := Option.bind_eq_some_iff.mp h
      have kj4 : am_X xs L 136 d mc ms 30 [.ref 106, .int v1, .int v2, .int v3] [.int q3, .int v2] (am_mk D) 0 0 Q := by
        refine x_ar r136_30 rfl trivial rfl ?_
        obtain ⟨x9, e10, h⟩ := am_ltE h
        refine am_topI e10 ?_
        refine x_sto (lc' := [.ref 106, .int v1, .int x9, .int v3]) r136_31 rfl rfl rfl rfl ?_
        obtain ⟨x11, e12, h⟩ := am_ltE h
        refine x_sto (lc' := [.ref 106, .int v1, .int x9, .int x11]) r136_32 rfl rfl (by subst e12; rfl) rfl ?_
        refine x_goto r136_35 ?_
        exact x_forget (lc0 := [.ref 106, .int v1, .int x9, .int x11]) ⟨Or.inl rfl, Or.inl rfl, Or.inl rfl, Or.inl rfl, trivial⟩ (ih x9 x11 h k0)
      rcases am_ifE h5 with ⟨c6, h5⟩ | ⟨c6, h5⟩
      · refine x_icneT r136_18 c6 rfl ?_
        refine x_ld (v := .ref 106) r136_21 rfl rfl rfl ?_
        refine x_ld (v := .int v3) r136_22 rfl rfl rfl ?_
        obtain ⟨q7, h8, h5⟩ := Option.bind_eq_some_iff.mp h5
        refine x_call1 (as := [.ref 106, .int v3]) (rest := [.int v2]) r136_23 rfl rfl rfl (by decide) (Nat.le_of_ble_eq_true rfl) (m51_ok h8) (Nat.le_trans (by decide) hd) (Nat.zero_le _) (Nat.zero_le _) rfl ?_
        refine x_goto r136_26 ?_
        cases h5
        exact kj4
      · refine x_icneF r136_18 c6 ?_
        refine x_ic (v := 0) r136_29 rfl rfl ?_
        cases h5
        exact kj4
theorem m136_w {d mc ms : Nat} {N : Nat} {D : am_D} {v1 : Int32} {Q : am_O → am_AH → Prop} (hd : 2 ≤ d) {r : Int32} (h : m136 N D v1 = some r) (hQ : Q (.inl (some (.int r))) (am_mk D)) : am_X xs L 136 d mc ms 0 [.ref 106, .int v1, am_dead, am_dead] [] (am_mk D) 0 0 Q := by
  unfold m136 at h
  refine x_ic (v := 0) r136_0 rfl rfl ?_
  refine x_sto (lc' := [.ref 106, .int v1, .int (0 : Int32), am_dead]) r136_1 rfl rfl rfl rfl ?_
  refine x_ic (v := 0) r136_2 rfl rfl ?_
  refine x_sto (lc' := [.ref 106, .int v1, .int (0 : Int32), .int (0 : Int32)]) r136_3 rfl rfl rfl rfl ?_
  obtain ⟨q13, h14, h⟩ := Option.bind_eq_some_iff.mp h
  refine x_forget (lc0 := [.ref 106, .int v1, .int (0 : Int32), .int (0 : Int32)]) ⟨Or.inl rfl, Or.inl rfl, Or.inl rfl, Or.inl rfl, trivial⟩ (m136_L4_w hd N (0 : Int32) (0 : Int32) h14 ?_)
  refine x_ld (v := .int q13) r136_38 rfl rfl rfl ?_
  cases h
  exact x_ret (ret := some .int) (C := True) (v := some (.int _)) r136_39 rt136 rfl rfl rfl rfl rfl rfl rfl rfl trivial hQ
theorem m136_ok {N : Nat} {D : am_D} {v1 : Int32} {r : Int32} (h : m136 N D v1 = some r) : am_Y xs L 136 2 0 0 [.ref 106, .int v1] D (.inl (some (.int r))) D := am_Yof (mi := am_m136) (lc := [.ref 106, .int v1, am_dead, am_dead]) pg136 (Nat.le_of_ble_eq_true rfl) (am_rc1 (ci := 8) rfl rfl rfl rfl rfl) rfl (fun Q hQ => m136_w (Nat.le_refl _) h hQ)
theorem r137_0 : am_at 137 0 = some (.iconst (1), 1, []) := by decide +kernel
theorem r137_1 : am_at 137 1 = some (.istore_n 2, 1, [2]) := by decide +kernel
theorem r137_2 : am_at 137 2 = some (.iconst (0), 1, []) := by decide +kernel
theorem r137_3 : am_at 137 3 = some (.istore_n 3, 1, [3]) := by decide +kernel
theorem r137_4 : am_at 137 4 = some (.iload_n 3, 1, [3]) := by decide +kernel
theorem r137_5 : am_at 137 5 = some (.bipush (28), 2, []) := by decide +kernel
theorem r137_7 : am_at 137 7 = some (.if_icmp .ge (29), 3, [36]) := by decide +kernel
theorem r137_10 : am_at 137 10 = some (.iload_n 2, 1, [2]) := by decide +kernel
theorem r137_11 : am_at 137 11 = some (.ifCond .eq (17), 3, [28]) := by decide +kernel
theorem r137_14 : am_at 137 14 = some (.aload_n 0, 1, [0]) := by decide +kernel
theorem r137_15 : am_at 137 15 = some (.getfield 34, 3, [8, 15, 3, 1230]) := by decide +kernel
theorem r137_18 : am_at 137 18 = some (.iload_n 3, 1, [3]) := by decide +kernel
theorem r137_19 : am_at 137 19 = some (.iaload, 1, []) := by decide +kernel
theorem r137_20 : am_at 137 20 = some (.iload_n 1, 1, [1]) := by decide +kernel
theorem r137_21 : am_at 137 21 = some (.if_icmp .eq (7), 3, [28]) := by decide +kernel
theorem r137_24 : am_at 137 24 = some (.iconst (1), 1, []) := by decide +kernel
theorem r137_25 : am_at 137 25 = some (.goto (4), 3, [29]) := by decide +kernel
theorem r137_28 : am_at 137 28 = some (.iconst (0), 1, []) := by decide +kernel
theorem r137_29 : am_at 137 29 = some (.istore_n 2, 1, [2]) := by decide +kernel
theorem r137_30 : am_at 137 30 = some (.iinc 3 (1), 3, [3]) := by decide +kernel
theorem r137_33 : am_at 137 33 = some (.goto (-29), 3, [4]) := by decide +kernel
theorem r137_36 : am_at 137 36 = some (.iload_n 2, 1, [2]) := by decide +kernel
theorem r137_37 : am_at 137 37 = some (.ireturn, 1, []) := by decide +kernel
theorem rt137 : am_rtt 137 = some (some .boolean) := by decide +kernel
set_option maxRecDepth 100000 in
theorem pg137 : am_pg[137]? = some am_m137 := rfl
theorem m137_L4_w {d : Nat} {N : Nat} {D : am_D} {v1 : Int32} {mc ms : Nat} {Q : am_O → am_AH → Prop} (hd : 1 ≤ d) : ∀ (n : Nat) (v2 : Int32) (v3 : Int32) {q : Int32} (h : m137_L4 N D v1  n v2 v3 = some q) (k0 : am_X xs L 137 d mc ms 36 [.ref 106, am_dead, .int q, am_dead] [] (am_mk D) 0 0 Q), am_X xs L 137 d mc ms 4 [.ref 106, .int v1, .int v2, .int v3] [] (am_mk D) 0 0 Q := by
  intro n
  induction n with
  | zero =>
    intro v2 v3 q h k0
    exact (nomatch (show none = some q from h))
  | succ n ih =>
    intro v2 v3 q h k0
    rw [m137_L4] at h
    refine x_ld (v := .int v3) r137_4 rfl rfl rfl ?_
    refine x_bi (v := 28) r137_5 rfl rfl ?_
    rcases am_ifE h with ⟨c1, h⟩ | ⟨c1, h⟩
    · refine x_icgeT r137_7 c1 ?_
      refine x_forget (lc0 := [.ref 106, am_dead, .int v2, am_dead]) ⟨Or.inl rfl, Or.inr ⟨rfl, rfl⟩, Or.inl rfl, Or.inr ⟨rfl, rfl⟩, trivial⟩ ?_
      cases h
      exact k0
    · refine x_icgeF r137_7 c1 rfl ?_
      refine x_ld (v := .int v2) r137_10 rfl rfl rfl ?_
      obtain ⟨q2, h4, h⟩ := Option.bind_eq_some_iff.mp h
      have kj3 : am_X xs L 137 d mc ms 29 [.ref 106, .int v1, .int v2, .int v3] [.int q2] (am_mk D) 0 0 Q := by
        refine x_sto (lc' := [.ref 106, .int v1, .int q2, .int v3]) r137_29 rfl rfl rfl rfl ?_
        obtain ⟨x8, e9, h⟩ := am_ltE h
        refine x_sto (lc' := [.ref 106, .int v1, .int q2, .int x8]) r137_30 rfl rfl (by subst e9; rfl) rfl ?_
        refine x_goto r137_33 ?_
        exact x_forget (lc0 := [.ref 106, .int v1, .int q2, .int x8]) ⟨Or.inl rfl, Or.inl rfl, Or.inl rfl, Or.inl rfl, trivial⟩ (ih q2 x8 h k0)
      rcases am_ifE h4 with ⟨c5, h4⟩ | ⟨c5, h4⟩
      · refine x_ifeqT r137_11 c5 ?_
        refine x_ic (v := 0) r137_28 rfl rfl ?_
        cases h4
        exact kj3
      · refine x_ifeqF r137_11 c5 rfl ?_
        refine x_ld (v := .ref 106) r137_14 rfl rfl rfl ?_
        refine y_gf (cd := 117) (v := .ref 115) r137_15 rfl rfl rfl ?_
        refine x_ld (v := .int v3) r137_18 rfl rfl rfl ?_
        obtain ⟨g6, h4⟩ := am_gdE h4
        refine y_ial (n := 28) r137_19 rfl (by decide) g6 rfl rfl ?_
        refine x_ld (v := .int v1) r137_20 rfl rfl rfl ?_
        rcases am_ifE h4 with ⟨c7, h4⟩ | ⟨c7, h4⟩
        · refine x_iceqT r137_21 c7 ?_
          refine x_ic (v := 0) r137_28 rfl rfl ?_
          cases h4
          exact kj3
        · refine x_iceqF r137_21 c7 rfl ?_
          refine x_ic (v := 1) r137_24 rfl rfl ?_
          refine x_goto r137_25 ?_
          cases h4
          exact kj3
theorem m137_w {d mc ms : Nat} {N : Nat} {D : am_D} {v1 : Int32} {Q : am_O → am_AH → Prop} (hd : 1 ≤ d) {r : Int32} (h : m137 N D v1 = some r) (hQ : Q (.inl (some (.int r))) (am_mk D)) : am_X xs L 137 d mc ms 0 [.ref 106, .int v1, am_dead, am_dead] [] (am_mk D) 0 0 Q := by
  unfold m137 at h
  refine x_ic (v := 1) r137_0 rfl rfl ?_
  refine x_sto (lc' := [.ref 106, .int v1, .int (1 : Int32), am_dead]) r137_1 rfl rfl rfl rfl ?_
  refine x_ic (v := 0) r137_2 rfl rfl ?_
  refine x_sto (lc' := [.ref 106, .int v1, .int (1 : Int32), .int (0 : Int32)]) r137_3 rfl rfl rfl rfl ?_
  obtain ⟨q10, h11, h⟩ := Option.bind_eq_some_iff.mp h
  refine x_forget (lc0 := [.ref 106, .int v1, .int (1 : Int32), .int (0 : Int32)]) ⟨Or.inl rfl, Or.inl rfl, Or.inl rfl, Or.inl rfl, trivial⟩ (m137_L4_w hd N (1 : Int32) (0 : Int32) h11 ?_)
  refine x_ld (v := .int q10) r137_36 rfl rfl rfl ?_
  obtain ⟨g12, h⟩ := am_gdE h
  cases h
  exact x_ret (ret := some .boolean) (C := narrow .boolean (.int _) = .int _) (v := some (.int _)) r137_37 rt137 rfl rfl rfl rfl rfl rfl rfl rfl (congrArg Value.int g12) hQ
theorem m137_ok {N : Nat} {D : am_D} {v1 : Int32} {r : Int32} (h : m137 N D v1 = some r) : am_Y xs L 137 1 0 0 [.ref 106, .int v1] D (.inl (some (.int r))) D := am_Yof (mi := am_m137) (lc := [.ref 106, .int v1, am_dead, am_dead]) pg137 (Nat.le_of_ble_eq_true rfl) (am_rc1 (ci := 8) rfl rfl rfl rfl rfl) rfl (fun Q hQ => m137_w (Nat.le_refl _) h hQ)
end XE
