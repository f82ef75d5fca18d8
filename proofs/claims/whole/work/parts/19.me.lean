/-! methods as functions, with their walks (by wip/tools/decomp.py): 107 108 109 110 111 112 113 114 115 116 117 118 -/
section XE
variable {xs : Nat → Int32} {L : Nat}
theorem r107_0 : am_at 107 0 = some (.iload_n 2, 1, [2]) := by decide +kernel
theorem r107_1 : am_at 107 1 = some (.tableswitch (98) (0) (5) #[39, 46, 53, 59, 69, 75], 39, [99, 0, 40, 1, 47, 2, 54, 3, 60, 4, 70, 5, 76]) := by decide +kernel
theorem r107_40 : am_at 107 40 = some (.aload_n 0, 1, [0]) := by decide +kernel
theorem r107_41 : am_at 107 41 = some (.getfield 16, 3, [8, 9, 3, 1224]) := by decide +kernel
theorem r107_44 : am_at 107 44 = some (.iload_n 1, 1, [1]) := by decide +kernel
theorem r107_45 : am_at 107 45 = some (.iaload, 1, []) := by decide +kernel
theorem r107_46 : am_at 107 46 = some (.ireturn, 1, []) := by decide +kernel
theorem r107_47 : am_at 107 47 = some (.aload_n 0, 1, [0]) := by decide +kernel
theorem r107_48 : am_at 107 48 = some (.getfield 19, 3, [8, 10, 3, 1225]) := by decide +kernel
theorem r107_51 : am_at 107 51 = some (.iload_n 1, 1, [1]) := by decide +kernel
theorem r107_52 : am_at 107 52 = some (.iaload, 1, []) := by decide +kernel
theorem r107_53 : am_at 107 53 = some (.ireturn, 1, []) := by decide +kernel
theorem r107_54 : am_at 107 54 = some (.aload_n 0, 1, [0]) := by decide +kernel
theorem r107_55 : am_at 107 55 = some (.iload_n 1, 1, [1]) := by decide +kernel
theorem r107_56 : am_at 107 56 = some (.invokevirtual 73, 3, [51, 2, 1410, 0]) := by decide +kernel
theorem r107_59 : am_at 107 59 = some (.ireturn, 1, []) := by decide +kernel
theorem r107_60 : am_at 107 60 = some (.aload_n 0, 1, [0]) := by decide +kernel
theorem r107_61 : am_at 107 61 = some (.getfield 7, 3, [8, 1, 3, 1216]) := by decide +kernel
theorem r107_64 : am_at 107 64 = some (.bipush (25), 2, []) := by decide +kernel
theorem r107_66 : am_at 107 66 = some (.iload_n 1, 1, [1]) := by decide +kernel
theorem r107_67 : am_at 107 67 = some (.iadd, 1, []) := by decide +kernel
theorem r107_68 : am_at 107 68 = some (.iaload, 1, []) := by decide +kernel
theorem r107_69 : am_at 107 69 = some (.ireturn, 1, []) := by decide +kernel
theorem r107_70 : am_at 107 70 = some (.aload_n 0, 1, [0]) := by decide +kernel
theorem r107_71 : am_at 107 71 = some (.iload_n 1, 1, [1]) := by decide +kernel
theorem r107_72 : am_at 107 72 = some (.invokevirtual 222, 3, [106, 2, 1540, 0]) := by decide +kernel
theorem r107_75 : am_at 107 75 = some (.ireturn, 1, []) := by decide +kernel
theorem r107_76 : am_at 107 76 = some (.aload_n 0, 1, [0]) := by decide +kernel
theorem r107_77 : am_at 107 77 = some (.iconst (4), 1, []) := by decide +kernel
theorem r107_78 : am_at 107 78 = some (.iload_n 1, 1, [1]) := by decide +kernel
theorem r107_79 : am_at 107 79 = some (.invokevirtual 69, 3, [56, 3, 1315, 0]) := by decide +kernel
theorem r107_82 : am_at 107 82 = some (.ifCond .eq (15), 3, [97]) := by decide +kernel
theorem r107_85 : am_at 107 85 = some (.aload_n 0, 1, [0]) := by decide +kernel
theorem r107_86 : am_at 107 86 = some (.getfield 7, 3, [8, 1, 3, 1216]) := by decide +kernel
theorem r107_89 : am_at 107 89 = some (.bipush (53), 2, []) := by decide +kernel
theorem r107_91 : am_at 107 91 = some (.iload_n 1, 1, [1]) := by decide +kernel
theorem r107_92 : am_at 107 92 = some (.iadd, 1, []) := by decide +kernel
theorem r107_93 : am_at 107 93 = some (.iaload, 1, []) := by decide +kernel
theorem r107_94 : am_at 107 94 = some (.goto (4), 3, [98]) := by decide +kernel
theorem r107_97 : am_at 107 97 = some (.iconst (-1), 1, []) := by decide +kernel
theorem r107_98 : am_at 107 98 = some (.ireturn, 1, []) := by decide +kernel
theorem r107_99 : am_at 107 99 = some (.aload_n 0, 1, [0]) := by decide +kernel
theorem r107_100 : am_at 107 100 = some (.iload_n 1, 1, [1]) := by decide +kernel
theorem r107_101 : am_at 107 101 = some (.invokevirtual 105, 3, [63, 2, 1433, 0]) := by decide +kernel
theorem r107_104 : am_at 107 104 = some (.ifCond .eq (7), 3, [111]) := by decide +kernel
theorem r107_107 : am_at 107 107 = some (.iconst (1), 1, []) := by decide +kernel
theorem r107_108 : am_at 107 108 = some (.goto (4), 3, [112]) := by decide +kernel
theorem r107_111 : am_at 107 111 = some (.iconst (0), 1, []) := by decide +kernel
theorem r107_112 : am_at 107 112 = some (.ireturn, 1, []) := by decide +kernel
theorem rt107 : am_rtt 107 = some (some .int) := by decide +kernel
set_option maxRecDepth 100000 in
theorem pg107 : am_pg[107]? = some am_m107 := rfl
theorem m107_w {d mc ms : Nat} {N : Nat} {D : am_D} {v1 : Int32} {v2 : Int32} {Q : am_O → am_AH → Prop} (hd : 6 ≤ d) {r : Int32} (h : m107 N D v1 v2 = some r) (hQ : Q (.inl (some (.int r))) (am_mk D)) : am_X xs L 107 d mc ms 0 [.ref 106, .int v1, .int v2] [] (am_mk D) 0 0 Q := by
  unfold m107 at h
  refine x_ld (v := .int v2) r107_0 rfl rfl rfl ?_
  rcases am_ifE h with ⟨c1, h⟩ | ⟨c1, h⟩
  · refine x_tsw (p' := 40) r107_1 (am_swT c1) ?_
    refine x_ld (v := .ref 106) r107_40 rfl rfl rfl ?_
    refine y_gf (cd := 111) (v := .ref 109) r107_41 rfl rfl rfl ?_
    refine x_ld (v := .int v1) r107_44 rfl rfl rfl ?_
    obtain ⟨g2, h⟩ := am_gdE h
    refine y_ial (n := 28) r107_45 rfl (by decide) g2 rfl rfl ?_
    cases h
    exact x_ret (ret := some .int) (C := True) (v := some (.int _)) r107_46 rt107 rfl rfl rfl rfl rfl rfl rfl rfl trivial hQ
  · rcases am_ifE h with ⟨c3, h⟩ | ⟨c3, h⟩
    · refine x_tsw (p' := 47) r107_1 (am_swF c1 (am_swT c3)) ?_
      refine x_ld (v := .ref 106) r107_47 rfl rfl rfl ?_
      refine y_gf (cd := 112) (v := .ref 110) r107_48 rfl rfl rfl ?_
      refine x_ld (v := .int v1) r107_51 rfl rfl rfl ?_
      obtain ⟨g4, h⟩ := am_gdE h
      refine y_ial (n := 28) r107_52 rfl (by decide) g4 rfl rfl ?_
      cases h
      exact x_ret (ret := some .int) (C := True) (v := some (.int _)) r107_53 rt107 rfl rfl rfl rfl rfl rfl rfl rfl trivial hQ
    · rcases am_ifE h with ⟨c5, h⟩ | ⟨c5, h⟩
      · refine x_tsw (p' := 54) r107_1 (am_swF c1 (am_swF c3 (am_swT c5))) ?_
        refine x_ld (v := .ref 106) r107_54 rfl rfl rfl ?_
        refine x_ld (v := .int v1) r107_55 rfl rfl rfl ?_
        obtain ⟨q6, h7, h⟩ := Option.bind_eq_some_iff.mp h
        refine x_call1 (as := [.ref 106, .int v1]) (rest := []) r107_56 rfl rfl rfl (by decide) (Nat.le_of_ble_eq_true rfl) (m51_ok h7) (Nat.le_trans (by decide) hd) (Nat.zero_le _) (Nat.zero_le _) rfl ?_
        cases h
        exact x_ret (ret := some .int) (C := True) (v := some (.int _)) r107_59 rt107 rfl rfl rfl rfl rfl rfl rfl rfl trivial hQ
      · rcases am_ifE h with ⟨c8, h⟩ | ⟨c8, h⟩
        · refine x_tsw (p' := 60) r107_1 (am_swF c1 (am_swF c3 (am_swF c5 (am_swT c8)))) ?_
          refine x_ld (v := .ref 106) r107_60 rfl rfl rfl ?_
          refine y_gf (cd := 109) (v := .ref 107) r107_61 rfl rfl rfl ?_
          refine x_bi (v := 25) r107_64 rfl rfl ?_
          refine x_ld (v := .int v1) r107_66 rfl rfl rfl ?_
          refine x_ar r107_67 rfl trivial rfl ?_
          obtain ⟨g9, h⟩ := am_gdE h
          refine y_ial (n := 1320) r107_68 rfl (by decide) g9 rfl rfl ?_
          cases h
          exact x_ret (ret := some .int) (C := True) (v := some (.int _)) r107_69 rt107 rfl rfl rfl rfl rfl rfl rfl rfl trivial hQ
        · rcases am_ifE h with ⟨c10, h⟩ | ⟨c10, h⟩
          · refine x_tsw (p' := 70) r107_1 (am_swF c1 (am_swF c3 (am_swF c5 (am_swF c8 (am_swT c10))))) ?_
            refine x_ld (v := .ref 106) r107_70 rfl rfl rfl ?_
            refine x_ld (v := .int v1) r107_71 rfl rfl rfl ?_
            obtain ⟨q11, h12, h⟩ := Option.bind_eq_some_iff.mp h
            refine x_call1 (as := [.ref 106, .int v1]) (rest := []) r107_72 rfl rfl rfl (by decide) (Nat.le_of_ble_eq_true rfl) (m106_ok h12) (Nat.le_trans (by decide) hd) (Nat.zero_le _) (Nat.zero_le _) rfl ?_
            cases h
            exact x_ret (ret := some .int) (C := True) (v := some (.int _)) r107_75 rt107 rfl rfl rfl rfl rfl rfl rfl rfl trivial hQ
          · rcases am_ifE h with ⟨c13, h⟩ | ⟨c13, h⟩
            · refine x_tsw (p' := 76) r107_1 (am_swF c1 (am_swF c3 (am_swF c5 (am_swF c8 (am_swF c10 (am_swT c13)))))) ?_
              refine x_ld (v := .ref 106) r107_76 rfl rfl rfl ?_
              refine x_ic (v := 4) r107_77 rfl rfl ?_
              refine x_ld (v := .int v1) r107_78 rfl rfl rfl ?_
              obtain ⟨q14, h15, h⟩ := Option.bind_eq_some_iff.mp h
              refine x_call1 (as := [.ref 106, .int (4 : Int32), .int v1]) (rest := []) r107_79 rfl rfl rfl (by decide) (Nat.le_of_ble_eq_true rfl) (m56_ok h15) (Nat.le_trans (by decide) hd) (Nat.zero_le _) (Nat.zero_le _) rfl ?_
              rcases am_ifE h with ⟨c16, h⟩ | ⟨c16, h⟩
              · refine x_ifeqT r107_82 c16 ?_
                refine x_ic (v := -1) r107_97 rfl rfl ?_
                cases h
                exact x_ret (ret := some .int) (C := True) (v := some (.int _)) r107_98 rt107 rfl rfl rfl rfl rfl rfl rfl rfl trivial hQ
              · refine x_ifeqF r107_82 c16 rfl ?_
                refine x_ld (v := .ref 106) r107_85 rfl rfl rfl ?_
                refine y_gf (cd := 109) (v := .ref 107) r107_86 rfl rfl rfl ?_
                refine x_bi (v := 53) r107_89 rfl rfl ?_
                refine x_ld (v := .int v1) r107_91 rfl rfl rfl ?_
                refine x_ar r107_92 rfl trivial rfl ?_
                obtain ⟨g17, h⟩ := am_gdE h
                refine y_ial (n := 1320) r107_93 rfl (by decide) g17 rfl rfl ?_
                refine x_goto r107_94 ?_
                cases h
                exact x_ret (ret := some .int) (C := True) (v := some (.int _)) r107_98 rt107 rfl rfl rfl rfl rfl rfl rfl rfl trivial hQ
            · refine x_tsw (p' := 99) r107_1 (am_swF c1 (am_swF c3 (am_swF c5 (am_swF c8 (am_swF c10 (am_swF c13 (rfl))))))) ?_
              refine x_ld (v := .ref 106) r107_99 rfl rfl rfl ?_
              refine x_ld (v := .int v1) r107_100 rfl rfl rfl ?_
              obtain ⟨q18, h19, h⟩ := Option.bind_eq_some_iff.mp h
              refine x_call1 (as := [.ref 106, .int v1]) (rest := []) r107_101 rfl rfl rfl (by decide) (Nat.le_of_ble_eq_true rfl) (m63_ok h19) (Nat.le_trans (by decide) hd) (Nat.zero_le _) (Nat.zero_le _) rfl ?_
              rcases am_ifE h with ⟨c20, h⟩ | ⟨c20, h⟩
              · refine x_ifeqT r107_104 c20 ?_
                refine x_ic (v := 0) r107_111 rfl rfl ?_
                cases h
                exact x_ret (ret := some .int) (C := True) (v := some (.int _)) r107_112 rt107 rfl rfl rfl rfl rfl rfl rfl rfl trivial hQ
              · refine x_ifeqF r107_104 c20 rfl ?_
                refine x_ic (v := 1) r107_107 rfl rfl ?_
                refine x_goto r107_108 ?_
                cases h
                exact x_ret (ret := some .int) (C := True) (v := some (.int _)) r107_112 rt107 rfl rfl rfl rfl rfl rfl rfl rfl trivial hQ
theorem m107_ok {N : Nat} {D : am_D} {v1 : Int32} {v2 : Int32} {r : Int32} (h : m107 N D v1 v2 = some r) : am_Y xs L 107 6 0 0 [.ref 106, .int v1, .int v2] D (.inl (some (.int r))) D := am_Yof (mi := am_m107) (lc := [.ref 106, .int v1, .int v2]) pg107 (Nat.le_of_ble_eq_true rfl) (am_rc1 (ci := 8) rfl rfl rfl rfl rfl) rfl (fun Q hQ => m107_w (Nat.le_refl _) h hQ)
theorem r108_0 : am_at 108 0 = some (.aload_n 0, 1, [0]) := by decide +kernel
theorem r108_1 : am_at 108 1 = some (.iload_n 1, 1, [1]) := by decide +kernel
theorem r108_2 : am_at 108 2 = some (.invokestatic 136, 3, [49, 1, 1308, 0]) := by decide +kernel
theorem r108_5 : am_at 108 5 = some (.ifCond .ne (7), 3, [12]) := by decide +kernel
theorem r108_8 : am_at 108 8 = some (.iconst (1), 1, []) := by decide +kernel
theorem r108_9 : am_at 108 9 = some (.goto (18), 3, [27]) := by decide +kernel
theorem r108_12 : am_at 108 12 = some (.iload_n 2, 1, [2]) := by decide +kernel
theorem r108_13 : am_at 108 13 = some (.iconst (0), 1, []) := by decide +kernel
theorem r108_14 : am_at 108 14 = some (.bipush (6), 2, []) := by decide +kernel
theorem r108_16 : am_at 108 16 = some (.invokestatic 65, 3, [46, 3, 1305, 0]) := by decide +kernel
theorem r108_19 : am_at 108 19 = some (.ifCond .ne (7), 3, [26]) := by decide +kernel
theorem r108_22 : am_at 108 22 = some (.iconst (2), 1, []) := by decide +kernel
theorem r108_23 : am_at 108 23 = some (.goto (4), 3, [27]) := by decide +kernel
theorem r108_26 : am_at 108 26 = some (.iconst (0), 1, []) := by decide +kernel
theorem r108_27 : am_at 108 27 = some (.invokevirtual 142, 3, [47, 2, 1323, 0]) := by decide +kernel
theorem r108_30 : am_at 108 30 = some (.ifCond .eq (12), 3, [42]) := by decide +kernel
theorem r108_33 : am_at 108 33 = some (.aload_n 0, 1, [0]) := by decide +kernel
theorem r108_34 : am_at 108 34 = some (.iload_n 1, 1, [1]) := by decide +kernel
theorem r108_35 : am_at 108 35 = some (.iload_n 2, 1, [2]) := by decide +kernel
theorem r108_36 : am_at 108 36 = some (.invokevirtual 225, 3, [107, 3, 1536, 0]) := by decide +kernel
theorem r108_39 : am_at 108 39 = some (.goto (4), 3, [43]) := by decide +kernel
theorem r108_42 : am_at 108 42 = some (.iconst (0), 1, []) := by decide +kernel
theorem r108_43 : am_at 108 43 = some (.ireturn, 1, []) := by decide +kernel
theorem rt108 : am_rtt 108 = some (some .int) := by decide +kernel
set_option maxRecDepth 100000 in
theorem pg108 : am_pg[108]? = some am_m108 := rfl
theorem m108_w {d mc ms : Nat} {N : Nat} {D : am_D} {v1 : Int32} {v2 : Int32} {Q : am_O → am_AH → Prop} (hd : 7 ≤ d) {r : Int32 × am_D} (h : m108 N D v1 v2 = some r) (hQ : Q (.inl (some (.int r.1))) (am_mk r.2)) : am_X xs L 108 d mc ms 0 [.ref 106, .int v1, .int v2] [] (am_mk D) 0 0 Q := by
  unfold m108 at h
  refine x_ld (v := .ref 106) r108_0 rfl rfl rfl ?_
  refine x_ld (v := .int v1) r108_1 rfl rfl rfl ?_
  refine x_call1 (as := [.int v1]) (rest := [.ref 106]) r108_2 rfl rfl rfl (by decide) (Nat.le_of_ble_eq_true rfl) (m49_ok rfl) (Nat.le_trans (by decide) hd) (Nat.zero_le _) (Nat.zero_le _) rfl ?_
  obtain ⟨q1, h3, h⟩ := am_ltE h
  replace h3 := h3.symm
  have kj2 : am_X xs L 108 d mc ms 27 [.ref 106, .int v1, .int v2] [.int q1, .ref 106] (am_mk D) 0 0 Q := by
    obtain ⟨q6, h7, h⟩ := am_ltE h
    replace h7 := h7.symm
    refine x_call1 (as := [.ref 106, .int q1]) (rest := []) r108_27 rfl rfl rfl (by decide) (Nat.le_of_ble_eq_true rfl) (m47_ok h7) (Nat.le_trans (by decide) hd) (Nat.zero_le _) (Nat.zero_le _) rfl ?_
    rcases am_ifE h with ⟨c8, h⟩ | ⟨c8, h⟩
    · refine x_ifeqT r108_30 c8 ?_
      refine x_ic (v := 0) r108_42 rfl rfl ?_
      cases h
      exact x_ret (ret := some .int) (C := True) (v := some (.int _)) r108_43 rt108 rfl rfl rfl rfl rfl rfl rfl rfl trivial hQ
    · refine x_ifeqF r108_30 c8 rfl ?_
      refine x_ld (v := .ref 106) r108_33 rfl rfl rfl ?_
      refine x_ld (v := .int v1) r108_34 rfl rfl rfl ?_
      refine x_ld (v := .int v2) r108_35 rfl rfl rfl ?_
      obtain ⟨q9, h10, h⟩ := Option.bind_eq_some_iff.mp h
      refine x_call1 (as := [.ref 106, .int v1, .int v2]) (rest := []) r108_36 rfl rfl rfl (by decide) (Nat.le_of_ble_eq_true rfl) (m107_ok h10) (Nat.le_trans (by decide) hd) (Nat.zero_le _) (Nat.zero_le _) rfl ?_
      refine x_goto r108_39 ?_
      cases h
      exact x_ret (ret := some .int) (C := True) (v := some (.int _)) r108_43 rt108 rfl rfl rfl rfl rfl rfl rfl rfl trivial hQ
  rcases am_ifE h3 with ⟨c4, h3⟩ | ⟨c4, h3⟩
  · refine x_ifneT r108_5 c4 rfl ?_
    refine x_ic (v := 1) r108_8 rfl rfl ?_
    refine x_goto r108_9 ?_
    subst h3
    exact kj2
  · refine x_ifneF r108_5 c4 ?_
    refine x_ld (v := .int v2) r108_12 rfl rfl rfl ?_
    refine x_ic (v := 0) r108_13 rfl rfl ?_
    refine x_bi (v := 6) r108_14 rfl rfl ?_
    refine x_call1 (as := [.int v2, .int (0 : Int32), .int (6 : Int32)]) (rest := [.ref 106]) r108_16 rfl rfl rfl (by decide) (Nat.le_of_ble_eq_true rfl) (m46_ok rfl) (Nat.le_trans (by decide) hd) (Nat.zero_le _) (Nat.zero_le _) rfl ?_
    rcases am_ifE h3 with ⟨c5, h3⟩ | ⟨c5, h3⟩
    · refine x_ifneT r108_19 c5 rfl ?_
      refine x_ic (v := 2) r108_22 rfl rfl ?_
      refine x_goto r108_23 ?_
      subst h3
      exact kj2
    · refine x_ifneF r108_19 c5 ?_
      refine x_ic (v := 0) r108_26 rfl rfl ?_
      subst h3
      exact kj2
theorem m108_ok {N : Nat} {D : am_D} {v1 : Int32} {v2 : Int32} {r : Int32 × am_D} (h : m108 N D v1 v2 = some r) : am_Y xs L 108 7 0 0 [.ref 106, .int v1, .int v2] D (.inl (some (.int r.1))) r.2 := am_Yof (mi := am_m108) (lc := [.ref 106, .int v1, .int v2]) pg108 (Nat.le_of_ble_eq_true rfl) (am_rc1 (ci := 8) rfl rfl rfl rfl rfl) rfl (fun Q hQ => m108_w (Nat.le_refl _) h hQ)
theorem r109_0 : am_at 109 0 = some (.aload_n 0, 1, [0]) := by decide +kernel
theorem r109_1 : am_at 109 1 = some (.iload_n 1, 1, [1]) := by decide +kernel
theorem r109_2 : am_at 109 2 = some (.iconst (0), 1, []) := by decide +kernel
theorem r109_3 : am_at 109 3 = some (.bipush (6), 2, []) := by decide +kernel
theorem r109_5 : am_at 109 5 = some (.invokestatic 65, 3, [46, 3, 1305, 0]) := by decide +kernel
theorem r109_8 : am_at 109 8 = some (.ifCond .eq (17), 3, [25]) := by decide +kernel
theorem r109_11 : am_at 109 11 = some (.iload_n 2, 1, [2]) := by decide +kernel
theorem r109_12 : am_at 109 12 = some (.iconst (0), 1, []) := by decide +kernel
theorem r109_13 : am_at 109 13 = some (.bipush (6), 2, []) := by decide +kernel
theorem r109_15 : am_at 109 15 = some (.invokestatic 65, 3, [46, 3, 1305, 0]) := by decide +kernel
theorem r109_18 : am_at 109 18 = some (.ifCond .eq (7), 3, [25]) := by decide +kernel
theorem r109_21 : am_at 109 21 = some (.iconst (0), 1, []) := by decide +kernel
theorem r109_22 : am_at 109 22 = some (.goto (4), 3, [26]) := by decide +kernel
theorem r109_25 : am_at 109 25 = some (.iconst (1), 1, []) := by decide +kernel
theorem r109_26 : am_at 109 26 = some (.invokevirtual 142, 3, [47, 2, 1323, 0]) := by decide +kernel
theorem r109_29 : am_at 109 29 = some (.ifCond .eq (11), 3, [40]) := by decide +kernel
theorem r109_32 : am_at 109 32 = some (.iload_n 1, 1, [1]) := by decide +kernel
theorem r109_33 : am_at 109 33 = some (.iload_n 2, 1, [2]) := by decide +kernel
theorem r109_34 : am_at 109 34 = some (.invokestatic 188, 3, [55, 2, 1501, 0]) := by decide +kernel
theorem r109_37 : am_at 109 37 = some (.goto (4), 3, [41]) := by decide +kernel
theorem r109_40 : am_at 109 40 = some (.iconst (0), 1, []) := by decide +kernel
theorem r109_41 : am_at 109 41 = some (.ireturn, 1, []) := by decide +kernel
theorem rt109 : am_rtt 109 = some (some .int) := by decide +kernel
set_option maxRecDepth 100000 in
theorem pg109 : am_pg[109]? = some am_m109 := rfl
theorem m109_w {d mc ms : Nat} {D : am_D} {v1 : Int32} {v2 : Int32} {Q : am_O → am_AH → Prop} (hd : 2 ≤ d) {r : Int32 × am_D} (h : m109 D v1 v2 = r) (hQ : Q (.inl (some (.int r.1))) (am_mk r.2)) : am_X xs L 109 d mc ms 0 [.ref 106, .int v1, .int v2] [] (am_mk D) 0 0 Q := by
  unfold m109 at h
  refine x_ld (v := .ref 106) r109_0 rfl rfl rfl ?_
  refine x_ld (v := .int v1) r109_1 rfl rfl rfl ?_
  refine x_ic (v := 0) r109_2 rfl rfl ?_
  refine x_bi (v := 6) r109_3 rfl rfl ?_
  refine x_call1 (as := [.int v1, .int (0 : Int32), .int (6 : Int32)]) (rest := [.ref 106]) r109_5 rfl rfl rfl (by decide) (Nat.le_of_ble_eq_true rfl) (m46_ok rfl) (Nat.le_trans (by decide) hd) (Nat.zero_le _) (Nat.zero_le _) rfl ?_
  obtain ⟨q1, h3, h⟩ := am_ltE h
  replace h3 := h3.symm
  have kj2 : am_X xs L 109 d mc ms 26 [.ref 106, .int v1, .int v2] [.int q1, .ref 106] (am_mk D) 0 0 Q := by
    obtain ⟨q6, h7, h⟩ := am_ltE h
    replace h7 := h7.symm
    refine x_call1 (as := [.ref 106, .int q1]) (rest := []) r109_26 rfl rfl rfl (by decide) (Nat.le_of_ble_eq_true rfl) (m47_ok h7) (Nat.le_trans (by decide) hd) (Nat.zero_le _) (Nat.zero_le _) rfl ?_
    rcases am_ifE h with ⟨c8, h⟩ | ⟨c8, h⟩
    · refine x_ifeqT r109_29 c8 ?_
      refine x_ic (v := 0) r109_40 rfl rfl ?_
      subst h
      exact x_ret (ret := some .int) (C := True) (v := some (.int _)) r109_41 rt109 rfl rfl rfl rfl rfl rfl rfl rfl trivial hQ
    · refine x_ifeqF r109_29 c8 rfl ?_
      refine x_ld (v := .int v1) r109_32 rfl rfl rfl ?_
      refine x_ld (v := .int v2) r109_33 rfl rfl rfl ?_
      refine x_call1 (as := [.int v1, .int v2]) (rest := []) r109_34 rfl rfl rfl (by decide) (Nat.le_of_ble_eq_true rfl) (m55_ok rfl) (Nat.le_trans (by decide) hd) (Nat.zero_le _) (Nat.zero_le _) rfl ?_
      refine x_goto r109_37 ?_
      subst h
      exact x_ret (ret := some .int) (C := True) (v := some (.int _)) r109_41 rt109 rfl rfl rfl rfl rfl rfl rfl rfl trivial hQ
  rcases am_ifE h3 with ⟨c4, h3⟩ | ⟨c4, h3⟩
  · refine x_ifeqT r109_8 c4 ?_
    refine x_ic (v := 1) r109_25 rfl rfl ?_
    subst h3
    exact kj2
  · refine x_ifeqF r109_8 c4 rfl ?_
    refine x_ld (v := .int v2) r109_11 rfl rfl rfl ?_
    refine x_ic (v := 0) r109_12 rfl rfl ?_
    refine x_bi (v := 6) r109_13 rfl rfl ?_
    refine x_call1 (as := [.int v2, .int (0 : Int32), .int (6 : Int32)]) (rest := [.ref 106]) r109_15 rfl rfl rfl (by decide) (Nat.le_of_ble_eq_true rfl) (m46_ok rfl) (Nat.le_trans (by decide) hd) (Nat.zero_le _) (Nat.zero_le _) rfl ?_
    rcases am_ifE h3 with ⟨c5, h3⟩ | ⟨c5, h3⟩
    · refine x_ifeqT r109_18 c5 ?_
      refine x_ic (v := 1) r109_25 rfl rfl ?_
      subst h3
      exact kj2
    · refine x_ifeqF r109_18 c5 rfl ?_
      refine x_ic (v := 0) r109_21 rfl rfl ?_
      refine x_goto r109_22 ?_
      subst h3
      exact kj2
theorem m109_ok {D : am_D} {v1 : Int32} {v2 : Int32} {r : Int32 × am_D} (h : m109 D v1 v2 = r) : am_Y xs L 109 2 0 0 [.ref 106, .int v1, .int v2] D (.inl (some (.int r.1))) r.2 := am_Yof (mi := am_m109) (lc := [.ref 106, .int v1, .int v2]) pg109 (Nat.le_of_ble_eq_true rfl) (am_rc1 (ci := 8) rfl rfl rfl rfl rfl) rfl (fun Q hQ => m109_w (Nat.le_refl _) h hQ)
theorem r110_0 : am_at 110 0 = some (.aload_n 0, 1, [0]) := by decide +kernel
theorem r110_1 : am_at 110 1 = some (.getfield 7, 3, [8, 1, 3, 1216]) := by decide +kernel
theorem r110_4 : am_at 110 4 = some (.bipush (109), 2, []) := by decide +kernel
theorem r110_6 : am_at 110 6 = some (.iload_n 1, 1, [1]) := by decide +kernel
theorem r110_7 : am_at 110 7 = some (.iadd, 1, []) := by decide +kernel
theorem r110_8 : am_at 110 8 = some (.iaload, 1, []) := by decide +kernel
theorem r110_9 : am_at 110 9 = some (.istore_n 3, 1, [3]) := by decide +kernel
theorem r110_10 : am_at 110 10 = some (.iload_n 2, 1, [2]) := by decide +kernel
theorem r110_11 : am_at 110 11 = some (.ifCond .ne (7), 3, [18]) := by decide +kernel
theorem r110_14 : am_at 110 14 = some (.iload_n 3, 1, [3]) := by decide +kernel
theorem r110_15 : am_at 110 15 = some (.goto (43), 3, [58]) := by decide +kernel
theorem r110_18 : am_at 110 18 = some (.iload_n 2, 1, [2]) := by decide +kernel
theorem r110_19 : am_at 110 19 = some (.iconst (1), 1, []) := by decide +kernel
theorem r110_20 : am_at 110 20 = some (.if_icmp .ne (16), 3, [36]) := by decide +kernel
theorem r110_23 : am_at 110 23 = some (.aload_n 0, 1, [0]) := by decide +kernel
theorem r110_24 : am_at 110 24 = some (.getfield 7, 3, [8, 1, 3, 1216]) := by decide +kernel
theorem r110_27 : am_at 110 27 = some (.sipush (137), 3, []) := by decide +kernel
theorem r110_30 : am_at 110 30 = some (.iload_n 1, 1, [1]) := by decide +kernel
theorem r110_31 : am_at 110 31 = some (.iadd, 1, []) := by decide +kernel
theorem r110_32 : am_at 110 32 = some (.iaload, 1, []) := by decide +kernel
theorem r110_33 : am_at 110 33 = some (.goto (25), 3, [58]) := by decide +kernel
theorem r110_36 : am_at 110 36 = some (.iload_n 2, 1, [2]) := by decide +kernel
theorem r110_37 : am_at 110 37 = some (.iconst (2), 1, []) := by decide +kernel
theorem r110_38 : am_at 110 38 = some (.if_icmp .ne (11), 3, [49]) := by decide +kernel
theorem r110_41 : am_at 110 41 = some (.aload_n 0, 1, [0]) := by decide +kernel
theorem r110_42 : am_at 110 42 = some (.iload_n 1, 1, [1]) := by decide +kernel
theorem r110_43 : am_at 110 43 = some (.invokevirtual 81, 3, [60, 2, 1382, 0]) := by decide +kernel
theorem r110_46 : am_at 110 46 = some (.goto (12), 3, [58]) := by decide +kernel
theorem r110_49 : am_at 110 49 = some (.aload_n 0, 1, [0]) := by decide +kernel
theorem r110_50 : am_at 110 50 = some (.getfield 7, 3, [8, 1, 3, 1216]) := by decide +kernel
theorem r110_53 : am_at 110 53 = some (.bipush (81), 2, []) := by decide +kernel
theorem r110_55 : am_at 110 55 = some (.iload_n 3, 1, [3]) := by decide +kernel
theorem r110_56 : am_at 110 56 = some (.iadd, 1, []) := by decide +kernel
theorem r110_57 : am_at 110 57 = some (.iaload, 1, []) := by decide +kernel
theorem r110_58 : am_at 110 58 = some (.ireturn, 1, []) := by decide +kernel
theorem rt110 : am_rtt 110 = some (some .int) := by decide +kernel
set_option maxRecDepth 100000 in
theorem pg110 : am_pg[110]? = some am_m110 := rfl
theorem m110_w {d mc ms : Nat} {D : am_D} {v1 : Int32} {v2 : Int32} {Q : am_O → am_AH → Prop} (hd : 3 ≤ d) {r : Int32} (h : m110 D v1 v2 = some r) (hQ : Q (.inl (some (.int r))) (am_mk D)) : am_X xs L 110 d mc ms 0 [.ref 106, .int v1, .int v2, am_dead] [] (am_mk D) 0 0 Q := by
  unfold m110 at h
  refine x_ld (v := .ref 106) r110_0 rfl rfl rfl ?_
  refine y_gf (cd := 109) (v := .ref 107) r110_1 rfl rfl rfl ?_
  refine x_bi (v := 109) r110_4 rfl rfl ?_
  refine x_ld (v := .int v1) r110_6 rfl rfl rfl ?_
  refine x_ar r110_7 rfl trivial rfl ?_
  obtain ⟨g1, h⟩ := am_gdE h
  refine y_ial (n := 1320) r110_8 rfl (by decide) g1 rfl rfl ?_
  obtain ⟨x2, e3, h⟩ := am_ltE h
  refine am_topI e3 ?_
  refine x_sto (lc' := [.ref 106, .int v1, .int v2, .int x2]) r110_9 rfl rfl rfl rfl ?_
  refine x_ld (v := .int v2) r110_10 rfl rfl rfl ?_
  rcases am_ifE h with ⟨c4, h⟩ | ⟨c4, h⟩
  · refine x_ifneT r110_11 c4 rfl ?_
    refine x_ld (v := .int x2) r110_14 rfl rfl rfl ?_
    refine x_goto r110_15 ?_
    cases h
    exact x_ret (ret := some .int) (C := True) (v := some (.int _)) r110_58 rt110 rfl rfl rfl rfl rfl rfl rfl rfl trivial hQ
  · refine x_ifneF r110_11 c4 ?_
    refine x_ld (v := .int v2) r110_18 rfl rfl rfl ?_
    refine x_ic (v := 1) r110_19 rfl rfl ?_
    rcases am_ifE h with ⟨c5, h⟩ | ⟨c5, h⟩
    · refine x_icneT r110_20 c5 rfl ?_
      refine x_ld (v := .ref 106) r110_23 rfl rfl rfl ?_
      refine y_gf (cd := 109) (v := .ref 107) r110_24 rfl rfl rfl ?_
      refine x_si (v := 137) r110_27 rfl rfl ?_
      refine x_ld (v := .int v1) r110_30 rfl rfl rfl ?_
      refine x_ar r110_31 rfl trivial rfl ?_
      obtain ⟨g6, h⟩ := am_gdE h
      refine y_ial (n := 1320) r110_32 rfl (by decide) g6 rfl rfl ?_
      refine x_goto r110_33 ?_
      cases h
      exact x_ret (ret := some .int) (C := True) (v := some (.int _)) r110_58 rt110 rfl rfl rfl rfl rfl rfl rfl rfl trivial hQ
    · refine x_icneF r110_20 c5 ?_
      refine x_ld (v := .int v2) r110_36 rfl rfl rfl ?_
      refine x_ic (v := 2) r110_37 rfl rfl ?_
      rcases am_ifE h with ⟨c7, h⟩ | ⟨c7, h⟩
      · refine x_icneT r110_38 c7 rfl ?_
        refine x_ld (v := .ref 106) r110_41 rfl rfl rfl ?_
        refine x_ld (v := .int v1) r110_42 rfl rfl rfl ?_
        obtain ⟨q8, h9, h⟩ := Option.bind_eq_some_iff.mp h
        refine x_call1 (as := [.ref 106, .int v1]) (rest := []) r110_43 rfl rfl rfl (by decide) (Nat.le_of_ble_eq_true rfl) (m60_ok h9) (Nat.le_trans (by decide) hd) (Nat.zero_le _) (Nat.zero_le _) rfl ?_
        refine x_goto r110_46 ?_
        cases h
        exact x_ret (ret := some .int) (C := True) (v := some (.int _)) r110_58 rt110 rfl rfl rfl rfl rfl rfl rfl rfl trivial hQ
      · refine x_icneF r110_38 c7 ?_
        refine x_ld (v := .ref 106) r110_49 rfl rfl rfl ?_
        refine y_gf (cd := 109) (v := .ref 107) r110_50 rfl rfl rfl ?_
        refine x_bi (v := 81) r110_53 rfl rfl ?_
        refine x_ld (v := .int x2) r110_55 rfl rfl rfl ?_
        refine x_ar r110_56 rfl trivial rfl ?_
        obtain ⟨g10, h⟩ := am_gdE h
        refine y_ial (n := 1320) r110_57 rfl (by decide) g10 rfl rfl ?_
        cases h
        exact x_ret (ret := some .int) (C := True) (v := some (.int _)) r110_58 rt110 rfl rfl rfl rfl rfl rfl rfl rfl trivial hQ
theorem m110_ok {D : am_D} {v1 : Int32} {v2 : Int32} {r : Int32} (h : m110 D v1 v2 = some r) : am_Y xs L 110 3 0 0 [.ref 106, .int v1, .int v2] D (.inl (some (.int r))) D := am_Yof (mi := am_m110) (lc := [.ref 106, .int v1, .int v2, am_dead]) pg110 (Nat.le_of_ble_eq_true rfl) (am_rc1 (ci := 8) rfl rfl rfl rfl rfl) rfl (fun Q hQ => m110_w (Nat.le_refl _) h hQ)
theorem r111_0 : am_at 111 0 = some (.aload_n 0, 1, [0]) := by decide +kernel
theorem r111_1 : am_at 111 1 = some (.iload_n 1, 1, [1]) := by decide +kernel
theorem r111_2 : am_at 111 2 = some (.ifCond .ge (7), 3, [9]) := by decide +kernel
theorem r111_5 : am_at 111 5 = some (.iconst (1), 1, []) := by decide +kernel
theorem r111_6 : am_at 111 6 = some (.goto (17), 3, [23]) := by decide +kernel
theorem r111_9 : am_at 111 9 = some (.iload_n 2, 1, [2]) := by decide +kernel
theorem r111_10 : am_at 111 10 = some (.iconst (0), 1, []) := by decide +kernel
theorem r111_11 : am_at 111 11 = some (.iconst (3), 1, []) := by decide +kernel
theorem r111_12 : am_at 111 12 = some (.invokestatic 65, 3, [46, 3, 1305, 0]) := by decide +kernel
theorem r111_15 : am_at 111 15 = some (.ifCond .ne (7), 3, [22]) := by decide +kernel
theorem r111_18 : am_at 111 18 = some (.iconst (2), 1, []) := by decide +kernel
theorem r111_19 : am_at 111 19 = some (.goto (4), 3, [23]) := by decide +kernel
theorem r111_22 : am_at 111 22 = some (.iconst (0), 1, []) := by decide +kernel
theorem r111_23 : am_at 111 23 = some (.invokevirtual 142, 3, [47, 2, 1323, 0]) := by decide +kernel
theorem r111_26 : am_at 111 26 = some (.ifCond .ne (5), 3, [31]) := by decide +kernel
theorem r111_29 : am_at 111 29 = some (.iconst (0), 1, []) := by decide +kernel
theorem r111_30 : am_at 111 30 = some (.ireturn, 1, []) := by decide +kernel
theorem r111_31 : am_at 111 31 = some (.iload_n 1, 1, [1]) := by decide +kernel
theorem r111_32 : am_at 111 32 = some (.aload_n 0, 1, [0]) := by decide +kernel
theorem r111_33 : am_at 111 33 = some (.getfield 7, 3, [8, 1, 3, 1216]) := by decide +kernel
theorem r111_36 : am_at 111 36 = some (.bipush (12), 2, []) := by decide +kernel
theorem r111_38 : am_at 111 38 = some (.iaload, 1, []) := by decide +kernel
theorem r111_39 : am_at 111 39 = some (.if_icmp .ge (12), 3, [51]) := by decide +kernel
theorem r111_42 : am_at 111 42 = some (.aload_n 0, 1, [0]) := by decide +kernel
theorem r111_43 : am_at 111 43 = some (.iload_n 1, 1, [1]) := by decide +kernel
theorem r111_44 : am_at 111 44 = some (.iload_n 2, 1, [2]) := by decide +kernel
theorem r111_45 : am_at 111 45 = some (.invokevirtual 228, 3, [110, 3, 1552, 0]) := by decide +kernel
theorem r111_48 : am_at 111 48 = some (.goto (4), 3, [52]) := by decide +kernel
theorem r111_51 : am_at 111 51 = some (.iconst (-1), 1, []) := by decide +kernel
theorem r111_52 : am_at 111 52 = some (.ireturn, 1, []) := by decide +kernel
theorem rt111 : am_rtt 111 = some (some .int) := by decide +kernel
set_option maxRecDepth 100000 in
theorem pg111 : am_pg[111]? = some am_m111 := rfl
theorem m111_w {d mc ms : Nat} {D : am_D} {v1 : Int32} {v2 : Int32} {Q : am_O → am_AH → Prop} (hd : 4 ≤ d) {r : Int32 × am_D} (h : m111 D v1 v2 = some r) (hQ : Q (.inl (some (.int r.1))) (am_mk r.2)) : am_X xs L 111 d mc ms 0 [.ref 106, .int v1, .int v2] [] (am_mk D) 0 0 Q := by
  unfold m111 at h
  refine x_ld (v := .ref 106) r111_0 rfl rfl rfl ?_
  refine x_ld (v := .int v1) r111_1 rfl rfl rfl ?_
  obtain ⟨q1, h3, h⟩ := am_ltE h
  replace h3 := h3.symm
  have kj2 : am_X xs L 111 d mc ms 23 [.ref 106, .int v1, .int v2] [.int q1, .ref 106] (am_mk D) 0 0 Q := by
    obtain ⟨q6, h7, h⟩ := am_ltE h
    replace h7 := h7.symm
    refine x_call1 (as := [.ref 106, .int q1]) (rest := []) r111_23 rfl rfl rfl (by decide) (Nat.le_of_ble_eq_true rfl) (m47_ok h7) (Nat.le_trans (by decide) hd) (Nat.zero_le _) (Nat.zero_le _) rfl ?_
    rcases am_ifE h with ⟨c8, h⟩ | ⟨c8, h⟩
    · refine x_ifneT r111_26 c8 rfl ?_
      refine x_ic (v := 0) r111_29 rfl rfl ?_
      cases h
      exact x_ret (ret := some .int) (C := True) (v := some (.int _)) r111_30 rt111 rfl rfl rfl rfl rfl rfl rfl rfl trivial hQ
    · refine x_ifneF r111_26 c8 ?_
      refine x_ld (v := .int v1) r111_31 rfl rfl rfl ?_
      refine x_ld (v := .ref 106) r111_32 rfl rfl rfl ?_
      refine y_gf (cd := 109) (v := .ref 107) r111_33 rfl rfl rfl ?_
      refine x_bi (v := 12) r111_36 rfl rfl ?_
      refine y_ial (n := 1320) r111_38 rfl (by decide) (by decide) (e := 12) (by decide) rfl ?_
      rcases am_ifE h with ⟨c9, h⟩ | ⟨c9, h⟩
      · refine x_icgeT r111_39 c9 ?_
        refine x_ic (v := -1) r111_51 rfl rfl ?_
        cases h
        exact x_ret (ret := some .int) (C := True) (v := some (.int _)) r111_52 rt111 rfl rfl rfl rfl rfl rfl rfl rfl trivial hQ
      · refine x_icgeF r111_39 c9 rfl ?_
        refine x_ld (v := .ref 106) r111_42 rfl rfl rfl ?_
        refine x_ld (v := .int v1) r111_43 rfl rfl rfl ?_
        refine x_ld (v := .int v2) r111_44 rfl rfl rfl ?_
        obtain ⟨q10, h11, h⟩ := Option.bind_eq_some_iff.mp h
        refine x_call1 (as := [.ref 106, .int v1, .int v2]) (rest := []) r111_45 rfl rfl rfl (by decide) (Nat.le_of_ble_eq_true rfl) (m110_ok h11) (Nat.le_trans (by decide) hd) (Nat.zero_le _) (Nat.zero_le _) rfl ?_
        refine x_goto r111_48 ?_
        cases h
        exact x_ret (ret := some .int) (C := True) (v := some (.int _)) r111_52 rt111 rfl rfl rfl rfl rfl rfl rfl rfl trivial hQ
  rcases am_ifE h3 with ⟨c4, h3⟩ | ⟨c4, h3⟩
  · refine x_ifgeT r111_2 c4 ?_
    refine x_ld (v := .int v2) r111_9 rfl rfl rfl ?_
    refine x_ic (v := 0) r111_10 rfl rfl ?_
    refine x_ic (v := 3) r111_11 rfl rfl ?_
    refine x_call1 (as := [.int v2, .int (0 : Int32), .int (3 : Int32)]) (rest := [.ref 106]) r111_12 rfl rfl rfl (by decide) (Nat.le_of_ble_eq_true rfl) (m46_ok rfl) (Nat.le_trans (by decide) hd) (Nat.zero_le _) (Nat.zero_le _) rfl ?_
    rcases am_ifE h3 with ⟨c5, h3⟩ | ⟨c5, h3⟩
    · refine x_ifneT r111_15 c5 rfl ?_
      refine x_ic (v := 2) r111_18 rfl rfl ?_
      refine x_goto r111_19 ?_
      subst h3
      exact kj2
    · refine x_ifneF r111_15 c5 ?_
      refine x_ic (v := 0) r111_22 rfl rfl ?_
      subst h3
      exact kj2
  · refine x_ifgeF r111_2 c4 rfl ?_
    refine x_ic (v := 1) r111_5 rfl rfl ?_
    refine x_goto r111_6 ?_
    subst h3
    exact kj2
theorem m111_ok {D : am_D} {v1 : Int32} {v2 : Int32} {r : Int32 × am_D} (h : m111 D v1 v2 = some r) : am_Y xs L 111 4 0 0 [.ref 106, .int v1, .int v2] D (.inl (some (.int r.1))) r.2 := am_Yof (mi := am_m111) (lc := [.ref 106, .int v1, .int v2]) pg111 (Nat.le_of_ble_eq_true rfl) (am_rc1 (ci := 8) rfl rfl rfl rfl rfl) rfl (fun Q hQ => m111_w (Nat.le_refl _) h hQ)
theorem r112_0 : am_at 112 0 = some (.iload_n 1, 1, [1]) := by decide +kernel
theorem r112_1 : am_at 112 1 = some (.aload_n 0, 1, [0]) := by decide +kernel
theorem r112_2 : am_at 112 2 = some (.getfield 16, 3, [8, 9, 3, 1224]) := by decide +kernel
theorem r112_5 : am_at 112 5 = some (.iload_n 2, 1, [2]) := by decide +kernel
theorem r112_6 : am_at 112 6 = some (.iaload, 1, []) := by decide +kernel
theorem r112_7 : am_at 112 7 = some (.ishr, 1, []) := by decide +kernel
theorem r112_8 : am_at 112 8 = some (.iconst (1), 1, []) := by decide +kernel
theorem r112_9 : am_at 112 9 = some (.iand, 1, []) := by decide +kernel
theorem r112_10 : am_at 112 10 = some (.iconst (1), 1, []) := by decide +kernel
theorem r112_11 : am_at 112 11 = some (.if_icmp .ne (14), 3, [25]) := by decide +kernel
theorem r112_14 : am_at 112 14 = some (.iconst (1), 1, []) := by decide +kernel
theorem r112_15 : am_at 112 15 = some (.aload_n 0, 1, [0]) := by decide +kernel
theorem r112_16 : am_at 112 16 = some (.getfield 19, 3, [8, 10, 3, 1225]) := by decide +kernel
theorem r112_19 : am_at 112 19 = some (.iload_n 2, 1, [2]) := by decide +kernel
theorem r112_20 : am_at 112 20 = some (.iaload, 1, []) := by decide +kernel
theorem r112_21 : am_at 112 21 = some (.ishl, 1, []) := by decide +kernel
theorem r112_22 : am_at 112 22 = some (.goto (4), 3, [26]) := by decide +kernel
theorem r112_25 : am_at 112 25 = some (.iconst (0), 1, []) := by decide +kernel
theorem r112_26 : am_at 112 26 = some (.iload_n 1, 1, [1]) := by decide +kernel
theorem r112_27 : am_at 112 27 = some (.aload_n 0, 1, [0]) := by decide +kernel
theorem r112_28 : am_at 112 28 = some (.getfield 19, 3, [8, 10, 3, 1225]) := by decide +kernel
theorem r112_31 : am_at 112 31 = some (.iload_n 2, 1, [2]) := by decide +kernel
theorem r112_32 : am_at 112 32 = some (.iaload, 1, []) := by decide +kernel
theorem r112_33 : am_at 112 33 = some (.ishr, 1, []) := by decide +kernel
theorem r112_34 : am_at 112 34 = some (.iconst (1), 1, []) := by decide +kernel
theorem r112_35 : am_at 112 35 = some (.iand, 1, []) := by decide +kernel
theorem r112_36 : am_at 112 36 = some (.iconst (1), 1, []) := by decide +kernel
theorem r112_37 : am_at 112 37 = some (.if_icmp .ne (14), 3, [51]) := by decide +kernel
theorem r112_40 : am_at 112 40 = some (.iconst (1), 1, []) := by decide +kernel
theorem r112_41 : am_at 112 41 = some (.aload_n 0, 1, [0]) := by decide +kernel
theorem r112_42 : am_at 112 42 = some (.getfield 16, 3, [8, 9, 3, 1224]) := by decide +kernel
theorem r112_45 : am_at 112 45 = some (.iload_n 2, 1, [2]) := by decide +kernel
theorem r112_46 : am_at 112 46 = some (.iaload, 1, []) := by decide +kernel
theorem r112_47 : am_at 112 47 = some (.ishl, 1, []) := by decide +kernel
theorem r112_48 : am_at 112 48 = some (.goto (4), 3, [52]) := by decide +kernel
theorem r112_51 : am_at 112 51 = some (.iconst (0), 1, []) := by decide +kernel
theorem r112_52 : am_at 112 52 = some (.ior, 1, []) := by decide +kernel
theorem r112_53 : am_at 112 53 = some (.ireturn, 1, []) := by decide +kernel
theorem rt112 : am_rtt 112 = some (some .int) := by decide +kernel
set_option maxRecDepth 100000 in
theorem pg112 : am_pg[112]? = some am_m112 := rfl
theorem m112_w {d mc ms : Nat} {D : am_D} {v1 : Int32} {v2 : Int32} {Q : am_O → am_AH → Prop} (hd : 1 ≤ d) {r : Int32} (h : m112 D v1 v2 = some r) (hQ : Q (.inl (some (.int r))) (am_mk D)) : am_X xs L 112 d mc ms 0 [.ref 106, .int v1, .int v2] [] (am_mk D) 0 0 Q := by
  unfold m112 at h
  refine x_ld (v := .int v1) r112_0 rfl rfl rfl ?_
  refine x_ld (v := .ref 106) r112_1 rfl rfl rfl ?_
  refine y_gf (cd := 111) (v := .ref 109) r112_2 rfl rfl rfl ?_
  refine x_ld (v := .int v2) r112_5 rfl rfl rfl ?_
  obtain ⟨g1, h⟩ := am_gdE h
  refine y_ial (n := 28) r112_6 rfl (by decide) g1 rfl rfl ?_
  refine x_ar r112_7 rfl trivial rfl ?_
  refine x_ic (v := 1) r112_8 rfl rfl ?_
  refine x_ar r112_9 rfl trivial rfl ?_
  refine x_ic (v := 1) r112_10 rfl rfl ?_
  obtain ⟨q2, h4, h⟩ := Option.bind_eq_some_iff.mp h
  have kj3 : am_X xs L 112 d mc ms 26 [.ref 106, .int v1, .int v2] [.int q2] (am_mk D) 0 0 Q := by
    refine x_ld (v := .int v1) r112_26 rfl rfl rfl ?_
    refine x_ld (v := .ref 106) r112_27 rfl rfl rfl ?_
    refine y_gf (cd := 112) (v := .ref 110) r112_28 rfl rfl rfl ?_
    refine x_ld (v := .int v2) r112_31 rfl rfl rfl ?_
    obtain ⟨g7, h⟩ := am_gdE h
    refine y_ial (n := 28) r112_32 rfl (by decide) g7 rfl rfl ?_
    refine x_ar r112_33 rfl trivial rfl ?_
    refine x_ic (v := 1) r112_34 rfl rfl ?_
    refine x_ar r112_35 rfl trivial rfl ?_
    refine x_ic (v := 1) r112_36 rfl rfl ?_
    rcases am_ifE h with ⟨c8, h⟩ | ⟨c8, h⟩
    · refine x_icneT r112_37 c8 rfl ?_
      refine x_ic (v := 1) r112_40 rfl rfl ?_
      refine x_ld (v := .ref 106) r112_41 rfl rfl rfl ?_
      refine y_gf (cd := 111) (v := .ref 109) r112_42 rfl rfl rfl ?_
      refine x_ld (v := .int v2) r112_45 rfl rfl rfl ?_
      obtain ⟨g9, h⟩ := am_gdE h
      refine y_ial (n := 28) r112_46 rfl (by decide) g9 rfl rfl ?_
      refine x_ar r112_47 rfl trivial rfl ?_
      refine x_goto r112_48 ?_
      refine x_ar r112_52 rfl trivial rfl ?_
      cases h
      exact x_ret (ret := some .int) (C := True) (v := some (.int _)) r112_53 rt112 rfl rfl rfl rfl rfl rfl rfl rfl trivial hQ
    · refine x_icneF r112_37 c8 ?_
      refine x_ic (v := 0) r112_51 rfl rfl ?_
      refine x_ar r112_52 rfl trivial rfl ?_
      cases h
      exact x_ret (ret := some .int) (C := True) (v := some (.int _)) r112_53 rt112 rfl rfl rfl rfl rfl rfl rfl rfl trivial hQ
  rcases am_ifE h4 with ⟨c5, h4⟩ | ⟨c5, h4⟩
  · refine x_icneT r112_11 c5 rfl ?_
    refine x_ic (v := 1) r112_14 rfl rfl ?_
    refine x_ld (v := .ref 106) r112_15 rfl rfl rfl ?_
    refine y_gf (cd := 112) (v := .ref 110) r112_16 rfl rfl rfl ?_
    refine x_ld (v := .int v2) r112_19 rfl rfl rfl ?_
    obtain ⟨g6, h4⟩ := am_gdE h4
    refine y_ial (n := 28) r112_20 rfl (by decide) g6 rfl rfl ?_
    refine x_ar r112_21 rfl trivial rfl ?_
    refine x_goto r112_22 ?_
    cases h4
    exact kj3
  · refine x_icneF r112_11 c5 ?_
    refine x_ic (v := 0) r112_25 rfl rfl ?_
    cases h4
    exact kj3
theorem m112_ok {D : am_D} {v1 : Int32} {v2 : Int32} {r : Int32} (h : m112 D v1 v2 = some r) : am_Y xs L 112 1 0 0 [.ref 106, .int v1, .int v2] D (.inl (some (.int r))) D := am_Yof (mi := am_m112) (lc := [.ref 106, .int v1, .int v2]) pg112 (Nat.le_of_ble_eq_true rfl) (am_rc1 (ci := 8) rfl rfl rfl rfl rfl) rfl (fun Q hQ => m112_w (Nat.le_refl _) h hQ)
theorem r113_0 : am_at 113 0 = some (.iconst (0), 1, []) := by decide +kernel
theorem r113_1 : am_at 113 1 = some (.istore_n 2, 1, [2]) := by decide +kernel
theorem r113_2 : am_at 113 2 = some (.iconst (0), 1, []) := by decide +kernel
theorem r113_3 : am_at 113 3 = some (.istore_n 3, 1, [3]) := by decide +kernel
theorem r113_4 : am_at 113 4 = some (.iload_n 3, 1, [3]) := by decide +kernel
theorem r113_5 : am_at 113 5 = some (.bipush (28), 2, []) := by decide +kernel
theorem r113_7 : am_at 113 7 = some (.if_icmp .ge (28), 3, [35]) := by decide +kernel
theorem r113_10 : am_at 113 10 = some (.aload_n 0, 1, [0]) := by decide +kernel
theorem r113_11 : am_at 113 11 = some (.iload_n 1, 1, [1]) := by decide +kernel
theorem r113_12 : am_at 113 12 = some (.iload_n 3, 1, [3]) := by decide +kernel
theorem r113_13 : am_at 113 13 = some (.invokevirtual 69, 3, [56, 3, 1315, 0]) := by decide +kernel
theorem r113_16 : am_at 113 16 = some (.ifCond .eq (13), 3, [29]) := by decide +kernel
theorem r113_19 : am_at 113 19 = some (.aload_n 0, 1, [0]) := by decide +kernel
theorem r113_20 : am_at 113 20 = some (.getfield 28, 3, [8, 13, 3, 1228]) := by decide +kernel
theorem r113_23 : am_at 113 23 = some (.iload_n 2, 1, [2]) := by decide +kernel
theorem r113_24 : am_at 113 24 = some (.iload_n 3, 1, [3]) := by decide +kernel
theorem r113_25 : am_at 113 25 = some (.iastore, 1, []) := by decide +kernel
theorem r113_26 : am_at 113 26 = some (.iinc 2 (1), 3, [2]) := by decide +kernel
theorem r113_29 : am_at 113 29 = some (.iinc 3 (1), 3, [3]) := by decide +kernel
theorem r113_32 : am_at 113 32 = some (.goto (-28), 3, [4]) := by decide +kernel
theorem r113_35 : am_at 113 35 = some (.iconst (0), 1, []) := by decide +kernel
theorem r113_36 : am_at 113 36 = some (.istore_n 3, 1, [3]) := by decide +kernel
theorem r113_37 : am_at 113 37 = some (.iconst (1), 1, []) := by decide +kernel
theorem r113_38 : am_at 113 38 = some (.istore 4, 2, [4]) := by decide +kernel
theorem r113_40 : am_at 113 40 = some (.iload 4, 2, [4]) := by decide +kernel
theorem r113_42 : am_at 113 42 = some (.iconst (1), 1, []) := by decide +kernel
theorem r113_43 : am_at 113 43 = some (.iload_n 2, 1, [2]) := by decide +kernel
theorem r113_44 : am_at 113 44 = some (.ishl, 1, []) := by decide +kernel
theorem r113_45 : am_at 113 45 = some (.if_icmp .ge (121), 3, [166]) := by decide +kernel
theorem r113_48 : am_at 113 48 = some (.aload_n 0, 1, [0]) := by decide +kernel
theorem r113_49 : am_at 113 49 = some (.getfield 31, 3, [8, 14, 3, 1229]) := by decide +kernel
theorem r113_52 : am_at 113 52 = some (.iload 4, 2, [4]) := by decide +kernel
theorem r113_54 : am_at 113 54 = some (.iconst (0), 1, []) := by decide +kernel
theorem r113_55 : am_at 113 55 = some (.iastore, 1, []) := by decide +kernel
theorem r113_56 : am_at 113 56 = some (.iconst (0), 1, []) := by decide +kernel
theorem r113_57 : am_at 113 57 = some (.istore 5, 2, [5]) := by decide +kernel
theorem r113_59 : am_at 113 59 = some (.iconst (0), 1, []) := by decide +kernel
theorem r113_60 : am_at 113 60 = some (.istore 6, 2, [6]) := by decide +kernel
theorem r113_62 : am_at 113 62 = some (.iload 6, 2, [6]) := by decide +kernel
theorem r113_64 : am_at 113 64 = some (.iload_n 2, 1, [2]) := by decide +kernel
theorem r113_65 : am_at 113 65 = some (.if_icmp .ge (72), 3, [137]) := by decide +kernel
theorem r113_68 : am_at 113 68 = some (.iload 4, 2, [4]) := by decide +kernel
theorem r113_70 : am_at 113 70 = some (.iload 6, 2, [6]) := by decide +kernel
theorem r113_72 : am_at 113 72 = some (.ishr, 1, []) := by decide +kernel
theorem r113_73 : am_at 113 73 = some (.iconst (1), 1, []) := by decide +kernel
theorem r113_74 : am_at 113 74 = some (.iand, 1, []) := by decide +kernel
theorem r113_75 : am_at 113 75 = some (.iconst (1), 1, []) := by decide +kernel
theorem r113_76 : am_at 113 76 = some (.if_icmp .ne (55), 3, [131]) := by decide +kernel
theorem r113_79 : am_at 113 79 = some (.iload 4, 2, [4]) := by decide +kernel
theorem r113_81 : am_at 113 81 = some (.iconst (1), 1, []) := by decide +kernel
theorem r113_82 : am_at 113 82 = some (.iload 6, 2, [6]) := by decide +kernel
theorem r113_84 : am_at 113 84 = some (.ishl, 1, []) := by decide +kernel
theorem r113_85 : am_at 113 85 = some (.iconst (-1), 1, []) := by decide +kernel
theorem r113_86 : am_at 113 86 = some (.ixor, 1, []) := by decide +kernel
theorem r113_87 : am_at 113 87 = some (.iand, 1, []) := by decide +kernel
theorem r113_88 : am_at 113 88 = some (.istore 7, 2, [7]) := by decide +kernel
theorem r113_90 : am_at 113 90 = some (.aload_n 0, 1, [0]) := by decide +kernel
theorem r113_91 : am_at 113 91 = some (.getfield 31, 3, [8, 14, 3, 1229]) := by decide +kernel
theorem r113_94 : am_at 113 94 = some (.iload 4, 2, [4]) := by decide +kernel
theorem r113_96 : am_at 113 96 = some (.dup2, 1, []) := by decide +kernel
theorem r113_97 : am_at 113 97 = some (.iaload, 1, []) := by decide +kernel
theorem r113_98 : am_at 113 98 = some (.aload_n 0, 1, [0]) := by decide +kernel
theorem r113_99 : am_at 113 99 = some (.iload 7, 2, [7]) := by decide +kernel
theorem r113_101 : am_at 113 101 = some (.ifCond .ne (8), 3, [109]) := by decide +kernel
theorem r113_104 : am_at 113 104 = some (.bipush (127), 2, []) := by decide +kernel
theorem r113_106 : am_at 113 106 = some (.goto (10), 3, [116]) := by decide +kernel
theorem r113_109 : am_at 113 109 = some (.aload_n 0, 1, [0]) := by decide +kernel
theorem r113_110 : am_at 113 110 = some (.getfield 31, 3, [8, 14, 3, 1229]) := by decide +kernel
theorem r113_113 : am_at 113 113 = some (.iload 7, 2, [7]) := by decide +kernel
theorem r113_115 : am_at 113 115 = some (.iaload, 1, []) := by decide +kernel
theorem r113_116 : am_at 113 116 = some (.aload_n 0, 1, [0]) := by decide +kernel
theorem r113_117 : am_at 113 117 = some (.getfield 28, 3, [8, 13, 3, 1228]) := by decide +kernel
theorem r113_120 : am_at 113 120 = some (.iload 6, 2, [6]) := by decide +kernel
theorem r113_122 : am_at 113 122 = some (.iaload, 1, []) := by decide +kernel
theorem r113_123 : am_at 113 123 = some (.invokevirtual 231, 3, [112, 3, 1572, 0]) := by decide +kernel
theorem r113_126 : am_at 113 126 = some (.ior, 1, []) := by decide +kernel
theorem r113_127 : am_at 113 127 = some (.iastore, 1, []) := by decide +kernel
theorem r113_128 : am_at 113 128 = some (.iinc 5 (1), 3, [5]) := by decide +kernel
theorem r113_131 : am_at 113 131 = some (.iinc 6 (1), 3, [6]) := by decide +kernel
theorem r113_134 : am_at 113 134 = some (.goto (-72), 3, [62]) := by decide +kernel
theorem r113_137 : am_at 113 137 = some (.aload_n 0, 1, [0]) := by decide +kernel
theorem r113_138 : am_at 113 138 = some (.getfield 31, 3, [8, 14, 3, 1229]) := by decide +kernel
theorem r113_141 : am_at 113 141 = some (.iload 4, 2, [4]) := by decide +kernel
theorem r113_143 : am_at 113 143 = some (.iaload, 1, []) := by decide +kernel
theorem r113_144 : am_at 113 144 = some (.ifCond .eq (14), 3, [158]) := by decide +kernel
theorem r113_147 : am_at 113 147 = some (.iload 5, 2, [5]) := by decide +kernel
theorem r113_149 : am_at 113 149 = some (.iload_n 3, 1, [3]) := by decide +kernel
theorem r113_150 : am_at 113 150 = some (.if_icmp .le (8), 3, [158]) := by decide +kernel
theorem r113_153 : am_at 113 153 = some (.iload 5, 2, [5]) := by decide +kernel
theorem r113_155 : am_at 113 155 = some (.goto (4), 3, [159]) := by decide +kernel
theorem r113_158 : am_at 113 158 = some (.iload_n 3, 1, [3]) := by decide +kernel
theorem r113_159 : am_at 113 159 = some (.istore_n 3, 1, [3]) := by decide +kernel
theorem r113_160 : am_at 113 160 = some (.iinc 4 (1), 3, [4]) := by decide +kernel
theorem r113_163 : am_at 113 163 = some (.goto (-123), 3, [40]) := by decide +kernel
theorem r113_166 : am_at 113 166 = some (.iload_n 3, 1, [3]) := by decide +kernel
theorem r113_167 : am_at 113 167 = some (.ireturn, 1, []) := by decide +kernel
theorem rt113 : am_rtt 113 = some (some .int) := by decide +kernel
set_option maxRecDepth 100000 in
theorem pg113 : am_pg[113]? = some am_m113 := rfl
theorem m113_L4_w {d : Nat} {N : Nat} {v1 : Int32} {mc ms : Nat} {Q : am_O → am_AH → Prop} (hd : 2 ≤ d) : ∀ (n : Nat) (D : am_D) (v2 : Int32) (v3 : Int32) {q : Int32 × am_D} (h : m113_L4 N v1  n D v2 v3 = some q) (k0 : am_X xs L 113 d mc ms 35 [.ref 106, am_dead, .int q.1, am_dead, am_dead, am_dead, am_dead, am_dead] [] (am_mk q.2) 0 0 Q), am_X xs L 113 d mc ms 4 [.ref 106, .int v1, .int v2, .int v3, am_dead, am_dead, am_dead, am_dead] [] (am_mk D) 0 0 Q := by
  intro n
  induction n with
  | zero =>
    intro D v2 v3 q h k0
    exact (nomatch (show none = some q from h))
  | succ n ih =>
    intro D v2 v3 q h k0
    rw [m113_L4] at h
    refine x_ld (v := .int v3) r113_4 rfl rfl rfl ?_
    refine x_bi (v := 28) r113_5 rfl rfl ?_
    rcases am_ifE h with ⟨c1, h⟩ | ⟨c1, h⟩
    · refine x_icgeT r113_7 c1 ?_
      refine x_forget (lc0 := [.ref 106, am_dead, .int v2, am_dead, am_dead, am_dead, am_dead, am_dead]) ⟨Or.inl rfl, Or.inr ⟨rfl, rfl⟩, Or.inl rfl, Or.inr ⟨rfl, rfl⟩, Or.inl rfl, Or.inl rfl, Or.inl rfl, Or.inl rfl, trivial⟩ ?_
      cases h
      exact k0
    · refine x_icgeF r113_7 c1 rfl ?_
      refine x_ld (v := .ref 106) r113_10 rfl rfl rfl ?_
      refine x_ld (v := .int v1) r113_11 rfl rfl rfl ?_
      refine x_ld (v := .int v3) r113_12 rfl rfl rfl ?_
      obtain ⟨q2, h3, h⟩ := Option.bind_eq_some_iff.mp h
      refine x_call1 (as := [.ref 106, .int v1, .int v3]) (rest := []) r113_13 rfl rfl rfl (by decide) (Nat.le_of_ble_eq_true rfl) (m56_ok h3) (Nat.le_trans (by decide) hd) (Nat.zero_le _) (Nat.zero_le _) rfl ?_
      obtain ⟨q4, h6, h⟩ := Option.bind_eq_some_iff.mp h
      have kj5 : am_X xs L 113 d mc ms 29 [.ref 106, .int v1, .int q4.1, .int v3, am_dead, am_dead, am_dead, am_dead] [] (am_mk q4.2) 0 0 Q := by
        obtain ⟨x13, e14, h⟩ := am_ltE h
        refine x_sto (lc' := [.ref 106, .int v1, .int q4.1, .int x13, am_dead, am_dead, am_dead, am_dead]) r113_29 rfl rfl (by subst e14; rfl) rfl ?_
        refine x_goto r113_32 ?_
        exact x_forget (lc0 := [.ref 106, .int v1, .int q4.1, .int x13, am_dead, am_dead, am_dead, am_dead]) ⟨Or.inl rfl, Or.inl rfl, Or.inl rfl, Or.inl rfl, Or.inl rfl, Or.inl rfl, Or.inl rfl, Or.inl rfl, trivial⟩ (ih q4.2 q4.1 x13 h k0)
      rcases am_ifE h6 with ⟨c7, h6⟩ | ⟨c7, h6⟩
      · refine x_ifeqT r113_16 c7 ?_
        cases h6
        exact kj5
      · refine x_ifeqF r113_16 c7 rfl ?_
        refine x_ld (v := .ref 106) r113_19 rfl rfl rfl ?_
        refine y_gf (cd := 115) (v := .ref 113) r113_20 rfl rfl rfl ?_
        refine x_ld (v := .int v2) r113_23 rfl rfl rfl ?_
        refine x_ld (v := .int v3) r113_24 rfl rfl rfl ?_
        obtain ⟨g10, h6⟩ := am_gdE h6
        obtain ⟨D8, e9, h6⟩ := am_ltE h6
        refine y_ias (n := 7) r113_25 rfl (by decide) g10 rfl e9 rfl ?_
        obtain ⟨x11, e12, h6⟩ := am_ltE h6
        refine x_sto (lc' := [.ref 106, .int v1, .int x11, .int v3, am_dead, am_dead, am_dead, am_dead]) r113_26 rfl rfl (by subst e12; rfl) rfl ?_
        cases h6
        exact kj5
theorem m113_L62_w {d : Nat} {N : Nat} {v2 : Int32} {v3 : Int32} {v4 : Int32} {mc ms : Nat} {Q : am_O → am_AH → Prop} (hd : 2 ≤ d) : ∀ (n : Nat) (D : am_D) (v5 : Int32) (v6 : Int32) {q : Int32 × am_D} (h : m113_L62 N v2 v3 v4  n D v5 v6 = some q) (k0 : am_X xs L 113 d mc ms 137 [.ref 106, am_dead, .int v2, .int v3, .int v4, .int q.1, am_dead, am_dead] [] (am_mk q.2) 0 0 Q), am_X xs L 113 d mc ms 62 [.ref 106, am_dead, .int v2, .int v3, .int v4, .int v5, .int v6, am_dead] [] (am_mk D) 0 0 Q := by
  intro n
  induction n with
  | zero =>
    intro D v5 v6 q h k0
    exact (nomatch (show none = some q from h))
  | succ n ih =>
    intro D v5 v6 q h k0
    rw [m113_L62] at h
    refine x_ld (v := .int v6) r113_62 rfl rfl rfl ?_
    refine x_ld (v := .int v2) r113_64 rfl rfl rfl ?_
    rcases am_ifE h with ⟨c21, h⟩ | ⟨c21, h⟩
    · refine x_icgeT r113_65 c21 ?_
      refine x_forget (lc0 := [.ref 106, am_dead, .int v2, .int v3, .int v4, .int v5, am_dead, am_dead]) ⟨Or.inl rfl, Or.inl rfl, Or.inl rfl, Or.inl rfl, Or.inl rfl, Or.inl rfl, Or.inr ⟨rfl, rfl⟩, Or.inl rfl, trivial⟩ ?_
      cases h
      exact k0
    · refine x_icgeF r113_65 c21 rfl ?_
      refine x_ld (v := .int v4) r113_68 rfl rfl rfl ?_
      refine x_ld (v := .int v6) r113_70 rfl rfl rfl ?_
      refine x_ar r113_72 rfl trivial rfl ?_
      refine x_ic (v := 1) r113_73 rfl rfl ?_
      refine x_ar r113_74 rfl trivial rfl ?_
      refine x_ic (v := 1) r113_75 rfl rfl ?_
      obtain ⟨q22, h24, h⟩ := Option.bind_eq_some_iff.mp h
      have kj23 : am_X xs L 113 d mc ms 131 [.ref 106, am_dead, .int v2, .int v3, .int v4, .int q22.1, .int v6, am_dead] [] (am_mk q22.2) 0 0 Q := by
        obtain ⟨x42, e43, h⟩ := am_ltE h
        refine x_sto (lc' := [.ref 106, am_dead, .int v2, .int v3, .int v4, .int q22.1, .int x42, am_dead]) r113_131 rfl rfl (by subst e43; rfl) rfl ?_
        refine x_goto r113_134 ?_
        exact x_forget (lc0 := [.ref 106, am_dead, .int v2, .int v3, .int v4, .int q22.1, .int x42, am_dead]) ⟨Or.inl rfl, Or.inl rfl, Or.inl rfl, Or.inl rfl, Or.inl rfl, Or.inl rfl, Or.inl rfl, Or.inl rfl, trivial⟩ (ih q22.2 q22.1 x42 h k0)
      rcases am_ifE h24 with ⟨c25, h24⟩ | ⟨c25, h24⟩
      · refine x_icneT r113_76 c25 rfl ?_
        refine x_ld (v := .int v4) r113_79 rfl rfl rfl ?_
        refine x_ic (v := 1) r113_81 rfl rfl ?_
        refine x_ld (v := .int v6) r113_82 rfl rfl rfl ?_
        refine x_ar r113_84 rfl trivial rfl ?_
        refine x_ic (v := -1) r113_85 rfl rfl ?_
        refine x_ar r113_86 rfl trivial rfl ?_
        refine x_ar r113_87 rfl trivial rfl ?_
        obtain ⟨x26, e27, h24⟩ := am_ltE h24
        refine am_topI e27 ?_
        refine x_sto (lc' := [.ref 106, am_dead, .int v2, .int v3, .int v4, .int v5, .int v6, .int x26]) r113_88 rfl rfl rfl rfl ?_
        refine x_ld (v := .ref 106) r113_90 rfl rfl rfl ?_
        refine y_gf (cd := 116) (v := .ref 114) r113_91 rfl rfl rfl ?_
        refine x_ld (v := .int v4) r113_94 rfl rfl rfl ?_
        refine x_ar r113_96 rfl trivial rfl ?_
        obtain ⟨g28, h24⟩ := am_gdE h24
        refine y_ial (n := 128) r113_97 rfl (by decide) g28 rfl rfl ?_
        refine x_ld (v := .ref 106) r113_98 rfl rfl rfl ?_
        refine x_ld (v := .int x26) r113_99 rfl rfl rfl ?_
        obtain ⟨q29, h31, h24⟩ := Option.bind_eq_some_iff.mp h24
        have kj30 : am_X xs L 113 d mc ms 116 [.ref 106, am_dead, .int v2, .int v3, .int v4, .int v5, .int v6, .int x26] [.int q29, .ref 106, .int (D.1 114 (v4).toNatClampNeg), .int v4, .ref 114] (am_mk D) 0 0 Q := by
          refine x_ld (v := .ref 106) r113_116 rfl rfl rfl ?_
          refine y_gf (cd := 115) (v := .ref 113) r113_117 rfl rfl rfl ?_
          refine x_ld (v := .int v6) r113_120 rfl rfl rfl ?_
          obtain ⟨g34, h24⟩ := am_gdE h24
          refine y_ial (n := 7) r113_122 rfl (by decide) g34 rfl rfl ?_
          obtain ⟨q35, h36, h24⟩ := Option.bind_eq_some_iff.mp h24
          refine x_call1 (as := [.ref 106, .int q29, .int (D.1 113 (v6).toNatClampNeg)]) (rest := [.int (D.1 114 (v4).toNatClampNeg), .int v4, .ref 114]) r113_123 rfl rfl rfl (by decide) (Nat.le_of_ble_eq_true rfl) (m112_ok h36) (Nat.le_trans (by decide) hd) (Nat.zero_le _) (Nat.zero_le _) rfl ?_
          refine x_ar r113_126 rfl trivial rfl ?_
          obtain ⟨g39, h24⟩ := am_gdE h24
          obtain ⟨D37, e38, h24⟩ := am_ltE h24
          refine y_ias (n := 128) r113_127 rfl (by decide) g39 rfl e38 rfl ?_
          obtain ⟨x40, e41, h24⟩ := am_ltE h24
          refine x_sto (lc' := [.ref 106, am_dead, .int v2, .int v3, .int v4, .int x40, .int v6, .int x26]) r113_128 rfl rfl (by subst e41; rfl) rfl ?_
          refine x_forget (lc0 := [.ref 106, am_dead, .int v2, .int v3, .int v4, .int x40, .int v6, am_dead]) ⟨Or.inl rfl, Or.inl rfl, Or.inl rfl, Or.inl rfl, Or.inl rfl, Or.inl rfl, Or.inl rfl, Or.inr ⟨rfl, rfl⟩, trivial⟩ ?_
          cases h24
          exact kj23
        rcases am_ifE h31 with ⟨c32, h31⟩ | ⟨c32, h31⟩
        · refine x_ifneT r113_101 c32 rfl ?_
          refine x_bi (v := 127) r113_104 rfl rfl ?_
          refine x_goto r113_106 ?_
          cases h31
          exact kj30
        · refine x_ifneF r113_101 c32 ?_
          refine x_ld (v := .ref 106) r113_109 rfl rfl rfl ?_
          refine y_gf (cd := 116) (v := .ref 114) r113_110 rfl rfl rfl ?_
          refine x_ld (v := .int x26) r113_113 rfl rfl rfl ?_
          obtain ⟨g33, h31⟩ := am_gdE h31
          refine y_ial (n := 128) r113_115 rfl (by decide) g33 rfl rfl ?_
          cases h31
          exact kj30
      · refine x_icneF r113_76 c25 ?_
        cases h24
        exact kj23
theorem m113_L40_w {d : Nat} {N : Nat} {v2 : Int32} {mc ms : Nat} {Q : am_O → am_AH → Prop} (hd : 2 ≤ d) : ∀ (n : Nat) (D : am_D) (v3 : Int32) (v4 : Int32) {q : Int32 × am_D} (h : m113_L40 N v2  n D v3 v4 = some q) (k0 : am_X xs L 113 d mc ms 166 [.ref 106, am_dead, am_dead, .int q.1, am_dead, am_dead, am_dead, am_dead] [] (am_mk q.2) 0 0 Q), am_X xs L 113 d mc ms 40 [.ref 106, am_dead, .int v2, .int v3, .int v4, am_dead, am_dead, am_dead] [] (am_mk D) 0 0 Q := by
  intro n
  induction n with
  | zero =>
    intro D v3 v4 q h k0
    exact (nomatch (show none = some q from h))
  | succ n ih =>
    intro D v3 v4 q h k0
    rw [m113_L40] at h
    refine x_ld (v := .int v4) r113_40 rfl rfl rfl ?_
    refine x_ic (v := 1) r113_42 rfl rfl ?_
    refine x_ld (v := .int v2) r113_43 rfl rfl rfl ?_
    refine x_ar r113_44 rfl trivial rfl ?_
    rcases am_ifE h with ⟨c17, h⟩ | ⟨c17, h⟩
    · refine x_icgeT r113_45 c17 ?_
      refine x_forget (lc0 := [.ref 106, am_dead, am_dead, .int v3, am_dead, am_dead, am_dead, am_dead]) ⟨Or.inl rfl, Or.inl rfl, Or.inr ⟨rfl, rfl⟩, Or.inl rfl, Or.inr ⟨rfl, rfl⟩, Or.inl rfl, Or.inl rfl, Or.inl rfl, trivial⟩ ?_
      cases h
      exact k0
    · refine x_icgeF r113_45 c17 rfl ?_
      refine x_ld (v := .ref 106) r113_48 rfl rfl rfl ?_
      refine y_gf (cd := 116) (v := .ref 114) r113_49 rfl rfl rfl ?_
      refine x_ld (v := .int v4) r113_52 rfl rfl rfl ?_
      refine x_ic (v := 0) r113_54 rfl rfl ?_
      obtain ⟨g20, h⟩ := am_gdE h
      obtain ⟨D18, e19, h⟩ := am_ltE h
      refine y_ias (n := 128) r113_55 rfl (by decide) g20 rfl e19 rfl ?_
      refine x_ic (v := 0) r113_56 rfl rfl ?_
      refine x_sto (lc' := [.ref 106, am_dead, .int v2, .int v3, .int v4, .int (0 : Int32), am_dead, am_dead]) r113_57 rfl rfl rfl rfl ?_
      refine x_ic (v := 0) r113_59 rfl rfl ?_
      refine x_sto (lc' := [.ref 106, am_dead, .int v2, .int v3, .int v4, .int (0 : Int32), .int (0 : Int32), am_dead]) r113_60 rfl rfl rfl rfl ?_
      obtain ⟨q44, h45, h⟩ := Option.bind_eq_some_iff.mp h
      refine x_forget (lc0 := [.ref 106, am_dead, .int v2, .int v3, .int v4, .int (0 : Int32), .int (0 : Int32), am_dead]) ⟨Or.inl rfl, Or.inl rfl, Or.inl rfl, Or.inl rfl, Or.inl rfl, Or.inl rfl, Or.inl rfl, Or.inl rfl, trivial⟩ (m113_L62_w hd N D18 (0 : Int32) (0 : Int32) h45 ?_)
      refine x_ld (v := .ref 106) r113_137 rfl rfl rfl ?_
      refine y_gf (cd := 116) (v := .ref 114) r113_138 rfl rfl rfl ?_
      refine x_ld (v := .int v4) r113_141 rfl rfl rfl ?_
      obtain ⟨g46, h⟩ := am_gdE h
      refine y_ial (n := 128) r113_143 rfl (by decide) g46 rfl rfl ?_
      obtain ⟨q47, h49, h⟩ := am_ltE h
      replace h49 := h49.symm
      have kj48 : am_X xs L 113 d mc ms 159 [.ref 106, am_dead, .int v2, .int v3, .int v4, .int q44.1, am_dead, am_dead] [.int q47] (am_mk q44.2) 0 0 Q := by
        refine x_sto (lc' := [.ref 106, am_dead, .int v2, .int q47, .int v4, .int q44.1, am_dead, am_dead]) r113_159 rfl rfl rfl rfl ?_
        obtain ⟨x52, e53, h⟩ := am_ltE h
        refine x_sto (lc' := [.ref 106, am_dead, .int v2, .int q47, .int x52, .int q44.1, am_dead, am_dead]) r113_160 rfl rfl (by subst e53; rfl) rfl ?_
        refine x_goto r113_163 ?_
        exact x_forget (lc0 := [.ref 106, am_dead, .int v2, .int q47, .int x52, am_dead, am_dead, am_dead]) ⟨Or.inl rfl, Or.inl rfl, Or.inl rfl, Or.inl rfl, Or.inl rfl, Or.inr ⟨rfl, rfl⟩, Or.inl rfl, Or.inl rfl, trivial⟩ (ih q44.2 q47 x52 h k0)
      rcases am_ifE h49 with ⟨c50, h49⟩ | ⟨c50, h49⟩
      · refine x_ifeqT r113_144 c50 ?_
        refine x_ld (v := .int v3) r113_158 rfl rfl rfl ?_
        subst h49
        exact kj48
      · refine x_ifeqF r113_144 c50 rfl ?_
        refine x_ld (v := .int q44.1) r113_147 rfl rfl rfl ?_
        refine x_ld (v := .int v3) r113_149 rfl rfl rfl ?_
        rcases am_ifE h49 with ⟨c51, h49⟩ | ⟨c51, h49⟩
        · refine x_icleT r113_150 c51 ?_
          refine x_ld (v := .int v3) r113_158 rfl rfl rfl ?_
          subst h49
          exact kj48
        · refine x_icleF r113_150 c51 rfl ?_
          refine x_ld (v := .int q44.1) r113_153 rfl rfl rfl ?_
          refine x_goto r113_155 ?_
          subst h49
          exact kj48
theorem m113_w {d mc ms : Nat} {N : Nat} {D : am_D} {v1 : Int32} {Q : am_O → am_AH → Prop} (hd : 2 ≤ d) {r : Int32 × am_D} (h : m113 N D v1 = some r) (hQ : Q (.inl (some (.int r.1))) (am_mk r.2)) : am_X xs L 113 d mc ms 0 [.ref 106, .int v1, am_dead, am_dead, am_dead, am_dead, am_dead, am_dead] [] (am_mk D) 0 0 Q := by
  unfold m113 at h
  refine x_ic (v := 0) r113_0 rfl rfl ?_
  refine x_sto (lc' := [.ref 106, .int v1, .int (0 : Int32), am_dead, am_dead, am_dead, am_dead, am_dead]) r113_1 rfl rfl rfl rfl ?_
  refine x_ic (v := 0) r113_2 rfl rfl ?_
  refine x_sto (lc' := [.ref 106, .int v1, .int (0 : Int32), .int (0 : Int32), am_dead, am_dead, am_dead, am_dead]) r113_3 rfl rfl rfl rfl ?_
  obtain ⟨q15, h16, h⟩ := Option.bind_eq_some_iff.mp h
  refine x_forget (lc0 := [.ref 106, .int v1, .int (0 : Int32), .int (0 : Int32), am_dead, am_dead, am_dead, am_dead]) ⟨Or.inl rfl, Or.inl rfl, Or.inl rfl, Or.inl rfl, Or.inl rfl, Or.inl rfl, Or.inl rfl, Or.inl rfl, trivial⟩ (m113_L4_w hd N D (0 : Int32) (0 : Int32) h16 ?_)
  refine x_ic (v := 0) r113_35 rfl rfl ?_
  refine x_sto (lc' := [.ref 106, am_dead, .int q15.1, .int (0 : Int32), am_dead, am_dead, am_dead, am_dead]) r113_36 rfl rfl rfl rfl ?_
  refine x_ic (v := 1) r113_37 rfl rfl ?_
  refine x_sto (lc' := [.ref 106, am_dead, .int q15.1, .int (0 : Int32), .int (1 : Int32), am_dead, am_dead, am_dead]) r113_38 rfl rfl rfl rfl ?_
  obtain ⟨q54, h55, h⟩ := Option.bind_eq_some_iff.mp h
  refine x_forget (lc0 := [.ref 106, am_dead, .int q15.1, .int (0 : Int32), .int (1 : Int32), am_dead, am_dead, am_dead]) ⟨Or.inl rfl, Or.inl rfl, Or.inl rfl, Or.inl rfl, Or.inl rfl, Or.inl rfl, Or.inl rfl, Or.inl rfl, trivial⟩ (m113_L40_w hd N q15.2 (0 : Int32) (1 : Int32) h55 ?_)
  refine x_ld (v := .int q54.1) r113_166 rfl rfl rfl ?_
  cases h
  exact x_ret (ret := some .int) (C := True) (v := some (.int _)) r113_167 rt113 rfl rfl rfl rfl rfl rfl rfl rfl trivial hQ
theorem m113_ok {N : Nat} {D : am_D} {v1 : Int32} {r : Int32 × am_D} (h : m113 N D v1 = some r) : am_Y xs L 113 2 0 0 [.ref 106, .int v1] D (.inl (some (.int r.1))) r.2 := am_Yof (mi := am_m113) (lc := [.ref 106, .int v1, am_dead, am_dead, am_dead, am_dead, am_dead, am_dead]) pg113 (Nat.le_of_ble_eq_true rfl) (am_rc1 (ci := 8) rfl rfl rfl rfl rfl) rfl (fun Q hQ => m113_w (Nat.le_refl _) h hQ)
theorem r114_0 : am_at 114 0 = some (.iconst (0), 1, []) := by decide +kernel
theorem r114_1 : am_at 114 1 = some (.istore_n 2, 1, [2]) := by decide +kernel
theorem r114_2 : am_at 114 2 = some (.iload_n 2, 1, [2]) := by decide +kernel
theorem r114_3 : am_at 114 3 = some (.bipush (28), 2, []) := by decide +kernel
theorem r114_5 : am_at 114 5 = some (.if_icmp .ge (20), 3, [25]) := by decide +kernel
theorem r114_8 : am_at 114 8 = some (.aload_n 0, 1, [0]) := by decide +kernel
theorem r114_9 : am_at 114 9 = some (.iload_n 1, 1, [1]) := by decide +kernel
theorem r114_10 : am_at 114 10 = some (.iload_n 2, 1, [2]) := by decide +kernel
theorem r114_11 : am_at 114 11 = some (.invokevirtual 69, 3, [56, 3, 1315, 0]) := by decide +kernel
theorem r114_14 : am_at 114 14 = some (.ifCond .eq (5), 3, [19]) := by decide +kernel
theorem r114_17 : am_at 114 17 = some (.iload_n 2, 1, [2]) := by decide +kernel
theorem r114_18 : am_at 114 18 = some (.ireturn, 1, []) := by decide +kernel
theorem r114_19 : am_at 114 19 = some (.iinc 2 (1), 3, [2]) := by decide +kernel
theorem r114_22 : am_at 114 22 = some (.goto (-20), 3, [2]) := by decide +kernel
theorem r114_25 : am_at 114 25 = some (.iconst (-1), 1, []) := by decide +kernel
theorem r114_26 : am_at 114 26 = some (.ireturn, 1, []) := by decide +kernel
theorem rt114 : am_rtt 114 = some (some .int) := by decide +kernel
set_option maxRecDepth 100000 in
theorem pg114 : am_pg[114]? = some am_m114 := rfl
theorem m114_L2_w {d : Nat} {N : Nat} {D : am_D} {v1 : Int32} {mc ms : Nat} {Q : am_O → am_AH → Prop} (hd : 2 ≤ d) : ∀ (n : Nat) (v2 : Int32) {q : Nat × Int32} (h : m114_L2 N D v1  n v2 = some q) (k0 : q.1 = 0 → am_X xs L 114 d mc ms 25 [.ref 106, am_dead, am_dead] [] (am_mk D) 0 0 Q) (k1 : q.1 = 1 → am_X xs L 114 d mc ms 17 [.ref 106, am_dead, .int q.2] [] (am_mk D) 0 0 Q), am_X xs L 114 d mc ms 2 [.ref 106, .int v1, .int v2] [] (am_mk D) 0 0 Q := by
  intro n
  induction n with
  | zero =>
    intro v2 q h k0 k1
    exact (nomatch (show none = some q from h))
  | succ n ih =>
    intro v2 q h k0 k1
    rw [m114_L2] at h
    refine x_ld (v := .int v2) r114_2 rfl rfl rfl ?_
    refine x_bi (v := 28) r114_3 rfl rfl ?_
    rcases am_ifE h with ⟨c1, h⟩ | ⟨c1, h⟩
    · refine x_icgeT r114_5 c1 ?_
      refine x_forget (lc0 := [.ref 106, am_dead, am_dead]) ⟨Or.inl rfl, Or.inr ⟨rfl, rfl⟩, Or.inr ⟨rfl, rfl⟩, trivial⟩ ?_
      cases h
      exact k0 rfl
    · refine x_icgeF r114_5 c1 rfl ?_
      refine x_ld (v := .ref 106) r114_8 rfl rfl rfl ?_
      refine x_ld (v := .int v1) r114_9 rfl rfl rfl ?_
      refine x_ld (v := .int v2) r114_10 rfl rfl rfl ?_
      obtain ⟨q2, h3, h⟩ := Option.bind_eq_some_iff.mp h
      refine x_call1 (as := [.ref 106, .int v1, .int v2]) (rest := []) r114_11 rfl rfl rfl (by decide) (Nat.le_of_ble_eq_true rfl) (m56_ok h3) (Nat.le_trans (by decide) hd) (Nat.zero_le _) (Nat.zero_le _) rfl ?_
      rcases am_ifE h with ⟨c4, h⟩ | ⟨c4, h⟩
      · refine x_ifeqT r114_14 c4 ?_
        obtain ⟨x5, e6, h⟩ := am_ltE h
        refine x_sto (lc' := [.ref 106, .int v1, .int x5]) r114_19 rfl rfl (by subst e6; rfl) rfl ?_
        refine x_goto r114_22 ?_
        exact x_forget (lc0 := [.ref 106, .int v1, .int x5]) ⟨Or.inl rfl, Or.inl rfl, Or.inl rfl, trivial⟩ (ih x5 h k0 k1)
      · refine x_ifeqF r114_14 c4 rfl ?_
        refine x_forget (lc0 := [.ref 106, am_dead, .int v2]) ⟨Or.inl rfl, Or.inr ⟨rfl, rfl⟩, Or.inl rfl, trivial⟩ ?_
        cases h
        exact k1 rfl
theorem m114_w {d mc ms : Nat} {N : Nat} {D : am_D} {v1 : Int32} {Q : am_O → am_AH → Prop} (hd : 2 ≤ d) {r : Int32} (h : m114 N D v1 = some r) (hQ : Q (.inl (some (.int r))) (am_mk D)) : am_X xs L 114 d mc ms 0 [.ref 106, .int v1, am_dead] [] (am_mk D) 0 0 Q := by
  unfold m114 at h
  refine x_ic (v := 0) r114_0 rfl rfl ?_
  refine x_sto (lc' := [.ref 106, .int v1, .int (0 : Int32)]) r114_1 rfl rfl rfl rfl ?_
  obtain ⟨q7, h8, h⟩ := Option.bind_eq_some_iff.mp h
  refine x_forget (lc0 := [.ref 106, .int v1, .int (0 : Int32)]) ⟨Or.inl rfl, Or.inl rfl, Or.inl rfl, trivial⟩ (m114_L2_w hd N (0 : Int32) h8 (fun e9 => ?_) (fun e10 => ?_))
  · rw [if_pos e9] at h
    refine x_ic (v := -1) r114_25 rfl rfl ?_
    cases h
    exact x_ret (ret := some .int) (C := True) (v := some (.int _)) r114_26 rt114 rfl rfl rfl rfl rfl rfl rfl rfl trivial hQ
  · rw [if_neg (by rw [e10]; decide)] at h
    refine x_ld (v := .int q7.2) r114_17 rfl rfl rfl ?_
    cases h
    exact x_ret (ret := some .int) (C := True) (v := some (.int _)) r114_18 rt114 rfl rfl rfl rfl rfl rfl rfl rfl trivial hQ
theorem m114_ok {N : Nat} {D : am_D} {v1 : Int32} {r : Int32} (h : m114 N D v1 = some r) : am_Y xs L 114 2 0 0 [.ref 106, .int v1] D (.inl (some (.int r))) D := am_Yof (mi := am_m114) (lc := [.ref 106, .int v1, am_dead]) pg114 (Nat.le_of_ble_eq_true rfl) (am_rc1 (ci := 8) rfl rfl rfl rfl rfl) rfl (fun Q hQ => m114_w (Nat.le_refl _) h hQ)
theorem r115_0 : am_at 115 0 = some (.iload_n 2, 1, [2]) := by decide +kernel
theorem r115_1 : am_at 115 1 = some (.tableswitch (117) (0) (8) #[51, 57, 63, 73, 83, 89, 99, 105, 111], 51, [118, 0, 52, 1, 58, 2, 64, 3, 74, 4, 84, 5, 90, 6, 100, 7, 106, 8, 112]) := by decide +kernel
theorem r115_52 : am_at 115 52 = some (.aload_n 0, 1, [0]) := by decide +kernel
theorem r115_53 : am_at 115 53 = some (.iload_n 1, 1, [1]) := by decide +kernel
theorem r115_54 : am_at 115 54 = some (.invokevirtual 121, 3, [57, 2, 1319, 0]) := by decide +kernel
theorem r115_57 : am_at 115 57 = some (.ireturn, 1, []) := by decide +kernel
theorem r115_58 : am_at 115 58 = some (.aload_n 0, 1, [0]) := by decide +kernel
theorem r115_59 : am_at 115 59 = some (.iload_n 1, 1, [1]) := by decide +kernel
theorem r115_60 : am_at 115 60 = some (.invokevirtual 124, 3, [58, 2, 1417, 0]) := by decide +kernel
theorem r115_63 : am_at 115 63 = some (.ireturn, 1, []) := by decide +kernel
theorem r115_64 : am_at 115 64 = some (.aload_n 0, 1, [0]) := by decide +kernel
theorem r115_65 : am_at 115 65 = some (.getfield 7, 3, [8, 1, 3, 1216]) := by decide +kernel
theorem r115_68 : am_at 115 68 = some (.bipush (13), 2, []) := by decide +kernel
theorem r115_70 : am_at 115 70 = some (.iload_n 1, 1, [1]) := by decide +kernel
theorem r115_71 : am_at 115 71 = some (.iadd, 1, []) := by decide +kernel
theorem r115_72 : am_at 115 72 = some (.iaload, 1, []) := by decide +kernel
theorem r115_73 : am_at 115 73 = some (.ireturn, 1, []) := by decide +kernel
theorem r115_74 : am_at 115 74 = some (.aload_n 0, 1, [0]) := by decide +kernel
theorem r115_75 : am_at 115 75 = some (.getfield 7, 3, [8, 1, 3, 1216]) := by decide +kernel
theorem r115_78 : am_at 115 78 = some (.bipush (17), 2, []) := by decide +kernel
theorem r115_80 : am_at 115 80 = some (.iload_n 1, 1, [1]) := by decide +kernel
theorem r115_81 : am_at 115 81 = some (.iadd, 1, []) := by decide +kernel
theorem r115_82 : am_at 115 82 = some (.iaload, 1, []) := by decide +kernel
theorem r115_83 : am_at 115 83 = some (.ireturn, 1, []) := by decide +kernel
theorem r115_84 : am_at 115 84 = some (.aload_n 0, 1, [0]) := by decide +kernel
theorem r115_85 : am_at 115 85 = some (.iload_n 1, 1, [1]) := by decide +kernel
theorem r115_86 : am_at 115 86 = some (.invokevirtual 108, 3, [68, 2, 1429, 0]) := by decide +kernel
theorem r115_89 : am_at 115 89 = some (.ireturn, 1, []) := by decide +kernel
theorem r115_90 : am_at 115 90 = some (.aload_n 0, 1, [0]) := by decide +kernel
theorem r115_91 : am_at 115 91 = some (.getfield 7, 3, [8, 1, 3, 1216]) := by decide +kernel
theorem r115_94 : am_at 115 94 = some (.bipush (21), 2, []) := by decide +kernel
theorem r115_96 : am_at 115 96 = some (.iload_n 1, 1, [1]) := by decide +kernel
theorem r115_97 : am_at 115 97 = some (.iadd, 1, []) := by decide +kernel
theorem r115_98 : am_at 115 98 = some (.iaload, 1, []) := by decide +kernel
theorem r115_99 : am_at 115 99 = some (.ireturn, 1, []) := by decide +kernel
theorem r115_100 : am_at 115 100 = some (.aload_n 0, 1, [0]) := by decide +kernel
theorem r115_101 : am_at 115 101 = some (.iload_n 1, 1, [1]) := by decide +kernel
theorem r115_102 : am_at 115 102 = some (.invokevirtual 151, 3, [81, 2, 1347, 0]) := by decide +kernel
theorem r115_105 : am_at 115 105 = some (.ireturn, 1, []) := by decide +kernel
theorem r115_106 : am_at 115 106 = some (.aload_n 0, 1, [0]) := by decide +kernel
theorem r115_107 : am_at 115 107 = some (.iload_n 1, 1, [1]) := by decide +kernel
theorem r115_108 : am_at 115 108 = some (.invokevirtual 234, 3, [114, 2, 1564, 0]) := by decide +kernel
theorem r115_111 : am_at 115 111 = some (.ireturn, 1, []) := by decide +kernel
theorem r115_112 : am_at 115 112 = some (.aload_n 0, 1, [0]) := by decide +kernel
theorem r115_113 : am_at 115 113 = some (.iload_n 1, 1, [1]) := by decide +kernel
theorem r115_114 : am_at 115 114 = some (.invokevirtual 164, 3, [69, 2, 1425, 0]) := by decide +kernel
theorem r115_117 : am_at 115 117 = some (.ireturn, 1, []) := by decide +kernel
theorem r115_118 : am_at 115 118 = some (.aload_n 0, 1, [0]) := by decide +kernel
theorem r115_119 : am_at 115 119 = some (.iload_n 1, 1, [1]) := by decide +kernel
theorem r115_120 : am_at 115 120 = some (.invokevirtual 237, 3, [113, 2, 1568, 0]) := by decide +kernel
theorem r115_123 : am_at 115 123 = some (.ireturn, 1, []) := by decide +kernel
theorem rt115 : am_rtt 115 = some (some .int) := by decide +kernel
set_option maxRecDepth 100000 in
theorem pg115 : am_pg[115]? = some am_m115 := rfl
theorem m115_w {d mc ms : Nat} {N : Nat} {D : am_D} {v1 : Int32} {v2 : Int32} {Q : am_O → am_AH → Prop} (hd : 8 ≤ d) {r : Int32 × am_D} (h : m115 N D v1 v2 = some r) (hQ : Q (.inl (some (.int r.1))) (am_mk r.2)) : am_X xs L 115 d mc ms 0 [.ref 106, .int v1, .int v2] [] (am_mk D) 0 0 Q := by
  unfold m115 at h
  refine x_ld (v := .int v2) r115_0 rfl rfl rfl ?_
  rcases am_ifE h with ⟨c1, h⟩ | ⟨c1, h⟩
  · refine x_tsw (p' := 52) r115_1 (am_swT c1) ?_
    refine x_ld (v := .ref 106) r115_52 rfl rfl rfl ?_
    refine x_ld (v := .int v1) r115_53 rfl rfl rfl ?_
    obtain ⟨q2, h3, h⟩ := Option.bind_eq_some_iff.mp h
    refine x_call1 (as := [.ref 106, .int v1]) (rest := []) r115_54 rfl rfl rfl (by decide) (Nat.le_of_ble_eq_true rfl) (m57_ok h3) (Nat.le_trans (by decide) hd) (Nat.zero_le _) (Nat.zero_le _) rfl ?_
    cases h
    exact x_ret (ret := some .int) (C := True) (v := some (.int _)) r115_57 rt115 rfl rfl rfl rfl rfl rfl rfl rfl trivial hQ
  · rcases am_ifE h with ⟨c4, h⟩ | ⟨c4, h⟩
    · refine x_tsw (p' := 58) r115_1 (am_swF c1 (am_swT c4)) ?_
      refine x_ld (v := .ref 106) r115_58 rfl rfl rfl ?_
      refine x_ld (v := .int v1) r115_59 rfl rfl rfl ?_
      obtain ⟨q5, h6, h⟩ := Option.bind_eq_some_iff.mp h
      refine x_call1 (as := [.ref 106, .int v1]) (rest := []) r115_60 rfl rfl rfl (by decide) (Nat.le_of_ble_eq_true rfl) (m58_ok h6) (Nat.le_trans (by decide) hd) (Nat.zero_le _) (Nat.zero_le _) rfl ?_
      cases h
      exact x_ret (ret := some .int) (C := True) (v := some (.int _)) r115_63 rt115 rfl rfl rfl rfl rfl rfl rfl rfl trivial hQ
    · rcases am_ifE h with ⟨c7, h⟩ | ⟨c7, h⟩
      · refine x_tsw (p' := 64) r115_1 (am_swF c1 (am_swF c4 (am_swT c7))) ?_
        refine x_ld (v := .ref 106) r115_64 rfl rfl rfl ?_
        refine y_gf (cd := 109) (v := .ref 107) r115_65 rfl rfl rfl ?_
        refine x_bi (v := 13) r115_68 rfl rfl ?_
        refine x_ld (v := .int v1) r115_70 rfl rfl rfl ?_
        refine x_ar r115_71 rfl trivial rfl ?_
        obtain ⟨g8, h⟩ := am_gdE h
        refine y_ial (n := 1320) r115_72 rfl (by decide) g8 rfl rfl ?_
        cases h
        exact x_ret (ret := some .int) (C := True) (v := some (.int _)) r115_73 rt115 rfl rfl rfl rfl rfl rfl rfl rfl trivial hQ
      · rcases am_ifE h with ⟨c9, h⟩ | ⟨c9, h⟩
        · refine x_tsw (p' := 74) r115_1 (am_swF c1 (am_swF c4 (am_swF c7 (am_swT c9)))) ?_
          refine x_ld (v := .ref 106) r115_74 rfl rfl rfl ?_
          refine y_gf (cd := 109) (v := .ref 107) r115_75 rfl rfl rfl ?_
          refine x_bi (v := 17) r115_78 rfl rfl ?_
          refine x_ld (v := .int v1) r115_80 rfl rfl rfl ?_
          refine x_ar r115_81 rfl trivial rfl ?_
          obtain ⟨g10, h⟩ := am_gdE h
          refine y_ial (n := 1320) r115_82 rfl (by decide) g10 rfl rfl ?_
          cases h
          exact x_ret (ret := some .int) (C := True) (v := some (.int _)) r115_83 rt115 rfl rfl rfl rfl rfl rfl rfl rfl trivial hQ
        · rcases am_ifE h with ⟨c11, h⟩ | ⟨c11, h⟩
          · refine x_tsw (p' := 84) r115_1 (am_swF c1 (am_swF c4 (am_swF c7 (am_swF c9 (am_swT c11))))) ?_
            refine x_ld (v := .ref 106) r115_84 rfl rfl rfl ?_
            refine x_ld (v := .int v1) r115_85 rfl rfl rfl ?_
            obtain ⟨q12, h13, h⟩ := Option.bind_eq_some_iff.mp h
            refine x_call1 (as := [.ref 106, .int v1]) (rest := []) r115_86 rfl rfl rfl (by decide) (Nat.le_of_ble_eq_true rfl) (m68_ok h13) (Nat.le_trans (by decide) hd) (Nat.zero_le _) (Nat.zero_le _) rfl ?_
            cases h
            exact x_ret (ret := some .int) (C := True) (v := some (.int _)) r115_89 rt115 rfl rfl rfl rfl rfl rfl rfl rfl trivial hQ
          · rcases am_ifE h with ⟨c14, h⟩ | ⟨c14, h⟩
            · refine x_tsw (p' := 90) r115_1 (am_swF c1 (am_swF c4 (am_swF c7 (am_swF c9 (am_swF c11 (am_swT c14)))))) ?_
              refine x_ld (v := .ref 106) r115_90 rfl rfl rfl ?_
              refine y_gf (cd := 109) (v := .ref 107) r115_91 rfl rfl rfl ?_
              refine x_bi (v := 21) r115_94 rfl rfl ?_
              refine x_ld (v := .int v1) r115_96 rfl rfl rfl ?_
              refine x_ar r115_97 rfl trivial rfl ?_
              obtain ⟨g15, h⟩ := am_gdE h
              refine y_ial (n := 1320) r115_98 rfl (by decide) g15 rfl rfl ?_
              cases h
              exact x_ret (ret := some .int) (C := True) (v := some (.int _)) r115_99 rt115 rfl rfl rfl rfl rfl rfl rfl rfl trivial hQ
            · rcases am_ifE h with ⟨c16, h⟩ | ⟨c16, h⟩
              · refine x_tsw (p' := 100) r115_1 (am_swF c1 (am_swF c4 (am_swF c7 (am_swF c9 (am_swF c11 (am_swF c14 (am_swT c16))))))) ?_
                refine x_ld (v := .ref 106) r115_100 rfl rfl rfl ?_
                refine x_ld (v := .int v1) r115_101 rfl rfl rfl ?_
                obtain ⟨q17, h18, h⟩ := Option.bind_eq_some_iff.mp h
                refine x_call1 (as := [.ref 106, .int v1]) (rest := []) r115_102 rfl rfl rfl (by decide) (Nat.le_of_ble_eq_true rfl) (m81_ok h18) (Nat.le_trans (by decide) hd) (Nat.zero_le _) (Nat.zero_le _) rfl ?_
                cases h
                exact x_ret (ret := some .int) (C := True) (v := some (.int _)) r115_105 rt115 rfl rfl rfl rfl rfl rfl rfl rfl trivial hQ
              · rcases am_ifE h with ⟨c19, h⟩ | ⟨c19, h⟩
                · refine x_tsw (p' := 106) r115_1 (am_swF c1 (am_swF c4 (am_swF c7 (am_swF c9 (am_swF c11 (am_swF c14 (am_swF c16 (am_swT c19)))))))) ?_
                  refine x_ld (v := .ref 106) r115_106 rfl rfl rfl ?_
                  refine x_ld (v := .int v1) r115_107 rfl rfl rfl ?_
                  obtain ⟨q20, h21, h⟩ := Option.bind_eq_some_iff.mp h
                  refine x_call1 (as := [.ref 106, .int v1]) (rest := []) r115_108 rfl rfl rfl (by decide) (Nat.le_of_ble_eq_true rfl) (m114_ok h21) (Nat.le_trans (by decide) hd) (Nat.zero_le _) (Nat.zero_le _) rfl ?_
                  cases h
                  exact x_ret (ret := some .int) (C := True) (v := some (.int _)) r115_111 rt115 rfl rfl rfl rfl rfl rfl rfl rfl trivial hQ
                · rcases am_ifE h with ⟨c22, h⟩ | ⟨c22, h⟩
                  · refine x_tsw (p' := 112) r115_1 (am_swF c1 (am_swF c4 (am_swF c7 (am_swF c9 (am_swF c11 (am_swF c14 (am_swF c16 (am_swF c19 (am_swT c22))))))))) ?_
                    refine x_ld (v := .ref 106) r115_112 rfl rfl rfl ?_
                    refine x_ld (v := .int v1) r115_113 rfl rfl rfl ?_
                    obtain ⟨q23, h24, h⟩ := Option.bind_eq_some_iff.mp h
                    refine x_call1 (as := [.ref 106, .int v1]) (rest := []) r115_114 rfl rfl rfl (by decide) (Nat.le_of_ble_eq_true rfl) (m69_ok h24) (Nat.le_trans (by decide) hd) (Nat.zero_le _) (Nat.zero_le _) rfl ?_
                    cases h
                    exact x_ret (ret := some .int) (C := True) (v := some (.int _)) r115_117 rt115 rfl rfl rfl rfl rfl rfl rfl rfl trivial hQ
                  · refine x_tsw (p' := 118) r115_1 (am_swF c1 (am_swF c4 (am_swF c7 (am_swF c9 (am_swF c11 (am_swF c14 (am_swF c16 (am_swF c19 (am_swF c22 (rfl)))))))))) ?_
                    refine x_ld (v := .ref 106) r115_118 rfl rfl rfl ?_
                    refine x_ld (v := .int v1) r115_119 rfl rfl rfl ?_
                    obtain ⟨q25, h26, h⟩ := Option.bind_eq_some_iff.mp h
                    refine x_call1 (as := [.ref 106, .int v1]) (rest := []) r115_120 rfl rfl rfl (by decide) (Nat.le_of_ble_eq_true rfl) (m113_ok h26) (Nat.le_trans (by decide) hd) (Nat.zero_le _) (Nat.zero_le _) rfl ?_
                    cases h
                    exact x_ret (ret := some .int) (C := True) (v := some (.int _)) r115_123 rt115 rfl rfl rfl rfl rfl rfl rfl rfl trivial hQ
theorem m115_ok {N : Nat} {D : am_D} {v1 : Int32} {v2 : Int32} {r : Int32 × am_D} (h : m115 N D v1 v2 = some r) : am_Y xs L 115 8 0 0 [.ref 106, .int v1, .int v2] D (.inl (some (.int r.1))) r.2 := am_Yof (mi := am_m115) (lc := [.ref 106, .int v1, .int v2]) pg115 (Nat.le_of_ble_eq_true rfl) (am_rc1 (ci := 8) rfl rfl rfl rfl rfl) rfl (fun Q hQ => m115_w (Nat.le_refl _) h hQ)
theorem r116_0 : am_at 116 0 = some (.aload_n 0, 1, [0]) := by decide +kernel
theorem r116_1 : am_at 116 1 = some (.iload_n 1, 1, [1]) := by decide +kernel
theorem r116_2 : am_at 116 2 = some (.invokestatic 133, 3, [48, 1, 1302, 0]) := by decide +kernel
theorem r116_5 : am_at 116 5 = some (.ifCond .ne (7), 3, [12]) := by decide +kernel
theorem r116_8 : am_at 116 8 = some (.iconst (1), 1, []) := by decide +kernel
theorem r116_9 : am_at 116 9 = some (.goto (18), 3, [27]) := by decide +kernel
theorem r116_12 : am_at 116 12 = some (.iload_n 2, 1, [2]) := by decide +kernel
theorem r116_13 : am_at 116 13 = some (.iconst (0), 1, []) := by decide +kernel
theorem r116_14 : am_at 116 14 = some (.bipush (9), 2, []) := by decide +kernel
theorem r116_16 : am_at 116 16 = some (.invokestatic 65, 3, [46, 3, 1305, 0]) := by decide +kernel
theorem r116_19 : am_at 116 19 = some (.ifCond .ne (7), 3, [26]) := by decide +kernel
theorem r116_22 : am_at 116 22 = some (.iconst (2), 1, []) := by decide +kernel
theorem r116_23 : am_at 116 23 = some (.goto (4), 3, [27]) := by decide +kernel
theorem r116_26 : am_at 116 26 = some (.iconst (0), 1, []) := by decide +kernel
theorem r116_27 : am_at 116 27 = some (.invokevirtual 142, 3, [47, 2, 1323, 0]) := by decide +kernel
theorem r116_30 : am_at 116 30 = some (.ifCond .eq (12), 3, [42]) := by decide +kernel
theorem r116_33 : am_at 116 33 = some (.aload_n 0, 1, [0]) := by decide +kernel
theorem r116_34 : am_at 116 34 = some (.iload_n 1, 1, [1]) := by decide +kernel
theorem r116_35 : am_at 116 35 = some (.iload_n 2, 1, [2]) := by decide +kernel
theorem r116_36 : am_at 116 36 = some (.invokevirtual 240, 3, [115, 3, 1560, 0]) := by decide +kernel
theorem r116_39 : am_at 116 39 = some (.goto (4), 3, [43]) := by decide +kernel
theorem r116_42 : am_at 116 42 = some (.iconst (0), 1, []) := by decide +kernel
theorem r116_43 : am_at 116 43 = some (.ireturn, 1, []) := by decide +kernel
theorem rt116 : am_rtt 116 = some (some .int) := by decide +kernel
set_option maxRecDepth 100000 in
theorem pg116 : am_pg[116]? = some am_m116 := rfl
theorem m116_w {d mc ms : Nat} {N : Nat} {D : am_D} {v1 : Int32} {v2 : Int32} {Q : am_O → am_AH → Prop} (hd : 9 ≤ d) {r : Int32 × am_D} (h : m116 N D v1 v2 = some r) (hQ : Q (.inl (some (.int r.1))) (am_mk r.2)) : am_X xs L 116 d mc ms 0 [.ref 106, .int v1, .int v2] [] (am_mk D) 0 0 Q := by
  unfold m116 at h
  refine x_ld (v := .ref 106) r116_0 rfl rfl rfl ?_
  refine x_ld (v := .int v1) r116_1 rfl rfl rfl ?_
  refine x_call1 (as := [.int v1]) (rest := [.ref 106]) r116_2 rfl rfl rfl (by decide) (Nat.le_of_ble_eq_true rfl) (m48_ok rfl) (Nat.le_trans (by decide) hd) (Nat.zero_le _) (Nat.zero_le _) rfl ?_
  obtain ⟨q1, h3, h⟩ := am_ltE h
  replace h3 := h3.symm
  have kj2 : am_X xs L 116 d mc ms 27 [.ref 106, .int v1, .int v2] [.int q1, .ref 106] (am_mk D) 0 0 Q := by
    obtain ⟨q6, h7, h⟩ := am_ltE h
    replace h7 := h7.symm
    refine x_call1 (as := [.ref 106, .int q1]) (rest := []) r116_27 rfl rfl rfl (by decide) (Nat.le_of_ble_eq_true rfl) (m47_ok h7) (Nat.le_trans (by decide) hd) (Nat.zero_le _) (Nat.zero_le _) rfl ?_
    rcases am_ifE h with ⟨c8, h⟩ | ⟨c8, h⟩
    · refine x_ifeqT r116_30 c8 ?_
      refine x_ic (v := 0) r116_42 rfl rfl ?_
      cases h
      exact x_ret (ret := some .int) (C := True) (v := some (.int _)) r116_43 rt116 rfl rfl rfl rfl rfl rfl rfl rfl trivial hQ
    · refine x_ifeqF r116_30 c8 rfl ?_
      refine x_ld (v := .ref 106) r116_33 rfl rfl rfl ?_
      refine x_ld (v := .int v1) r116_34 rfl rfl rfl ?_
      refine x_ld (v := .int v2) r116_35 rfl rfl rfl ?_
      obtain ⟨q9, h10, h⟩ := Option.bind_eq_some_iff.mp h
      refine x_call1 (as := [.ref 106, .int v1, .int v2]) (rest := []) r116_36 rfl rfl rfl (by decide) (Nat.le_of_ble_eq_true rfl) (m115_ok h10) (Nat.le_trans (by decide) hd) (Nat.zero_le _) (Nat.zero_le _) rfl ?_
      refine x_goto r116_39 ?_
      cases h
      exact x_ret (ret := some .int) (C := True) (v := some (.int _)) r116_43 rt116 rfl rfl rfl rfl rfl rfl rfl rfl trivial hQ
  rcases am_ifE h3 with ⟨c4, h3⟩ | ⟨c4, h3⟩
  · refine x_ifneT r116_5 c4 rfl ?_
    refine x_ic (v := 1) r116_8 rfl rfl ?_
    refine x_goto r116_9 ?_
    subst h3
    exact kj2
  · refine x_ifneF r116_5 c4 ?_
    refine x_ld (v := .int v2) r116_12 rfl rfl rfl ?_
    refine x_ic (v := 0) r116_13 rfl rfl ?_
    refine x_bi (v := 9) r116_14 rfl rfl ?_
    refine x_call1 (as := [.int v2, .int (0 : Int32), .int (9 : Int32)]) (rest := [.ref 106]) r116_16 rfl rfl rfl (by decide) (Nat.le_of_ble_eq_true rfl) (m46_ok rfl) (Nat.le_trans (by decide) hd) (Nat.zero_le _) (Nat.zero_le _) rfl ?_
    rcases am_ifE h3 with ⟨c5, h3⟩ | ⟨c5, h3⟩
    · refine x_ifneT r116_19 c5 rfl ?_
      refine x_ic (v := 2) r116_22 rfl rfl ?_
      refine x_goto r116_23 ?_
      subst h3
      exact kj2
    · refine x_ifneF r116_19 c5 ?_
      refine x_ic (v := 0) r116_26 rfl rfl ?_
      subst h3
      exact kj2
theorem m116_ok {N : Nat} {D : am_D} {v1 : Int32} {v2 : Int32} {r : Int32 × am_D} (h : m116 N D v1 v2 = some r) : am_Y xs L 116 9 0 0 [.ref 106, .int v1, .int v2] D (.inl (some (.int r.1))) r.2 := am_Yof (mi := am_m116) (lc := [.ref 106, .int v1, .int v2]) pg116 (Nat.le_of_ble_eq_true rfl) (am_rc1 (ci := 8) rfl rfl rfl rfl rfl) rfl (fun Q hQ => m116_w (Nat.le_refl _) h hQ)
theorem r117_0 : am_at 117 0 = some (.iload_n 1, 1, [1]) := by decide +kernel
theorem r117_1 : am_at 117 1 = some (.tableswitch (219) (0) (17) #[87, 94, 115, 122, 130, 135, 140, 145, 145, 158, 158, 158, 171, 178, 186, 192, 205, 212], 87, [220, 0, 88, 1, 95, 2, 116, 3, 123, 4, 131, 5, 136, 6, 141, 7, 146, 8, 146, 9, 159, 10, 159, 11, 159, 12, 172, 13, 179, 14, 187, 15, 193, 16, 206, 17, 213]) := by decide +kernel
theorem r117_88 : am_at 117 88 = some (.aload_n 0, 1, [0]) := by decide +kernel
theorem r117_89 : am_at 117 89 = some (.getfield 7, 3, [8, 1, 3, 1216]) := by decide +kernel
theorem r117_92 : am_at 117 92 = some (.iconst (0), 1, []) := by decide +kernel
theorem r117_93 : am_at 117 93 = some (.iaload, 1, []) := by decide +kernel
theorem r117_94 : am_at 117 94 = some (.ireturn, 1, []) := by decide +kernel
theorem r117_95 : am_at 117 95 = some (.aload_n 0, 1, [0]) := by decide +kernel
theorem r117_96 : am_at 117 96 = some (.getfield 7, 3, [8, 1, 3, 1216]) := by decide +kernel
theorem r117_99 : am_at 117 99 = some (.iconst (0), 1, []) := by decide +kernel
theorem r117_100 : am_at 117 100 = some (.iaload, 1, []) := by decide +kernel
theorem r117_101 : am_at 117 101 = some (.iconst (1), 1, []) := by decide +kernel
theorem r117_102 : am_at 117 102 = some (.if_icmp .ne (12), 3, [114]) := by decide +kernel
theorem r117_105 : am_at 117 105 = some (.aload_n 0, 1, [0]) := by decide +kernel
theorem r117_106 : am_at 117 106 = some (.getfield 7, 3, [8, 1, 3, 1216]) := by decide +kernel
theorem r117_109 : am_at 117 109 = some (.iconst (1), 1, []) := by decide +kernel
theorem r117_110 : am_at 117 110 = some (.iaload, 1, []) := by decide +kernel
theorem r117_111 : am_at 117 111 = some (.goto (4), 3, [115]) := by decide +kernel
theorem r117_114 : am_at 117 114 = some (.iconst (-1), 1, []) := by decide +kernel
theorem r117_115 : am_at 117 115 = some (.ireturn, 1, []) := by decide +kernel
theorem r117_116 : am_at 117 116 = some (.aload_n 0, 1, [0]) := by decide +kernel
theorem r117_117 : am_at 117 117 = some (.getfield 7, 3, [8, 1, 3, 1216]) := by decide +kernel
theorem r117_120 : am_at 117 120 = some (.iconst (2), 1, []) := by decide +kernel
theorem r117_121 : am_at 117 121 = some (.iaload, 1, []) := by decide +kernel
theorem r117_122 : am_at 117 122 = some (.ireturn, 1, []) := by decide +kernel
theorem r117_123 : am_at 117 123 = some (.aload_n 0, 1, [0]) := by decide +kernel
theorem r117_124 : am_at 117 124 = some (.getfield 7, 3, [8, 1, 3, 1216]) := by decide +kernel
theorem r117_127 : am_at 117 127 = some (.bipush (12), 2, []) := by decide +kernel
theorem r117_129 : am_at 117 129 = some (.iaload, 1, []) := by decide +kernel
theorem r117_130 : am_at 117 130 = some (.ireturn, 1, []) := by decide +kernel
theorem r117_131 : am_at 117 131 = some (.aload_n 0, 1, [0]) := by decide +kernel
theorem r117_132 : am_at 117 132 = some (.invokevirtual 84, 3, [59, 1, 1374, 0]) := by decide +kernel
theorem r117_135 : am_at 117 135 = some (.ireturn, 1, []) := by decide +kernel
theorem r117_136 : am_at 117 136 = some (.aload_n 0, 1, [0]) := by decide +kernel
theorem r117_137 : am_at 117 137 = some (.invokevirtual 88, 3, [61, 1, 1378, 0]) := by decide +kernel
theorem r117_140 : am_at 117 140 = some (.ireturn, 1, []) := by decide +kernel
theorem r117_141 : am_at 117 141 = some (.aload_n 0, 1, [0]) := by decide +kernel
theorem r117_142 : am_at 117 142 = some (.invokevirtual 115, 3, [64, 1, 1406, 0]) := by decide +kernel
theorem r117_145 : am_at 117 145 = some (.ireturn, 1, []) := by decide +kernel
theorem r117_146 : am_at 117 146 = some (.aload_n 0, 1, [0]) := by decide +kernel
theorem r117_147 : am_at 117 147 = some (.getfield 7, 3, [8, 1, 3, 1216]) := by decide +kernel
theorem r117_150 : am_at 117 150 = some (.bipush (6), 2, []) := by decide +kernel
theorem r117_152 : am_at 117 152 = some (.iload_n 1, 1, [1]) := by decide +kernel
theorem r117_153 : am_at 117 153 = some (.iadd, 1, []) := by decide +kernel
theorem r117_154 : am_at 117 154 = some (.bipush (7), 2, []) := by decide +kernel
theorem r117_156 : am_at 117 156 = some (.isub, 1, []) := by decide +kernel
theorem r117_157 : am_at 117 157 = some (.iaload, 1, []) := by decide +kernel
theorem r117_158 : am_at 117 158 = some (.ireturn, 1, []) := by decide +kernel
theorem r117_159 : am_at 117 159 = some (.aload_n 0, 1, [0]) := by decide +kernel
theorem r117_160 : am_at 117 160 = some (.getfield 7, 3, [8, 1, 3, 1216]) := by decide +kernel
theorem r117_163 : am_at 117 163 = some (.bipush (8), 2, []) := by decide +kernel
theorem r117_165 : am_at 117 165 = some (.iload_n 1, 1, [1]) := by decide +kernel
theorem r117_166 : am_at 117 166 = some (.iadd, 1, []) := by decide +kernel
theorem r117_167 : am_at 117 167 = some (.bipush (9), 2, []) := by decide +kernel
theorem r117_169 : am_at 117 169 = some (.isub, 1, []) := by decide +kernel
theorem r117_170 : am_at 117 170 = some (.iaload, 1, []) := by decide +kernel
theorem r117_171 : am_at 117 171 = some (.ireturn, 1, []) := by decide +kernel
theorem r117_172 : am_at 117 172 = some (.aload_n 0, 1, [0]) := by decide +kernel
theorem r117_173 : am_at 117 173 = some (.getfield 7, 3, [8, 1, 3, 1216]) := by decide +kernel
theorem r117_176 : am_at 117 176 = some (.iconst (4), 1, []) := by decide +kernel
theorem r117_177 : am_at 117 177 = some (.iaload, 1, []) := by decide +kernel
theorem r117_178 : am_at 117 178 = some (.ireturn, 1, []) := by decide +kernel
theorem r117_179 : am_at 117 179 = some (.aload_n 0, 1, [0]) := by decide +kernel
theorem r117_180 : am_at 117 180 = some (.getfield 7, 3, [8, 1, 3, 1216]) := by decide +kernel
theorem r117_183 : am_at 117 183 = some (.bipush (11), 2, []) := by decide +kernel
theorem r117_185 : am_at 117 185 = some (.iaload, 1, []) := by decide +kernel
theorem r117_186 : am_at 117 186 = some (.ireturn, 1, []) := by decide +kernel
theorem r117_187 : am_at 117 187 = some (.aload_n 0, 1, [0]) := by decide +kernel
theorem r117_188 : am_at 117 188 = some (.iconst (5), 1, []) := by decide +kernel
theorem r117_189 : am_at 117 189 = some (.invokevirtual 121, 3, [57, 2, 1319, 0]) := by decide +kernel
theorem r117_192 : am_at 117 192 = some (.ireturn, 1, []) := by decide +kernel
theorem r117_193 : am_at 117 193 = some (.aload_n 0, 1, [0]) := by decide +kernel
theorem r117_194 : am_at 117 194 = some (.invokevirtual 101, 3, [66, 1, 1394, 0]) := by decide +kernel
theorem r117_197 : am_at 117 197 = some (.ifCond .eq (7), 3, [204]) := by decide +kernel
theorem r117_200 : am_at 117 200 = some (.iconst (1), 1, []) := by decide +kernel
theorem r117_201 : am_at 117 201 = some (.goto (4), 3, [205]) := by decide +kernel
theorem r117_204 : am_at 117 204 = some (.iconst (0), 1, []) := by decide +kernel
theorem r117_205 : am_at 117 205 = some (.ireturn, 1, []) := by decide +kernel
theorem r117_206 : am_at 117 206 = some (.aload_n 0, 1, [0]) := by decide +kernel
theorem r117_207 : am_at 117 207 = some (.getfield 7, 3, [8, 1, 3, 1216]) := by decide +kernel
theorem r117_210 : am_at 117 210 = some (.iconst (5), 1, []) := by decide +kernel
theorem r117_211 : am_at 117 211 = some (.iaload, 1, []) := by decide +kernel
theorem r117_212 : am_at 117 212 = some (.ireturn, 1, []) := by decide +kernel
theorem r117_213 : am_at 117 213 = some (.aload_n 0, 1, [0]) := by decide +kernel
theorem r117_214 : am_at 117 214 = some (.getfield 7, 3, [8, 1, 3, 1216]) := by decide +kernel
theorem r117_217 : am_at 117 217 = some (.iconst (3), 1, []) := by decide +kernel
theorem r117_218 : am_at 117 218 = some (.iaload, 1, []) := by decide +kernel
theorem r117_219 : am_at 117 219 = some (.ireturn, 1, []) := by decide +kernel
theorem r117_220 : am_at 117 220 = some (.aload_n 0, 1, [0]) := by decide +kernel
theorem r117_221 : am_at 117 221 = some (.getfield 127, 3, [8, 2, 0, 1217]) := by decide +kernel
theorem r117_224 : am_at 117 224 = some (.ireturn, 1, []) := by decide +kernel
theorem rt117 : am_rtt 117 = some (some .int) := by decide +kernel
set_option maxRecDepth 100000 in
theorem pg117 : am_pg[117]? = some am_m117 := rfl
theorem m117_w {d mc ms : Nat} {N : Nat} {D : am_D} {v1 : Int32} {Q : am_O → am_AH → Prop} (hd : 5 ≤ d) {r : Int32} (h : m117 N D v1 = some r) (hQ : Q (.inl (some (.int r))) (am_mk D)) : am_X xs L 117 d mc ms 0 [.ref 106, .int v1] [] (am_mk D) 0 0 Q := by
  unfold m117 at h
  refine x_ld (v := .int v1) r117_0 rfl rfl rfl ?_
  rcases am_ifE h with ⟨c1, h⟩ | ⟨c1, h⟩
  · refine x_tsw (p' := 88) r117_1 (am_swT c1) ?_
    refine x_ld (v := .ref 106) r117_88 rfl rfl rfl ?_
    refine y_gf (cd := 109) (v := .ref 107) r117_89 rfl rfl rfl ?_
    refine x_ic (v := 0) r117_92 rfl rfl ?_
    refine y_ial (n := 1320) r117_93 rfl (by decide) (by decide) (e := 0) (by decide) rfl ?_
    cases h
    exact x_ret (ret := some .int) (C := True) (v := some (.int _)) r117_94 rt117 rfl rfl rfl rfl rfl rfl rfl rfl trivial hQ
  · rcases am_ifE h with ⟨c2, h⟩ | ⟨c2, h⟩
    · refine x_tsw (p' := 95) r117_1 (am_swF c1 (am_swT c2)) ?_
      refine x_ld (v := .ref 106) r117_95 rfl rfl rfl ?_
      refine y_gf (cd := 109) (v := .ref 107) r117_96 rfl rfl rfl ?_
      refine x_ic (v := 0) r117_99 rfl rfl ?_
      refine y_ial (n := 1320) r117_100 rfl (by decide) (by decide) (e := 0) (by decide) rfl ?_
      refine x_ic (v := 1) r117_101 rfl rfl ?_
      rcases am_ifE h with ⟨c3, h⟩ | ⟨c3, h⟩
      · refine x_icneT r117_102 c3 rfl ?_
        refine x_ld (v := .ref 106) r117_105 rfl rfl rfl ?_
        refine y_gf (cd := 109) (v := .ref 107) r117_106 rfl rfl rfl ?_
        refine x_ic (v := 1) r117_109 rfl rfl ?_
        refine y_ial (n := 1320) r117_110 rfl (by decide) (by decide) (e := 1) (by decide) rfl ?_
        refine x_goto r117_111 ?_
        cases h
        exact x_ret (ret := some .int) (C := True) (v := some (.int _)) r117_115 rt117 rfl rfl rfl rfl rfl rfl rfl rfl trivial hQ
      · refine x_icneF r117_102 c3 ?_
        refine x_ic (v := -1) r117_114 rfl rfl ?_
        cases h
        exact x_ret (ret := some .int) (C := True) (v := some (.int _)) r117_115 rt117 rfl rfl rfl rfl rfl rfl rfl rfl trivial hQ
    · rcases am_ifE h with ⟨c4, h⟩ | ⟨c4, h⟩
      · refine x_tsw (p' := 116) r117_1 (am_swF c1 (am_swF c2 (am_swT c4))) ?_
        refine x_ld (v := .ref 106) r117_116 rfl rfl rfl ?_
        refine y_gf (cd := 109) (v := .ref 107) r117_117 rfl rfl rfl ?_
        refine x_ic (v := 2) r117_120 rfl rfl ?_
        refine y_ial (n := 1320) r117_121 rfl (by decide) (by decide) (e := 2) (by decide) rfl ?_
        cases h
        exact x_ret (ret := some .int) (C := True) (v := some (.int _)) r117_122 rt117 rfl rfl rfl rfl rfl rfl rfl rfl trivial hQ
      · rcases am_ifE h with ⟨c5, h⟩ | ⟨c5, h⟩
        · refine x_tsw (p' := 123) r117_1 (am_swF c1 (am_swF c2 (am_swF c4 (am_swT c5)))) ?_
          refine x_ld (v := .ref 106) r117_123 rfl rfl rfl ?_
          refine y_gf (cd := 109) (v := .ref 107) r117_124 rfl rfl rfl ?_
          refine x_bi (v := 12) r117_127 rfl rfl ?_
          refine y_ial (n := 1320) r117_129 rfl (by decide) (by decide) (e := 12) (by decide) rfl ?_
          cases h
          exact x_ret (ret := some .int) (C := True) (v := some (.int _)) r117_130 rt117 rfl rfl rfl rfl rfl rfl rfl rfl trivial hQ
        · rcases am_ifE h with ⟨c6, h⟩ | ⟨c6, h⟩
          · refine x_tsw (p' := 131) r117_1 (am_swF c1 (am_swF c2 (am_swF c4 (am_swF c5 (am_swT c6))))) ?_
            refine x_ld (v := .ref 106) r117_131 rfl rfl rfl ?_
            refine x_call1 (as := [.ref 106]) (rest := []) r117_132 rfl rfl rfl (by decide) (Nat.le_of_ble_eq_true rfl) (m59_ok rfl) (Nat.le_trans (by decide) hd) (Nat.zero_le _) (Nat.zero_le _) rfl ?_
            cases h
            exact x_ret (ret := some .int) (C := True) (v := some (.int _)) r117_135 rt117 rfl rfl rfl rfl rfl rfl rfl rfl trivial hQ
          · rcases am_ifE h with ⟨c7, h⟩ | ⟨c7, h⟩
            · refine x_tsw (p' := 136) r117_1 (am_swF c1 (am_swF c2 (am_swF c4 (am_swF c5 (am_swF c6 (am_swT c7)))))) ?_
              refine x_ld (v := .ref 106) r117_136 rfl rfl rfl ?_
              obtain ⟨q8, h9, h⟩ := Option.bind_eq_some_iff.mp h
              refine x_call1 (as := [.ref 106]) (rest := []) r117_137 rfl rfl rfl (by decide) (Nat.le_of_ble_eq_true rfl) (m61_ok h9) (Nat.le_trans (by decide) hd) (Nat.zero_le _) (Nat.zero_le _) rfl ?_
              cases h
              exact x_ret (ret := some .int) (C := True) (v := some (.int _)) r117_140 rt117 rfl rfl rfl rfl rfl rfl rfl rfl trivial hQ
            · rcases am_ifE h with ⟨c10, h⟩ | ⟨c10, h⟩
              · refine x_tsw (p' := 141) r117_1 (am_swF c1 (am_swF c2 (am_swF c4 (am_swF c5 (am_swF c6 (am_swF c7 (am_swT c10))))))) ?_
                refine x_ld (v := .ref 106) r117_141 rfl rfl rfl ?_
                obtain ⟨q11, h12, h⟩ := Option.bind_eq_some_iff.mp h
                refine x_call1 (as := [.ref 106]) (rest := []) r117_142 rfl rfl rfl (by decide) (Nat.le_of_ble_eq_true rfl) (m64_ok h12) (Nat.le_trans (by decide) hd) (Nat.zero_le _) (Nat.zero_le _) rfl ?_
                cases h
                exact x_ret (ret := some .int) (C := True) (v := some (.int _)) r117_145 rt117 rfl rfl rfl rfl rfl rfl rfl rfl trivial hQ
              · rcases am_ifE h with ⟨c13, h⟩ | ⟨c13, h⟩
                · refine x_tsw (p' := 146) r117_1 (am_swF c1 (am_swF c2 (am_swF c4 (am_swF c5 (am_swF c6 (am_swF c7 (am_swF c10 (am_swT c13)))))))) ?_
                  refine x_ld (v := .ref 106) r117_146 rfl rfl rfl ?_
                  refine y_gf (cd := 109) (v := .ref 107) r117_147 rfl rfl rfl ?_
                  refine x_bi (v := 6) r117_150 rfl rfl ?_
                  refine x_ld (v := .int v1) r117_152 rfl rfl rfl ?_
                  refine x_ar r117_153 rfl trivial rfl ?_
                  refine x_bi (v := 7) r117_154 rfl rfl ?_
                  refine x_ar r117_156 rfl trivial rfl ?_
                  obtain ⟨g14, h⟩ := am_gdE h
                  refine y_ial (n := 1320) r117_157 rfl (by decide) g14 rfl rfl ?_
                  cases h
                  exact x_ret (ret := some .int) (C := True) (v := some (.int _)) r117_158 rt117 rfl rfl rfl rfl rfl rfl rfl rfl trivial hQ
                · rcases am_ifE h with ⟨c15, h⟩ | ⟨c15, h⟩
                  · refine x_tsw (p' := 146) r117_1 (am_swF c1 (am_swF c2 (am_swF c4 (am_swF c5 (am_swF c6 (am_swF c7 (am_swF c10 (am_swF c13 (am_swT c15))))))))) ?_
                    refine x_ld (v := .ref 106) r117_146 rfl rfl rfl ?_
                    refine y_gf (cd := 109) (v := .ref 107) r117_147 rfl rfl rfl ?_
                    refine x_bi (v := 6) r117_150 rfl rfl ?_
                    refine x_ld (v := .int v1) r117_152 rfl rfl rfl ?_
                    refine x_ar r117_153 rfl trivial rfl ?_
                    refine x_bi (v := 7) r117_154 rfl rfl ?_
                    refine x_ar r117_156 rfl trivial rfl ?_
                    obtain ⟨g16, h⟩ := am_gdE h
                    refine y_ial (n := 1320) r117_157 rfl (by decide) g16 rfl rfl ?_
                    cases h
                    exact x_ret (ret := some .int) (C := True) (v := some (.int _)) r117_158 rt117 rfl rfl rfl rfl rfl rfl rfl rfl trivial hQ
                  · rcases am_ifE h with ⟨c17, h⟩ | ⟨c17, h⟩
                    · refine x_tsw (p' := 159) r117_1 (am_swF c1 (am_swF c2 (am_swF c4 (am_swF c5 (am_swF c6 (am_swF c7 (am_swF c10 (am_swF c13 (am_swF c15 (am_swT c17)))))))))) ?_
                      refine x_ld (v := .ref 106) r117_159 rfl rfl rfl ?_
                      refine y_gf (cd := 109) (v := .ref 107) r117_160 rfl rfl rfl ?_
                      refine x_bi (v := 8) r117_163 rfl rfl ?_
                      refine x_ld (v := .int v1) r117_165 rfl rfl rfl ?_
                      refine x_ar r117_166 rfl trivial rfl ?_
                      refine x_bi (v := 9) r117_167 rfl rfl ?_
                      refine x_ar r117_169 rfl trivial rfl ?_
                      obtain ⟨g18, h⟩ := am_gdE h
                      refine y_ial (n := 1320) r117_170 rfl (by decide) g18 rfl rfl ?_
                      cases h
                      exact x_ret (ret := some .int) (C := True) (v := some (.int _)) r117_171 rt117 rfl rfl rfl rfl rfl rfl rfl rfl trivial hQ
                    · rcases am_ifE h with ⟨c19, h⟩ | ⟨c19, h⟩
                      · refine x_tsw (p' := 159) r117_1 (am_swF c1 (am_swF c2 (am_swF c4 (am_swF c5 (am_swF c6 (am_swF c7 (am_swF c10 (am_swF c13 (am_swF c15 (am_swF c17 (am_swT c19))))))))))) ?_
                        refine x_ld (v := .ref 106) r117_159 rfl rfl rfl ?_
                        refine y_gf (cd := 109) (v := .ref 107) r117_160 rfl rfl rfl ?_
                        refine x_bi (v := 8) r117_163 rfl rfl ?_
                        refine x_ld (v := .int v1) r117_165 rfl rfl rfl ?_
                        refine x_ar r117_166 rfl trivial rfl ?_
                        refine x_bi (v := 9) r117_167 rfl rfl ?_
                        refine x_ar r117_169 rfl trivial rfl ?_
                        obtain ⟨g20, h⟩ := am_gdE h
                        refine y_ial (n := 1320) r117_170 rfl (by decide) g20 rfl rfl ?_
                        cases h
                        exact x_ret (ret := some .int) (C := True) (v := some (.int _)) r117_171 rt117 rfl rfl rfl rfl rfl rfl rfl rfl trivial hQ
                      · rcases am_ifE h with ⟨c21, h⟩ | ⟨c21, h⟩
                        · refine x_tsw (p' := 159) r117_1 (am_swF c1 (am_swF c2 (am_swF c4 (am_swF c5 (am_swF c6 (am_swF c7 (am_swF c10 (am_swF c13 (am_swF c15 (am_swF c17 (am_swF c19 (am_swT c21)))))))))))) ?_
                          refine x_ld (v := .ref 106) r117_159 rfl rfl rfl ?_
                          refine y_gf (cd := 109) (v := .ref 107) r117_160 rfl rfl rfl ?_
                          refine x_bi (v := 8) r117_163 rfl rfl ?_
                          refine x_ld (v := .int v1) r117_165 rfl rfl rfl ?_
                          refine x_ar r117_166 rfl trivial rfl ?_
                          refine x_bi (v := 9) r117_167 rfl rfl ?_
                          refine x_ar r117_169 rfl trivial rfl ?_
                          obtain ⟨g22, h⟩ := am_gdE h
                          refine y_ial (n := 1320) r117_170 rfl (by decide) g22 rfl rfl ?_
                          cases h
                          exact x_ret (ret := some .int) (C := True) (v := some (.int _)) r117_171 rt117 rfl rfl rfl rfl rfl rfl rfl rfl trivial hQ
                        · rcases am_ifE h with ⟨c23, h⟩ | ⟨c23, h⟩
                          · refine x_tsw (p' := 172) r117_1 (am_swF c1 (am_swF c2 (am_swF c4 (am_swF c5 (am_swF c6 (am_swF c7 (am_swF c10 (am_swF c13 (am_swF c15 (am_swF c17 (am_swF c19 (am_swF c21 (am_swT c23))))))))))))) ?_
                            refine x_ld (v := .ref 106) r117_172 rfl rfl rfl ?_
                            refine y_gf (cd := 109) (v := .ref 107) r117_173 rfl rfl rfl ?_
                            refine x_ic (v := 4) r117_176 rfl rfl ?_
                            refine y_ial (n := 1320) r117_177 rfl (by decide) (by decide) (e := 4) (by decide) rfl ?_
                            cases h
                            exact x_ret (ret := some .int) (C := True) (v := some (.int _)) r117_178 rt117 rfl rfl rfl rfl rfl rfl rfl rfl trivial hQ
                          · rcases am_ifE h with ⟨c24, h⟩ | ⟨c24, h⟩
                            · refine x_tsw (p' := 179) r117_1 (am_swF c1 (am_swF c2 (am_swF c4 (am_swF c5 (am_swF c6 (am_swF c7 (am_swF c10 (am_swF c13 (am_swF c15 (am_swF c17 (am_swF c19 (am_swF c21 (am_swF c23 (am_swT c24)))))))))))))) ?_
                              refine x_ld (v := .ref 106) r117_179 rfl rfl rfl ?_
                              refine y_gf (cd := 109) (v := .ref 107) r117_180 rfl rfl rfl ?_
                              refine x_bi (v := 11) r117_183 rfl rfl ?_
                              refine y_ial (n := 1320) r117_185 rfl (by decide) (by decide) (e := 11) (by decide) rfl ?_
                              cases h
                              exact x_ret (ret := some .int) (C := True) (v := some (.int _)) r117_186 rt117 rfl rfl rfl rfl rfl rfl rfl rfl trivial hQ
                            · rcases am_ifE h with ⟨c25, h⟩ | ⟨c25, h⟩
                              · refine x_tsw (p' := 187) r117_1 (am_swF c1 (am_swF c2 (am_swF c4 (am_swF c5 (am_swF c6 (am_swF c7 (am_swF c10 (am_swF c13 (am_swF c15 (am_swF c17 (am_swF c19 (am_swF c21 (am_swF c23 (am_swF c24 (am_swT c25))))))))))))))) ?_
                                refine x_ld (v := .ref 106) r117_187 rfl rfl rfl ?_
                                refine x_ic (v := 5) r117_188 rfl rfl ?_
                                obtain ⟨q26, h27, h⟩ := Option.bind_eq_some_iff.mp h
                                refine x_call1 (as := [.ref 106, .int (5 : Int32)]) (rest := []) r117_189 rfl rfl rfl (by decide) (Nat.le_of_ble_eq_true rfl) (m57_ok h27) (Nat.le_trans (by decide) hd) (Nat.zero_le _) (Nat.zero_le _) rfl ?_
                                cases h
                                exact x_ret (ret := some .int) (C := True) (v := some (.int _)) r117_192 rt117 rfl rfl rfl rfl rfl rfl rfl rfl trivial hQ
                              · rcases am_ifE h with ⟨c28, h⟩ | ⟨c28, h⟩
                                · refine x_tsw (p' := 193) r117_1 (am_swF c1 (am_swF c2 (am_swF c4 (am_swF c5 (am_swF c6 (am_swF c7 (am_swF c10 (am_swF c13 (am_swF c15 (am_swF c17 (am_swF c19 (am_swF c21 (am_swF c23 (am_swF c24 (am_swF c25 (am_swT c28)))))))))))))))) ?_
                                  refine x_ld (v := .ref 106) r117_193 rfl rfl rfl ?_
                                  refine x_call1 (as := [.ref 106]) (rest := []) r117_194 rfl rfl rfl (by decide) (Nat.le_of_ble_eq_true rfl) (m66_ok rfl) (Nat.le_trans (by decide) hd) (Nat.zero_le _) (Nat.zero_le _) rfl ?_
                                  rcases am_ifE h with ⟨c29, h⟩ | ⟨c29, h⟩
                                  · refine x_ifeqT r117_197 c29 ?_
                                    refine x_ic (v := 0) r117_204 rfl rfl ?_
                                    cases h
                                    exact x_ret (ret := some .int) (C := True) (v := some (.int _)) r117_205 rt117 rfl rfl rfl rfl rfl rfl rfl rfl trivial hQ
                                  · refine x_ifeqF r117_197 c29 rfl ?_
                                    refine x_ic (v := 1) r117_200 rfl rfl ?_
                                    refine x_goto r117_201 ?_
                                    cases h
                                    exact x_ret (ret := some .int) (C := True) (v := some (.int _)) r117_205 rt117 rfl rfl rfl rfl rfl rfl rfl rfl trivial hQ
                                · rcases am_ifE h with ⟨c30, h⟩ | ⟨c30, h⟩
                                  · refine x_tsw (p' := 206) r117_1 (am_swF c1 (am_swF c2 (am_swF c4 (am_swF c5 (am_swF c6 (am_swF c7 (am_swF c10 (am_swF c13 (am_swF c15 (am_swF c17 (am_swF c19 (am_swF c21 (am_swF c23 (am_swF c24 (am_swF c25 (am_swF c28 (am_swT c30))))))))))))))))) ?_
                                    refine x_ld (v := .ref 106) r117_206 rfl rfl rfl ?_
                                    refine y_gf (cd := 109) (v := .ref 107) r117_207 rfl rfl rfl ?_
                                    refine x_ic (v := 5) r117_210 rfl rfl ?_
                                    refine y_ial (n := 1320) r117_211 rfl (by decide) (by decide) (e := 5) (by decide) rfl ?_
                                    cases h
                                    exact x_ret (ret := some .int) (C := True) (v := some (.int _)) r117_212 rt117 rfl rfl rfl rfl rfl rfl rfl rfl trivial hQ
                                  · rcases am_ifE h with ⟨c31, h⟩ | ⟨c31, h⟩
                                    · refine x_tsw (p' := 213) r117_1 (am_swF c1 (am_swF c2 (am_swF c4 (am_swF c5 (am_swF c6 (am_swF c7 (am_swF c10 (am_swF c13 (am_swF c15 (am_swF c17 (am_swF c19 (am_swF c21 (am_swF c23 (am_swF c24 (am_swF c25 (am_swF c28 (am_swF c30 (am_swT c31)))))))))))))))))) ?_
                                      refine x_ld (v := .ref 106) r117_213 rfl rfl rfl ?_
                                      refine y_gf (cd := 109) (v := .ref 107) r117_214 rfl rfl rfl ?_
                                      refine x_ic (v := 3) r117_217 rfl rfl ?_
                                      refine y_ial (n := 1320) r117_218 rfl (by decide) (by decide) (e := 3) (by decide) rfl ?_
                                      cases h
                                      exact x_ret (ret := some .int) (C := True) (v := some (.int _)) r117_219 rt117 rfl rfl rfl rfl rfl rfl rfl rfl trivial hQ
                                    · refine x_tsw (p' := 220) r117_1 (am_swF c1 (am_swF c2 (am_swF c4 (am_swF c5 (am_swF c6 (am_swF c7 (am_swF c10 (am_swF c13 (am_swF c15 (am_swF c17 (am_swF c19 (am_swF c21 (am_swF c23 (am_swF c24 (am_swF c25 (am_swF c28 (am_swF c30 (am_swF c31 (rfl))))))))))))))))))) ?_
                                      refine x_ld (v := .ref 106) r117_220 rfl rfl rfl ?_
                                      refine y_gf (cd := 0) (v := .int (D.1 106 2)) r117_221 rfl rfl rfl ?_
                                      cases h
                                      exact x_ret (ret := some .int) (C := True) (v := some (.int _)) r117_224 rt117 rfl rfl rfl rfl rfl rfl rfl rfl trivial hQ
theorem m117_ok {N : Nat} {D : am_D} {v1 : Int32} {r : Int32} (h : m117 N D v1 = some r) : am_Y xs L 117 5 0 0 [.ref 106, .int v1] D (.inl (some (.int r))) D := am_Yof (mi := am_m117) (lc := [.ref 106, .int v1]) pg117 (Nat.le_of_ble_eq_true rfl) (am_rc1 (ci := 8) rfl rfl rfl rfl rfl) rfl (fun Q hQ => m117_w (Nat.le_refl _) h hQ)
theorem r118_0 : am_at 118 0 = some (.aload_n 0, 1, [0]) := by decide +kernel
theorem r118_1 : am_at 118 1 = some (.iload_n 1, 1, [1]) := by decide +kernel
theorem r118_2 : am_at 118 2 = some (.iconst (0), 1, []) := by decide +kernel
theorem r118_3 : am_at 118 3 = some (.bipush (18), 2, []) := by decide +kernel
theorem r118_5 : am_at 118 5 = some (.invokestatic 65, 3, [46, 3, 1305, 0]) := by decide +kernel
theorem r118_8 : am_at 118 8 = some (.ifCond .eq (7), 3, [15]) := by decide +kernel
theorem r118_11 : am_at 118 11 = some (.iconst (0), 1, []) := by decide +kernel
theorem r118_12 : am_at 118 12 = some (.goto (4), 3, [16]) := by decide +kernel
theorem r118_15 : am_at 118 15 = some (.iconst (1), 1, []) := by decide +kernel
theorem r118_16 : am_at 118 16 = some (.invokevirtual 142, 3, [47, 2, 1323, 0]) := by decide +kernel
theorem r118_19 : am_at 118 19 = some (.ifCond .eq (11), 3, [30]) := by decide +kernel
theorem r118_22 : am_at 118 22 = some (.aload_n 0, 1, [0]) := by decide +kernel
theorem r118_23 : am_at 118 23 = some (.iload_n 1, 1, [1]) := by decide +kernel
theorem r118_24 : am_at 118 24 = some (.invokevirtual 243, 3, [117, 2, 1580, 0]) := by decide +kernel
theorem r118_27 : am_at 118 27 = some (.goto (4), 3, [31]) := by decide +kernel
theorem r118_30 : am_at 118 30 = some (.iconst (0), 1, []) := by decide +kernel
theorem r118_31 : am_at 118 31 = some (.ireturn, 1, []) := by decide +kernel
theorem rt118 : am_rtt 118 = some (some .int) := by decide +kernel
set_option maxRecDepth 100000 in
theorem pg118 : am_pg[118]? = some am_m118 := rfl
theorem m118_w {d mc ms : Nat} {N : Nat} {D : am_D} {v1 : Int32} {Q : am_O → am_AH → Prop} (hd : 6 ≤ d) {r : Int32 × am_D} (h : m118 N D v1 = some r) (hQ : Q (.inl (some (.int r.1))) (am_mk r.2)) : am_X xs L 118 d mc ms 0 [.ref 106, .int v1] [] (am_mk D) 0 0 Q := by
  unfold m118 at h
  refine x_ld (v := .ref 106) r118_0 rfl rfl rfl ?_
  refine x_ld (v := .int v1) r118_1 rfl rfl rfl ?_
  refine x_ic (v := 0) r118_2 rfl rfl ?_
  refine x_bi (v := 18) r118_3 rfl rfl ?_
  refine x_call1 (as := [.int v1, .int (0 : Int32), .int (18 : Int32)]) (rest := [.ref 106]) r118_5 rfl rfl rfl (by decide) (Nat.le_of_ble_eq_true rfl) (m46_ok rfl) (Nat.le_trans (by decide) hd) (Nat.zero_le _) (Nat.zero_le _) rfl ?_
  obtain ⟨q1, h3, h⟩ := am_ltE h
  replace h3 := h3.symm
  have kj2 : am_X xs L 118 d mc ms 16 [.ref 106, .int v1] [.int q1, .ref 106] (am_mk D) 0 0 Q := by
    obtain ⟨q5, h6, h⟩ := am_ltE h
    replace h6 := h6.symm
    refine x_call1 (as := [.ref 106, .int q1]) (rest := []) r118_16 rfl rfl rfl (by decide) (Nat.le_of_ble_eq_true rfl) (m47_ok h6) (Nat.le_trans (by decide) hd) (Nat.zero_le _) (Nat.zero_le _) rfl ?_
    rcases am_ifE h with ⟨c7, h⟩ | ⟨c7, h⟩
    · refine x_ifeqT r118_19 c7 ?_
      refine x_ic (v := 0) r118_30 rfl rfl ?_
      cases h
      exact x_ret (ret := some .int) (C := True) (v := some (.int _)) r118_31 rt118 rfl rfl rfl rfl rfl rfl rfl rfl trivial hQ
    · refine x_ifeqF r118_19 c7 rfl ?_
      refine x_ld (v := .ref 106) r118_22 rfl rfl rfl ?_
      refine x_ld (v := .int v1) r118_23 rfl rfl rfl ?_
      obtain ⟨q8, h9, h⟩ := Option.bind_eq_some_iff.mp h
      refine x_call1 (as := [.ref 106, .int v1]) (rest := []) r118_24 rfl rfl rfl (by decide) (Nat.le_of_ble_eq_true rfl) (m117_ok h9) (Nat.le_trans (by decide) hd) (Nat.zero_le _) (Nat.zero_le _) rfl ?_
      refine x_goto r118_27 ?_
      cases h
      exact x_ret (ret := some .int) (C := True) (v := some (.int _)) r118_31 rt118 rfl rfl rfl rfl rfl rfl rfl rfl trivial hQ
  rcases am_ifE h3 with ⟨c4, h3⟩ | ⟨c4, h3⟩
  · refine x_ifeqT r118_8 c4 ?_
    refine x_ic (v := 1) r118_15 rfl rfl ?_
    subst h3
    exact kj2
  · refine x_ifeqF r118_8 c4 rfl ?_
    refine x_ic (v := 0) r118_11 rfl rfl ?_
    refine x_goto r118_12 ?_
    subst h3
    exact kj2
theorem m118_ok {N : Nat} {D : am_D} {v1 : Int32} {r : Int32 × am_D} (h : m118 N D v1 = some r) : am_Y xs L 118 6 0 0 [.ref 106, .int v1] D (.inl (some (.int r.1))) r.2 := am_Yof (mi := am_m118) (lc := [.ref 106, .int v1]) pg118 (Nat.le_of_ble_eq_true rfl) (am_rc1 (ci := 8) rfl rfl rfl rfl rfl) rfl (fun Q hQ => m118_w (Nat.le_refl _) h hQ)
end XE
