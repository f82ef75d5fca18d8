/-! methods as functions, with their walks (by wip/tools/decomp.py): 95 96 97 98 99 100 101 102 103 104 105 106 -/
section XE
variable {xs : Nat → Int32} {L : Nat}
theorem r95_0 : am_at 95 0 = some (.aload_n 0, 1, [0]) := by decide +kernel
theorem r95_1 : am_at 95 1 = some (.aload_n 0, 1, [0]) := by decide +kernel
theorem r95_2 : am_at 95 2 = some (.iconst (1), 1, []) := by decide +kernel
theorem r95_3 : am_at 95 3 = some (.bipush (9), 2, []) := by decide +kernel
theorem r95_5 : am_at 95 5 = some (.invokevirtual 185, 3, [93, 3, 1493, 0]) := by decide +kernel
theorem r95_8 : am_at 95 8 = some (.putfield 191, 3, [8, 8, 0, 1223]) := by decide +kernel
theorem r95_11 : am_at 95 11 = some (.aload_n 0, 1, [0]) := by decide +kernel
theorem r95_12 : am_at 95 12 = some (.getfield 191, 3, [8, 8, 0, 1223]) := by decide +kernel
theorem r95_15 : am_at 95 15 = some (.iconst (-1), 1, []) := by decide +kernel
theorem r95_16 : am_at 95 16 = some (.if_icmp .ne (7), 3, [23]) := by decide +kernel
theorem r95_19 : am_at 95 19 = some (.iconst (-1), 1, []) := by decide +kernel
theorem r95_20 : am_at 95 20 = some (.goto (10), 3, [30]) := by decide +kernel
theorem r95_23 : am_at 95 23 = some (.aload_n 0, 1, [0]) := by decide +kernel
theorem r95_24 : am_at 95 24 = some (.iconst (0), 1, []) := by decide +kernel
theorem r95_25 : am_at 95 25 = some (.bipush (9), 2, []) := by decide +kernel
theorem r95_27 : am_at 95 27 = some (.invokevirtual 185, 3, [93, 3, 1493, 0]) := by decide +kernel
theorem r95_30 : am_at 95 30 = some (.istore_n 1, 1, [1]) := by decide +kernel
theorem r95_31 : am_at 95 31 = some (.aload_n 0, 1, [0]) := by decide +kernel
theorem r95_32 : am_at 95 32 = some (.iload_n 1, 1, [1]) := by decide +kernel
theorem r95_33 : am_at 95 33 = some (.iconst (-1), 1, []) := by decide +kernel
theorem r95_34 : am_at 95 34 = some (.if_icmp .ne (10), 3, [44]) := by decide +kernel
theorem r95_37 : am_at 95 37 = some (.aload_n 0, 1, [0]) := by decide +kernel
theorem r95_38 : am_at 95 38 = some (.getfield 191, 3, [8, 8, 0, 1223]) := by decide +kernel
theorem r95_41 : am_at 95 41 = some (.goto (12), 3, [53]) := by decide +kernel
theorem r95_44 : am_at 95 44 = some (.bipush (10), 2, []) := by decide +kernel
theorem r95_46 : am_at 95 46 = some (.aload_n 0, 1, [0]) := by decide +kernel
theorem r95_47 : am_at 95 47 = some (.getfield 191, 3, [8, 8, 0, 1223]) := by decide +kernel
theorem r95_50 : am_at 95 50 = some (.imul, 1, []) := by decide +kernel
theorem r95_51 : am_at 95 51 = some (.iload_n 1, 1, [1]) := by decide +kernel
theorem r95_52 : am_at 95 52 = some (.iadd, 1, []) := by decide +kernel
theorem r95_53 : am_at 95 53 = some (.putfield 191, 3, [8, 8, 0, 1223]) := by decide +kernel
theorem r95_56 : am_at 95 56 = some (.aload_n 0, 1, [0]) := by decide +kernel
theorem r95_57 : am_at 95 57 = some (.getfield 191, 3, [8, 8, 0, 1223]) := by decide +kernel
theorem r95_60 : am_at 95 60 = some (.iconst (-1), 1, []) := by decide +kernel
theorem r95_61 : am_at 95 61 = some (.if_icmp .eq (7), 3, [68]) := by decide +kernel
theorem r95_64 : am_at 95 64 = some (.iconst (1), 1, []) := by decide +kernel
theorem r95_65 : am_at 95 65 = some (.goto (4), 3, [69]) := by decide +kernel
theorem r95_68 : am_at 95 68 = some (.iconst (0), 1, []) := by decide +kernel
theorem r95_69 : am_at 95 69 = some (.ireturn, 1, []) := by decide +kernel
theorem rt95 : am_rtt 95 = some (some .boolean) := by decide +kernel
set_option maxRecDepth 100000 in
theorem pg95 : am_pg[95]? = some am_m95 := rfl
theorem m95_w {d mc ms : Nat} {D : am_D} {Q : am_O → am_AH → Prop} (hd : 3 ≤ d) {r : Int32 × am_D} (h : m95 D = some r) (hQ : Q (.inl (some (.int r.1))) (am_mk r.2)) : am_X xs L 95 d mc ms 0 [.ref 106, am_dead] [] (am_mk D) 0 0 Q := by
  unfold m95 at h
  refine x_ld (v := .ref 106) r95_0 rfl rfl rfl ?_
  refine x_ld (v := .ref 106) r95_1 rfl rfl rfl ?_
  refine x_ic (v := 1) r95_2 rfl rfl ?_
  refine x_bi (v := 9) r95_3 rfl rfl ?_
  obtain ⟨q1, h2, h⟩ := Option.bind_eq_some_iff.mp h
  refine x_call1 (as := [.ref 106, .int (1 : Int32), .int (9 : Int32)]) (rest := [.ref 106]) r95_5 rfl rfl rfl (by decide) (Nat.le_of_ble_eq_true rfl) (m93_ok h2) (Nat.le_trans (by decide) hd) (Nat.zero_le _) (Nat.zero_le _) rfl ?_
  obtain ⟨D3, e4, h⟩ := am_ltE h
  refine y_pf0 r95_8 rfl e4 rfl ?_
  refine x_ld (v := .ref 106) r95_11 rfl rfl rfl ?_
  refine y_gf (cd := 0) (v := .int (D3.1 106 8)) r95_12 rfl rfl rfl ?_
  refine x_ic (v := -1) r95_15 rfl rfl ?_
  obtain ⟨q5, h7, h⟩ := Option.bind_eq_some_iff.mp h
  have kj6 : am_X xs L 95 d mc ms 30 [.ref 106, am_dead] [.int q5.1] (am_mk q5.2) 0 0 Q := by
    refine x_sto (lc' := [.ref 106, .int q5.1]) r95_30 rfl rfl rfl rfl ?_
    refine x_ld (v := .ref 106) r95_31 rfl rfl rfl ?_
    refine x_ld (v := .int q5.1) r95_32 rfl rfl rfl ?_
    refine x_ic (v := -1) r95_33 rfl rfl ?_
    obtain ⟨q11, h13, h⟩ := am_ltE h
    replace h13 := h13.symm
    have kj12 : am_X xs L 95 d mc ms 53 [.ref 106, .int q5.1] [.int q11, .ref 106] (am_mk q5.2) 0 0 Q := by
      obtain ⟨D15, e16, h⟩ := am_ltE h
      refine y_pf0 r95_53 rfl e16 rfl ?_
      refine x_ld (v := .ref 106) r95_56 rfl rfl rfl ?_
      refine y_gf (cd := 0) (v := .int (D15.1 106 8)) r95_57 rfl rfl rfl ?_
      refine x_ic (v := -1) r95_60 rfl rfl ?_
      rcases am_ifE h with ⟨c17, h⟩ | ⟨c17, h⟩
      · refine x_iceqT r95_61 c17 ?_
        refine x_ic (v := 0) r95_68 rfl rfl ?_
        cases h
        exact x_ret (ret := some .boolean) (C := narrow .boolean (.int (0 : Int32)) = .int (0 : Int32)) (v := some (.int (0 : Int32))) r95_69 rt95 rfl rfl rfl rfl rfl rfl rfl rfl (by decide) hQ
      · refine x_iceqF r95_61 c17 rfl ?_
        refine x_ic (v := 1) r95_64 rfl rfl ?_
        refine x_goto r95_65 ?_
        cases h
        exact x_ret (ret := some .boolean) (C := narrow .boolean (.int (1 : Int32)) = .int (1 : Int32)) (v := some (.int (1 : Int32))) r95_69 rt95 rfl rfl rfl rfl rfl rfl rfl rfl (by decide) hQ
    rcases am_ifE h13 with ⟨c14, h13⟩ | ⟨c14, h13⟩
    · refine x_icneT r95_34 c14 rfl ?_
      refine x_ld (v := .ref 106) r95_37 rfl rfl rfl ?_
      refine y_gf (cd := 0) (v := .int (q5.2.1 106 8)) r95_38 rfl rfl rfl ?_
      refine x_goto r95_41 ?_
      subst h13
      exact kj12
    · refine x_icneF r95_34 c14 ?_
      refine x_bi (v := 10) r95_44 rfl rfl ?_
      refine x_ld (v := .ref 106) r95_46 rfl rfl rfl ?_
      refine y_gf (cd := 0) (v := .int (q5.2.1 106 8)) r95_47 rfl rfl rfl ?_
      refine x_ar r95_50 rfl trivial rfl ?_
      refine x_ld (v := .int q5.1) r95_51 rfl rfl rfl ?_
      refine x_ar r95_52 rfl trivial rfl ?_
      subst h13
      exact kj12
  rcases am_ifE h7 with ⟨c8, h7⟩ | ⟨c8, h7⟩
  · refine x_icneT r95_16 c8 rfl ?_
    refine x_ic (v := -1) r95_19 rfl rfl ?_
    refine x_goto r95_20 ?_
    cases h7
    exact kj6
  · refine x_icneF r95_16 c8 ?_
    refine x_ld (v := .ref 106) r95_23 rfl rfl rfl ?_
    refine x_ic (v := 0) r95_24 rfl rfl ?_
    refine x_bi (v := 9) r95_25 rfl rfl ?_
    obtain ⟨q9, h10, h7⟩ := Option.bind_eq_some_iff.mp h7
    refine x_call1 (as := [.ref 106, .int (0 : Int32), .int (9 : Int32)]) (rest := []) r95_27 rfl rfl rfl (by decide) (Nat.le_of_ble_eq_true rfl) (m93_ok h10) (Nat.le_trans (by decide) hd) (Nat.zero_le _) (Nat.zero_le _) rfl ?_
    cases h7
    exact kj6
theorem m95_ok {D : am_D} {r : Int32 × am_D} (h : m95 D = some r) : am_Y xs L 95 3 0 0 [.ref 106] D (.inl (some (.int r.1))) r.2 := am_Yof (mi := am_m95) (lc := [.ref 106, am_dead]) pg95 (Nat.le_of_ble_eq_true rfl) (am_rc1 (ci := 8) rfl rfl rfl rfl rfl) rfl (fun Q hQ => m95_w (Nat.le_refl _) h hQ)
theorem r96_0 : am_at 96 0 = some (.aload_n 0, 1, [0]) := by decide +kernel
theorem r96_1 : am_at 96 1 = some (.aload_n 0, 1, [0]) := by decide +kernel
theorem r96_2 : am_at 96 2 = some (.invokevirtual 182, 3, [91, 1, 1481, 0]) := by decide +kernel
theorem r96_5 : am_at 96 5 = some (.putfield 194, 3, [8, 7, 0, 1222]) := by decide +kernel
theorem r96_8 : am_at 96 8 = some (.aload_n 0, 1, [0]) := by decide +kernel
theorem r96_9 : am_at 96 9 = some (.bipush (112), 2, []) := by decide +kernel
theorem r96_11 : am_at 96 11 = some (.invokevirtual 197, 3, [92, 2, 1485, 0]) := by decide +kernel
theorem r96_14 : am_at 96 14 = some (.ifCond .eq (5), 3, [19]) := by decide +kernel
theorem r96_17 : am_at 96 17 = some (.iconst (1), 1, []) := by decide +kernel
theorem r96_18 : am_at 96 18 = some (.ireturn, 1, []) := by decide +kernel
theorem r96_19 : am_at 96 19 = some (.aload_n 0, 1, [0]) := by decide +kernel
theorem r96_20 : am_at 96 20 = some (.bipush (116), 2, []) := by decide +kernel
theorem r96_22 : am_at 96 22 = some (.invokevirtual 197, 3, [92, 2, 1485, 0]) := by decide +kernel
theorem r96_25 : am_at 96 25 = some (.ifCond .eq (8), 3, [33]) := by decide +kernel
theorem r96_28 : am_at 96 28 = some (.aload_n 0, 1, [0]) := by decide +kernel
theorem r96_29 : am_at 96 29 = some (.invokevirtual 200, 3, [95, 1, 1489, 0]) := by decide +kernel
theorem r96_32 : am_at 96 32 = some (.ireturn, 1, []) := by decide +kernel
theorem r96_33 : am_at 96 33 = some (.aload_n 0, 1, [0]) := by decide +kernel
theorem r96_34 : am_at 96 34 = some (.bipush (99), 2, []) := by decide +kernel
theorem r96_36 : am_at 96 36 = some (.invokevirtual 197, 3, [92, 2, 1485, 0]) := by decide +kernel
theorem r96_39 : am_at 96 39 = some (.ifCond .eq (45), 3, [84]) := by decide +kernel
theorem r96_42 : am_at 96 42 = some (.aload_n 0, 1, [0]) := by decide +kernel
theorem r96_43 : am_at 96 43 = some (.aload_n 0, 1, [0]) := by decide +kernel
theorem r96_44 : am_at 96 44 = some (.invokevirtual 182, 3, [91, 1, 1481, 0]) := by decide +kernel
theorem r96_47 : am_at 96 47 = some (.bipush (43), 2, []) := by decide +kernel
theorem r96_49 : am_at 96 49 = some (.if_icmp .ne (7), 3, [56]) := by decide +kernel
theorem r96_52 : am_at 96 52 = some (.iconst (1), 1, []) := by decide +kernel
theorem r96_53 : am_at 96 53 = some (.goto (4), 3, [57]) := by decide +kernel
theorem r96_56 : am_at 96 56 = some (.iconst (0), 1, []) := by decide +kernel
theorem r96_57 : am_at 96 57 = some (.putfield 191, 3, [8, 8, 0, 1223]) := by decide +kernel
theorem r96_60 : am_at 96 60 = some (.aload_n 0, 1, [0]) := by decide +kernel
theorem r96_61 : am_at 96 61 = some (.bipush (43), 2, []) := by decide +kernel
theorem r96_63 : am_at 96 63 = some (.invokevirtual 197, 3, [92, 2, 1485, 0]) := by decide +kernel
theorem r96_66 : am_at 96 66 = some (.ifCond .ne (12), 3, [78]) := by decide +kernel
theorem r96_69 : am_at 96 69 = some (.aload_n 0, 1, [0]) := by decide +kernel
theorem r96_70 : am_at 96 70 = some (.bipush (45), 2, []) := by decide +kernel
theorem r96_72 : am_at 96 72 = some (.invokevirtual 197, 3, [92, 2, 1485, 0]) := by decide +kernel
theorem r96_75 : am_at 96 75 = some (.ifCond .eq (7), 3, [82]) := by decide +kernel
theorem r96_78 : am_at 96 78 = some (.iconst (1), 1, []) := by decide +kernel
theorem r96_79 : am_at 96 79 = some (.goto (4), 3, [83]) := by decide +kernel
theorem r96_82 : am_at 96 82 = some (.iconst (0), 1, []) := by decide +kernel
theorem r96_83 : am_at 96 83 = some (.ireturn, 1, []) := by decide +kernel
theorem r96_84 : am_at 96 84 = some (.aload_n 0, 1, [0]) := by decide +kernel
theorem r96_85 : am_at 96 85 = some (.aload_n 0, 1, [0]) := by decide +kernel
theorem r96_86 : am_at 96 86 = some (.bipush (108), 2, []) := by decide +kernel
theorem r96_88 : am_at 96 88 = some (.invokevirtual 197, 3, [92, 2, 1485, 0]) := by decide +kernel
theorem r96_91 : am_at 96 91 = some (.ifCond .eq (10), 3, [101]) := by decide +kernel
theorem r96_94 : am_at 96 94 = some (.aload_n 0, 1, [0]) := by decide +kernel
theorem r96_95 : am_at 96 95 = some (.invokevirtual 203, 3, [94, 1, 1497, 0]) := by decide +kernel
theorem r96_98 : am_at 96 98 = some (.goto (4), 3, [102]) := by decide +kernel
theorem r96_101 : am_at 96 101 = some (.iconst (-1), 1, []) := by decide +kernel
theorem r96_102 : am_at 96 102 = some (.putfield 191, 3, [8, 8, 0, 1223]) := by decide +kernel
theorem r96_105 : am_at 96 105 = some (.aload_n 0, 1, [0]) := by decide +kernel
theorem r96_106 : am_at 96 106 = some (.aload_n 0, 1, [0]) := by decide +kernel
theorem r96_107 : am_at 96 107 = some (.invokevirtual 182, 3, [91, 1, 1481, 0]) := by decide +kernel
theorem r96_110 : am_at 96 110 = some (.putfield 194, 3, [8, 7, 0, 1222]) := by decide +kernel
theorem r96_113 : am_at 96 113 = some (.aload_n 0, 1, [0]) := by decide +kernel
theorem r96_114 : am_at 96 114 = some (.getfield 191, 3, [8, 8, 0, 1223]) := by decide +kernel
theorem r96_117 : am_at 96 117 = some (.iconst (-1), 1, []) := by decide +kernel
theorem r96_118 : am_at 96 118 = some (.if_icmp .eq (25), 3, [143]) := by decide +kernel
theorem r96_121 : am_at 96 121 = some (.aload_n 0, 1, [0]) := by decide +kernel
theorem r96_122 : am_at 96 122 = some (.bipush (60), 2, []) := by decide +kernel
theorem r96_124 : am_at 96 124 = some (.invokevirtual 197, 3, [92, 2, 1485, 0]) := by decide +kernel
theorem r96_127 : am_at 96 127 = some (.ifCond .ne (12), 3, [139]) := by decide +kernel
theorem r96_130 : am_at 96 130 = some (.aload_n 0, 1, [0]) := by decide +kernel
theorem r96_131 : am_at 96 131 = some (.bipush (62), 2, []) := by decide +kernel
theorem r96_133 : am_at 96 133 = some (.invokevirtual 197, 3, [92, 2, 1485, 0]) := by decide +kernel
theorem r96_136 : am_at 96 136 = some (.ifCond .eq (7), 3, [143]) := by decide +kernel
theorem r96_139 : am_at 96 139 = some (.iconst (1), 1, []) := by decide +kernel
theorem r96_140 : am_at 96 140 = some (.goto (4), 3, [144]) := by decide +kernel
theorem r96_143 : am_at 96 143 = some (.iconst (0), 1, []) := by decide +kernel
theorem r96_144 : am_at 96 144 = some (.ireturn, 1, []) := by decide +kernel
theorem rt96 : am_rtt 96 = some (some .boolean) := by decide +kernel
set_option maxRecDepth 100000 in
theorem pg96 : am_pg[96]? = some am_m96 := rfl
theorem m96_w {d mc ms : Nat} {D : am_D} {Q : am_O → am_AH → Prop} (hd : 4 ≤ d) {r : Int32 × am_D} (h : m96 D = some r) (hQ : Q (.inl (some (.int r.1))) (am_mk r.2)) : am_X xs L 96 d mc ms 0 [.ref 106] [] (am_mk D) 0 0 Q := by
  unfold m96 at h
  refine x_ld (v := .ref 106) r96_0 rfl rfl rfl ?_
  refine x_ld (v := .ref 106) r96_1 rfl rfl rfl ?_
  obtain ⟨q1, h2, h⟩ := Option.bind_eq_some_iff.mp h
  refine x_call1 (as := [.ref 106]) (rest := [.ref 106]) r96_2 rfl rfl rfl (by decide) (Nat.le_of_ble_eq_true rfl) (m91_ok h2) (Nat.le_trans (by decide) hd) (Nat.zero_le _) (Nat.zero_le _) rfl ?_
  obtain ⟨D3, e4, h⟩ := am_ltE h
  refine y_pf0 r96_5 rfl e4 rfl ?_
  refine x_ld (v := .ref 106) r96_8 rfl rfl rfl ?_
  refine x_bi (v := 112) r96_9 rfl rfl ?_
  obtain ⟨q5, h6, h⟩ := Option.bind_eq_some_iff.mp h
  refine x_call1 (as := [.ref 106, .int (112 : Int32)]) (rest := []) r96_11 rfl rfl rfl (by decide) (Nat.le_of_ble_eq_true rfl) (m92_ok h6) (Nat.le_trans (by decide) hd) (Nat.zero_le _) (Nat.zero_le _) rfl ?_
  rcases am_ifE h with ⟨c7, h⟩ | ⟨c7, h⟩
  · refine x_ifeqT r96_14 c7 ?_
    refine x_ld (v := .ref 106) r96_19 rfl rfl rfl ?_
    refine x_bi (v := 116) r96_20 rfl rfl ?_
    obtain ⟨q8, h9, h⟩ := Option.bind_eq_some_iff.mp h
    refine x_call1 (as := [.ref 106, .int (116 : Int32)]) (rest := []) r96_22 rfl rfl rfl (by decide) (Nat.le_of_ble_eq_true rfl) (m92_ok h9) (Nat.le_trans (by decide) hd) (Nat.zero_le _) (Nat.zero_le _) rfl ?_
    rcases am_ifE h with ⟨c10, h⟩ | ⟨c10, h⟩
    · refine x_ifeqT r96_25 c10 ?_
      refine x_ld (v := .ref 106) r96_33 rfl rfl rfl ?_
      refine x_bi (v := 99) r96_34 rfl rfl ?_
      obtain ⟨q11, h12, h⟩ := Option.bind_eq_some_iff.mp h
      refine x_call1 (as := [.ref 106, .int (99 : Int32)]) (rest := []) r96_36 rfl rfl rfl (by decide) (Nat.le_of_ble_eq_true rfl) (m92_ok h12) (Nat.le_trans (by decide) hd) (Nat.zero_le _) (Nat.zero_le _) rfl ?_
      rcases am_ifE h with ⟨c13, h⟩ | ⟨c13, h⟩
      · refine x_ifeqT r96_39 c13 ?_
        refine x_ld (v := .ref 106) r96_84 rfl rfl rfl ?_
        refine x_ld (v := .ref 106) r96_85 rfl rfl rfl ?_
        refine x_bi (v := 108) r96_86 rfl rfl ?_
        obtain ⟨q14, h15, h⟩ := Option.bind_eq_some_iff.mp h
        refine x_call1 (as := [.ref 106, .int (108 : Int32)]) (rest := [.ref 106]) r96_88 rfl rfl rfl (by decide) (Nat.le_of_ble_eq_true rfl) (m92_ok h15) (Nat.le_trans (by decide) hd) (Nat.zero_le _) (Nat.zero_le _) rfl ?_
        obtain ⟨q16, h18, h⟩ := Option.bind_eq_some_iff.mp h
        have kj17 : am_X xs L 96 d mc ms 102 [.ref 106] [.int q16.1, .ref 106] (am_mk q16.2) 0 0 Q := by
          obtain ⟨D22, e23, h⟩ := am_ltE h
          refine y_pf0 r96_102 rfl e23 rfl ?_
          refine x_ld (v := .ref 106) r96_105 rfl rfl rfl ?_
          refine x_ld (v := .ref 106) r96_106 rfl rfl rfl ?_
          obtain ⟨q24, h25, h⟩ := Option.bind_eq_some_iff.mp h
          refine x_call1 (as := [.ref 106]) (rest := [.ref 106]) r96_107 rfl rfl rfl (by decide) (Nat.le_of_ble_eq_true rfl) (m91_ok h25) (Nat.le_trans (by decide) hd) (Nat.zero_le _) (Nat.zero_le _) rfl ?_
          obtain ⟨D26, e27, h⟩ := am_ltE h
          refine y_pf0 r96_110 rfl e27 rfl ?_
          refine x_ld (v := .ref 106) r96_113 rfl rfl rfl ?_
          refine y_gf (cd := 0) (v := .int (D26.1 106 8)) r96_114 rfl rfl rfl ?_
          refine x_ic (v := -1) r96_117 rfl rfl ?_
          rcases am_ifE h with ⟨c28, h⟩ | ⟨c28, h⟩
          · refine x_iceqT r96_118 c28 ?_
            refine x_ic (v := 0) r96_143 rfl rfl ?_
            cases h
            exact x_ret (ret := some .boolean) (C := narrow .boolean (.int (0 : Int32)) = .int (0 : Int32)) (v := some (.int (0 : Int32))) r96_144 rt96 rfl rfl rfl rfl rfl rfl rfl rfl (by decide) hQ
          · refine x_iceqF r96_118 c28 rfl ?_
            refine x_ld (v := .ref 106) r96_121 rfl rfl rfl ?_
            refine x_bi (v := 60) r96_122 rfl rfl ?_
            obtain ⟨q29, h30, h⟩ := Option.bind_eq_some_iff.mp h
            refine x_call1 (as := [.ref 106, .int (60 : Int32)]) (rest := []) r96_124 rfl rfl rfl (by decide) (Nat.le_of_ble_eq_true rfl) (m92_ok h30) (Nat.le_trans (by decide) hd) (Nat.zero_le _) (Nat.zero_le _) rfl ?_
            rcases am_ifE h with ⟨c31, h⟩ | ⟨c31, h⟩
            · refine x_ifneT r96_127 c31 rfl ?_
              refine x_ld (v := .ref 106) r96_130 rfl rfl rfl ?_
              refine x_bi (v := 62) r96_131 rfl rfl ?_
              obtain ⟨q32, h33, h⟩ := Option.bind_eq_some_iff.mp h
              refine x_call1 (as := [.ref 106, .int (62 : Int32)]) (rest := []) r96_133 rfl rfl rfl (by decide) (Nat.le_of_ble_eq_true rfl) (m92_ok h33) (Nat.le_trans (by decide) hd) (Nat.zero_le _) (Nat.zero_le _) rfl ?_
              rcases am_ifE h with ⟨c34, h⟩ | ⟨c34, h⟩
              · refine x_ifeqT r96_136 c34 ?_
                refine x_ic (v := 0) r96_143 rfl rfl ?_
                cases h
                exact x_ret (ret := some .boolean) (C := narrow .boolean (.int (0 : Int32)) = .int (0 : Int32)) (v := some (.int (0 : Int32))) r96_144 rt96 rfl rfl rfl rfl rfl rfl rfl rfl (by decide) hQ
              · refine x_ifeqF r96_136 c34 rfl ?_
                refine x_ic (v := 1) r96_139 rfl rfl ?_
                refine x_goto r96_140 ?_
                cases h
                exact x_ret (ret := some .boolean) (C := narrow .boolean (.int (1 : Int32)) = .int (1 : Int32)) (v := some (.int (1 : Int32))) r96_144 rt96 rfl rfl rfl rfl rfl rfl rfl rfl (by decide) hQ
            · refine x_ifneF r96_127 c31 ?_
              refine x_ic (v := 1) r96_139 rfl rfl ?_
              refine x_goto r96_140 ?_
              cases h
              exact x_ret (ret := some .boolean) (C := narrow .boolean (.int (1 : Int32)) = .int (1 : Int32)) (v := some (.int (1 : Int32))) r96_144 rt96 rfl rfl rfl rfl rfl rfl rfl rfl (by decide) hQ
        rcases am_ifE h18 with ⟨c19, h18⟩ | ⟨c19, h18⟩
        · refine x_ifeqT r96_91 c19 ?_
          refine x_ic (v := -1) r96_101 rfl rfl ?_
          cases h18
          exact kj17
        · refine x_ifeqF r96_91 c19 rfl ?_
          refine x_ld (v := .ref 106) r96_94 rfl rfl rfl ?_
          obtain ⟨q20, h21, h18⟩ := Option.bind_eq_some_iff.mp h18
          refine x_call1 (as := [.ref 106]) (rest := [.ref 106]) r96_95 rfl rfl rfl (by decide) (Nat.le_of_ble_eq_true rfl) (m94_ok h21) (Nat.le_trans (by decide) hd) (Nat.zero_le _) (Nat.zero_le _) rfl ?_
          refine x_goto r96_98 ?_
          cases h18
          exact kj17
      · refine x_ifeqF r96_39 c13 rfl ?_
        refine x_ld (v := .ref 106) r96_42 rfl rfl rfl ?_
        refine x_ld (v := .ref 106) r96_43 rfl rfl rfl ?_
        obtain ⟨q35, h36, h⟩ := Option.bind_eq_some_iff.mp h
        refine x_call1 (as := [.ref 106]) (rest := [.ref 106]) r96_44 rfl rfl rfl (by decide) (Nat.le_of_ble_eq_true rfl) (m91_ok h36) (Nat.le_trans (by decide) hd) (Nat.zero_le _) (Nat.zero_le _) rfl ?_
        refine x_bi (v := 43) r96_47 rfl rfl ?_
        obtain ⟨q37, h39, h⟩ := am_ltE h
        replace h39 := h39.symm
        have kj38 : am_X xs L 96 d mc ms 57 [.ref 106] [.int q37, .ref 106] (am_mk q11.2) 0 0 Q := by
          obtain ⟨D41, e42, h⟩ := am_ltE h
          refine y_pf0 r96_57 rfl e42 rfl ?_
          refine x_ld (v := .ref 106) r96_60 rfl rfl rfl ?_
          refine x_bi (v := 43) r96_61 rfl rfl ?_
          obtain ⟨q43, h44, h⟩ := Option.bind_eq_some_iff.mp h
          refine x_call1 (as := [.ref 106, .int (43 : Int32)]) (rest := []) r96_63 rfl rfl rfl (by decide) (Nat.le_of_ble_eq_true rfl) (m92_ok h44) (Nat.le_trans (by decide) hd) (Nat.zero_le _) (Nat.zero_le _) rfl ?_
          rcases am_ifE h with ⟨c45, h⟩ | ⟨c45, h⟩
          · refine x_ifneT r96_66 c45 rfl ?_
            refine x_ld (v := .ref 106) r96_69 rfl rfl rfl ?_
            refine x_bi (v := 45) r96_70 rfl rfl ?_
            obtain ⟨q46, h47, h⟩ := Option.bind_eq_some_iff.mp h
            refine x_call1 (as := [.ref 106, .int (45 : Int32)]) (rest := []) r96_72 rfl rfl rfl (by decide) (Nat.le_of_ble_eq_true rfl) (m92_ok h47) (Nat.le_trans (by decide) hd) (Nat.zero_le _) (Nat.zero_le _) rfl ?_
            rcases am_ifE h with ⟨c48, h⟩ | ⟨c48, h⟩
            · refine x_ifeqT r96_75 c48 ?_
              refine x_ic (v := 0) r96_82 rfl rfl ?_
              cases h
              exact x_ret (ret := some .boolean) (C := narrow .boolean (.int (0 : Int32)) = .int (0 : Int32)) (v := some (.int (0 : Int32))) r96_83 rt96 rfl rfl rfl rfl rfl rfl rfl rfl (by decide) hQ
            · refine x_ifeqF r96_75 c48 rfl ?_
              refine x_ic (v := 1) r96_78 rfl rfl ?_
              refine x_goto r96_79 ?_
              cases h
              exact x_ret (ret := some .boolean) (C := narrow .boolean (.int (1 : Int32)) = .int (1 : Int32)) (v := some (.int (1 : Int32))) r96_83 rt96 rfl rfl rfl rfl rfl rfl rfl rfl (by decide) hQ
          · refine x_ifneF r96_66 c45 ?_
            refine x_ic (v := 1) r96_78 rfl rfl ?_
            refine x_goto r96_79 ?_
            cases h
            exact x_ret (ret := some .boolean) (C := narrow .boolean (.int (1 : Int32)) = .int (1 : Int32)) (v := some (.int (1 : Int32))) r96_83 rt96 rfl rfl rfl rfl rfl rfl rfl rfl (by decide) hQ
        rcases am_ifE h39 with ⟨c40, h39⟩ | ⟨c40, h39⟩
        · refine x_icneT r96_49 c40 rfl ?_
          refine x_ic (v := 1) r96_52 rfl rfl ?_
          refine x_goto r96_53 ?_
          subst h39
          exact kj38
        · refine x_icneF r96_49 c40 ?_
          refine x_ic (v := 0) r96_56 rfl rfl ?_
          subst h39
          exact kj38
    · refine x_ifeqF r96_25 c10 rfl ?_
      refine x_ld (v := .ref 106) r96_28 rfl rfl rfl ?_
      obtain ⟨q49, h50, h⟩ := Option.bind_eq_some_iff.mp h
      refine x_call1 (as := [.ref 106]) (rest := []) r96_29 rfl rfl rfl (by decide) (Nat.le_of_ble_eq_true rfl) (m95_ok h50) (Nat.le_trans (by decide) hd) (Nat.zero_le _) (Nat.zero_le _) rfl ?_
      obtain ⟨g51, h⟩ := am_gdE h
      cases h
      exact x_ret (ret := some .boolean) (C := narrow .boolean (.int _) = .int _) (v := some (.int _)) r96_32 rt96 rfl rfl rfl rfl rfl rfl rfl rfl (congrArg Value.int g51) hQ
  · refine x_ifeqF r96_14 c7 rfl ?_
    refine x_ic (v := 1) r96_17 rfl rfl ?_
    cases h
    exact x_ret (ret := some .boolean) (C := narrow .boolean (.int (1 : Int32)) = .int (1 : Int32)) (v := some (.int (1 : Int32))) r96_18 rt96 rfl rfl rfl rfl rfl rfl rfl rfl (by decide) hQ
theorem m96_ok {D : am_D} {r : Int32 × am_D} (h : m96 D = some r) : am_Y xs L 96 4 0 0 [.ref 106] D (.inl (some (.int r.1))) r.2 := am_Yof (mi := am_m96) (lc := [.ref 106]) pg96 (Nat.le_of_ble_eq_true rfl) (am_rc1 (ci := 8) rfl rfl rfl rfl rfl) rfl (fun Q hQ => m96_w (Nat.le_refl _) h hQ)
theorem r97_0 : am_at 97 0 = some (.aload_n 0, 1, [0]) := by decide +kernel
theorem r97_1 : am_at 97 1 = some (.iconst (0), 1, []) := by decide +kernel
theorem r97_2 : am_at 97 2 = some (.putfield 179, 3, [8, 6, 0, 1221]) := by decide +kernel
theorem r97_5 : am_at 97 5 = some (.aload_n 0, 1, [0]) := by decide +kernel
theorem r97_6 : am_at 97 6 = some (.invokevirtual 206, 3, [96, 1, 1477, 0]) := by decide +kernel
theorem r97_9 : am_at 97 9 = some (.ifCond .eq (27), 3, [36]) := by decide +kernel
theorem r97_12 : am_at 97 12 = some (.aload_n 0, 1, [0]) := by decide +kernel
theorem r97_13 : am_at 97 13 = some (.getfield 179, 3, [8, 6, 0, 1221]) := by decide +kernel
theorem r97_16 : am_at 97 16 = some (.aload_n 0, 1, [0]) := by decide +kernel
theorem r97_17 : am_at 97 17 = some (.getfield 176, 3, [8, 5, 0, 1220]) := by decide +kernel
theorem r97_20 : am_at 97 20 = some (.if_icmp .ne (5), 3, [25]) := by decide +kernel
theorem r97_23 : am_at 97 23 = some (.iconst (1), 1, []) := by decide +kernel
theorem r97_24 : am_at 97 24 = some (.ireturn, 1, []) := by decide +kernel
theorem r97_25 : am_at 97 25 = some (.aload_n 0, 1, [0]) := by decide +kernel
theorem r97_26 : am_at 97 26 = some (.bipush (59), 2, []) := by decide +kernel
theorem r97_28 : am_at 97 28 = some (.invokevirtual 197, 3, [92, 2, 1485, 0]) := by decide +kernel
theorem r97_31 : am_at 97 31 = some (.ifCond .ne (-26), 3, [5]) := by decide +kernel
theorem r97_34 : am_at 97 34 = some (.iconst (0), 1, []) := by decide +kernel
theorem r97_35 : am_at 97 35 = some (.ireturn, 1, []) := by decide +kernel
theorem r97_36 : am_at 97 36 = some (.iconst (0), 1, []) := by decide +kernel
theorem r97_37 : am_at 97 37 = some (.ireturn, 1, []) := by decide +kernel
theorem rt97 : am_rtt 97 = some (some .boolean) := by decide +kernel
set_option maxRecDepth 100000 in
theorem pg97 : am_pg[97]? = some am_m97 := rfl
theorem m97_L5_w {d : Nat} {N : Nat} {mc ms : Nat} {Q : am_O → am_AH → Prop} (hd : 5 ≤ d) : ∀ (n : Nat) (D : am_D) {q : Nat × am_D} (h : m97_L5 N  n D = some q) (k0 : q.1 = 0 → am_X xs L 97 d mc ms 36 [.ref 106] [] (am_mk q.2) 0 0 Q) (k1 : q.1 = 1 → am_X xs L 97 d mc ms 23 [.ref 106] [] (am_mk q.2) 0 0 Q) (k2 : q.1 = 2 → am_X xs L 97 d mc ms 34 [.ref 106] [] (am_mk q.2) 0 0 Q), am_X xs L 97 d mc ms 5 [.ref 106] [] (am_mk D) 0 0 Q := by
  intro n
  induction n with
  | zero =>
    intro D  q h k0 k1 k2
    exact (nomatch (show none = some q from h))
  | succ n ih =>
    intro D  q h k0 k1 k2
    rw [m97_L5] at h
    refine x_ld (v := .ref 106) r97_5 rfl rfl rfl ?_
    obtain ⟨q3, h4, h⟩ := Option.bind_eq_some_iff.mp h
    refine x_call1 (as := [.ref 106]) (rest := []) r97_6 rfl rfl rfl (by decide) (Nat.le_of_ble_eq_true rfl) (m96_ok h4) (Nat.le_trans (by decide) hd) (Nat.zero_le _) (Nat.zero_le _) rfl ?_
    rcases am_ifE h with ⟨c5, h⟩ | ⟨c5, h⟩
    · refine x_ifeqT r97_9 c5 ?_
      refine x_forget (lc0 := [.ref 106]) ⟨Or.inl rfl, trivial⟩ ?_
      cases h
      exact k0 rfl
    · refine x_ifeqF r97_9 c5 rfl ?_
      refine x_ld (v := .ref 106) r97_12 rfl rfl rfl ?_
      refine y_gf (cd := 0) (v := .int (q3.2.1 106 6)) r97_13 rfl rfl rfl ?_
      refine x_ld (v := .ref 106) r97_16 rfl rfl rfl ?_
      refine y_gf (cd := 0) (v := .int (q3.2.1 106 5)) r97_17 rfl rfl rfl ?_
      rcases am_ifE h with ⟨c6, h⟩ | ⟨c6, h⟩
      · refine x_icneT r97_20 c6 rfl ?_
        refine x_forget (lc0 := [.ref 106]) ⟨Or.inl rfl, trivial⟩ ?_
        cases h
        exact k1 rfl
      · refine x_icneF r97_20 c6 ?_
        refine x_ld (v := .ref 106) r97_25 rfl rfl rfl ?_
        refine x_bi (v := 59) r97_26 rfl rfl ?_
        obtain ⟨q7, h8, h⟩ := Option.bind_eq_some_iff.mp h
        refine x_call1 (as := [.ref 106, .int (59 : Int32)]) (rest := []) r97_28 rfl rfl rfl (by decide) (Nat.le_of_ble_eq_true rfl) (m92_ok h8) (Nat.le_trans (by decide) hd) (Nat.zero_le _) (Nat.zero_le _) rfl ?_
        rcases am_ifE h with ⟨c9, h⟩ | ⟨c9, h⟩
        · refine x_ifneT r97_31 c9 rfl ?_
          refine x_forget (lc0 := [.ref 106]) ⟨Or.inl rfl, trivial⟩ ?_
          cases h
          exact k2 rfl
        · refine x_ifneF r97_31 c9 ?_
          exact x_forget (lc0 := [.ref 106]) ⟨Or.inl rfl, trivial⟩ (ih q7.2 h k0 k1 k2)
theorem m97_w {d mc ms : Nat} {N : Nat} {D : am_D} {Q : am_O → am_AH → Prop} (hd : 5 ≤ d) {r : Int32 × am_D} (h : m97 N D = some r) (hQ : Q (.inl (some (.int r.1))) (am_mk r.2)) : am_X xs L 97 d mc ms 0 [.ref 106] [] (am_mk D) 0 0 Q := by
  unfold m97 at h
  refine x_ld (v := .ref 106) r97_0 rfl rfl rfl ?_
  refine x_ic (v := 0) r97_1 rfl rfl ?_
  obtain ⟨D1, e2, h⟩ := am_ltE h
  refine y_pf0 r97_2 rfl e2 rfl ?_
  obtain ⟨q10, h11, h⟩ := Option.bind_eq_some_iff.mp h
  refine x_forget (lc0 := [.ref 106]) ⟨Or.inl rfl, trivial⟩ (m97_L5_w hd N D1 h11 (fun e12 => ?_) (fun e13 => ?_) (fun e14 => ?_))
  · rw [if_pos e12] at h
    refine x_ic (v := 0) r97_36 rfl rfl ?_
    cases h
    exact x_ret (ret := some .boolean) (C := narrow .boolean (.int (0 : Int32)) = .int (0 : Int32)) (v := some (.int (0 : Int32))) r97_37 rt97 rfl rfl rfl rfl rfl rfl rfl rfl (by decide) hQ
  · rw [if_neg (by rw [e13]; decide)] at h
    rw [if_pos e13] at h
    refine x_ic (v := 1) r97_23 rfl rfl ?_
    cases h
    exact x_ret (ret := some .boolean) (C := narrow .boolean (.int (1 : Int32)) = .int (1 : Int32)) (v := some (.int (1 : Int32))) r97_24 rt97 rfl rfl rfl rfl rfl rfl rfl rfl (by decide) hQ
  · rw [if_neg (by rw [e14]; decide)] at h
    rw [if_neg (by rw [e14]; decide)] at h
    refine x_ic (v := 0) r97_34 rfl rfl ?_
    cases h
    exact x_ret (ret := some .boolean) (C := narrow .boolean (.int (0 : Int32)) = .int (0 : Int32)) (v := some (.int (0 : Int32))) r97_35 rt97 rfl rfl rfl rfl rfl rfl rfl rfl (by decide) hQ
theorem m97_ok {N : Nat} {D : am_D} {r : Int32 × am_D} (h : m97 N D = some r) : am_Y xs L 97 5 0 0 [.ref 106] D (.inl (some (.int r.1))) r.2 := am_Yof (mi := am_m97) (lc := [.ref 106]) pg97 (Nat.le_of_ble_eq_true rfl) (am_rc1 (ci := 8) rfl rfl rfl rfl rfl) rfl (fun Q hQ => m97_w (Nat.le_refl _) h hQ)
theorem r98_0 : am_at 98 0 = some (.aload_n 0, 1, [0]) := by decide +kernel
theorem r98_1 : am_at 98 1 = some (.iconst (0), 1, []) := by decide +kernel
theorem r98_2 : am_at 98 2 = some (.putfield 179, 3, [8, 6, 0, 1221]) := by decide +kernel
theorem r98_5 : am_at 98 5 = some (.iconst (1), 1, []) := by decide +kernel
theorem r98_6 : am_at 98 6 = some (.istore_n 1, 1, [1]) := by decide +kernel
theorem r98_7 : am_at 98 7 = some (.iload_n 1, 1, [1]) := by decide +kernel
theorem r98_8 : am_at 98 8 = some (.ifCond .eq (24), 3, [32]) := by decide +kernel
theorem r98_11 : am_at 98 11 = some (.aload_n 0, 1, [0]) := by decide +kernel
theorem r98_12 : am_at 98 12 = some (.iconst (0), 1, []) := by decide +kernel
theorem r98_13 : am_at 98 13 = some (.iconst (3), 1, []) := by decide +kernel
theorem r98_14 : am_at 98 14 = some (.invokevirtual 185, 3, [93, 3, 1493, 0]) := by decide +kernel
theorem r98_17 : am_at 98 17 = some (.iconst (-1), 1, []) := by decide +kernel
theorem r98_18 : am_at 98 18 = some (.if_icmp .eq (12), 3, [30]) := by decide +kernel
theorem r98_21 : am_at 98 21 = some (.aload_n 0, 1, [0]) := by decide +kernel
theorem r98_22 : am_at 98 22 = some (.bipush (58), 2, []) := by decide +kernel
theorem r98_24 : am_at 98 24 = some (.invokevirtual 197, 3, [92, 2, 1485, 0]) := by decide +kernel
theorem r98_27 : am_at 98 27 = some (.ifCond .ne (5), 3, [32]) := by decide +kernel
theorem r98_30 : am_at 98 30 = some (.iconst (0), 1, []) := by decide +kernel
theorem r98_31 : am_at 98 31 = some (.ireturn, 1, []) := by decide +kernel
theorem r98_32 : am_at 98 32 = some (.aload_n 0, 1, [0]) := by decide +kernel
theorem r98_33 : am_at 98 33 = some (.invokevirtual 203, 3, [94, 1, 1497, 0]) := by decide +kernel
theorem r98_36 : am_at 98 36 = some (.iconst (-1), 1, []) := by decide +kernel
theorem r98_37 : am_at 98 37 = some (.if_icmp .ne (5), 3, [42]) := by decide +kernel
theorem r98_40 : am_at 98 40 = some (.iconst (0), 1, []) := by decide +kernel
theorem r98_41 : am_at 98 41 = some (.ireturn, 1, []) := by decide +kernel
theorem r98_42 : am_at 98 42 = some (.aload_n 0, 1, [0]) := by decide +kernel
theorem r98_43 : am_at 98 43 = some (.getfield 179, 3, [8, 6, 0, 1221]) := by decide +kernel
theorem r98_46 : am_at 98 46 = some (.aload_n 0, 1, [0]) := by decide +kernel
theorem r98_47 : am_at 98 47 = some (.getfield 176, 3, [8, 5, 0, 1220]) := by decide +kernel
theorem r98_50 : am_at 98 50 = some (.if_icmp .ne (5), 3, [55]) := by decide +kernel
theorem r98_53 : am_at 98 53 = some (.iconst (1), 1, []) := by decide +kernel
theorem r98_54 : am_at 98 54 = some (.ireturn, 1, []) := by decide +kernel
theorem r98_55 : am_at 98 55 = some (.aload_n 0, 1, [0]) := by decide +kernel
theorem r98_56 : am_at 98 56 = some (.invokevirtual 182, 3, [91, 1, 1481, 0]) := by decide +kernel
theorem r98_59 : am_at 98 59 = some (.bipush (59), 2, []) := by decide +kernel
theorem r98_61 : am_at 98 61 = some (.if_icmp .ne (7), 3, [68]) := by decide +kernel
theorem r98_64 : am_at 98 64 = some (.iconst (1), 1, []) := by decide +kernel
theorem r98_65 : am_at 98 65 = some (.goto (4), 3, [69]) := by decide +kernel
theorem r98_68 : am_at 98 68 = some (.iconst (0), 1, []) := by decide +kernel
theorem r98_69 : am_at 98 69 = some (.istore_n 1, 1, [1]) := by decide +kernel
theorem r98_70 : am_at 98 70 = some (.aload_n 0, 1, [0]) := by decide +kernel
theorem r98_71 : am_at 98 71 = some (.bipush (59), 2, []) := by decide +kernel
theorem r98_73 : am_at 98 73 = some (.invokevirtual 197, 3, [92, 2, 1485, 0]) := by decide +kernel
theorem r98_76 : am_at 98 76 = some (.ifCond .ne (-69), 3, [7]) := by decide +kernel
theorem r98_79 : am_at 98 79 = some (.aload_n 0, 1, [0]) := by decide +kernel
theorem r98_80 : am_at 98 80 = some (.bipush (44), 2, []) := by decide +kernel
theorem r98_82 : am_at 98 82 = some (.invokevirtual 197, 3, [92, 2, 1485, 0]) := by decide +kernel
theorem r98_85 : am_at 98 85 = some (.ifCond .ne (-78), 3, [7]) := by decide +kernel
theorem r98_88 : am_at 98 88 = some (.iconst (0), 1, []) := by decide +kernel
theorem r98_89 : am_at 98 89 = some (.ireturn, 1, []) := by decide +kernel
theorem rt98 : am_rtt 98 = some (some .boolean) := by decide +kernel
set_option maxRecDepth 100000 in
theorem pg98 : am_pg[98]? = some am_m98 := rfl
theorem m98_L7_w {d : Nat} {N : Nat} {mc ms : Nat} {Q : am_O → am_AH → Prop} (hd : 4 ≤ d) : ∀ (n : Nat) (D : am_D) (v1 : Int32) {q : Nat × am_D} (h : m98_L7 N  n D v1 = some q) (k0 : q.1 = 0 → am_X xs L 98 d mc ms 30 [.ref 106, am_dead] [] (am_mk q.2) 0 0 Q) (k1 : q.1 = 1 → am_X xs L 98 d mc ms 40 [.ref 106, am_dead] [] (am_mk q.2) 0 0 Q) (k2 : q.1 = 2 → am_X xs L 98 d mc ms 53 [.ref 106, am_dead] [] (am_mk q.2) 0 0 Q) (k3 : q.1 = 3 → am_X xs L 98 d mc ms 88 [.ref 106, am_dead] [] (am_mk q.2) 0 0 Q), am_X xs L 98 d mc ms 7 [.ref 106, .int v1] [] (am_mk D) 0 0 Q := by
  intro n
  induction n with
  | zero =>
    intro D v1 q h k0 k1 k2 k3
    exact (nomatch (show none = some q from h))
  | succ n ih =>
    intro D v1 q h k0 k1 k2 k3
    rw [m98_L7] at h
    refine x_ld (v := .int v1) r98_7 rfl rfl rfl ?_
    rcases am_ifE h with ⟨c3, h⟩ | ⟨c3, h⟩
    · refine x_ifeqT r98_8 c3 ?_
      refine x_ld (v := .ref 106) r98_32 rfl rfl rfl ?_
      obtain ⟨q4, h5, h⟩ := Option.bind_eq_some_iff.mp h
      refine x_call1 (as := [.ref 106]) (rest := []) r98_33 rfl rfl rfl (by decide) (Nat.le_of_ble_eq_true rfl) (m94_ok h5) (Nat.le_trans (by decide) hd) (Nat.zero_le _) (Nat.zero_le _) rfl ?_
      refine x_ic (v := -1) r98_36 rfl rfl ?_
      rcases am_ifE h with ⟨c6, h⟩ | ⟨c6, h⟩
      · refine x_icneT r98_37 c6 rfl ?_
        refine x_forget (lc0 := [.ref 106, am_dead]) ⟨Or.inl rfl, Or.inr ⟨rfl, rfl⟩, trivial⟩ ?_
        cases h
        exact k1 rfl
      · refine x_icneF r98_37 c6 ?_
        refine x_ld (v := .ref 106) r98_42 rfl rfl rfl ?_
        refine y_gf (cd := 0) (v := .int (q4.2.1 106 6)) r98_43 rfl rfl rfl ?_
        refine x_ld (v := .ref 106) r98_46 rfl rfl rfl ?_
        refine y_gf (cd := 0) (v := .int (q4.2.1 106 5)) r98_47 rfl rfl rfl ?_
        rcases am_ifE h with ⟨c7, h⟩ | ⟨c7, h⟩
        · refine x_icneT r98_50 c7 rfl ?_
          refine x_forget (lc0 := [.ref 106, am_dead]) ⟨Or.inl rfl, Or.inr ⟨rfl, rfl⟩, trivial⟩ ?_
          cases h
          exact k2 rfl
        · refine x_icneF r98_50 c7 ?_
          refine x_ld (v := .ref 106) r98_55 rfl rfl rfl ?_
          obtain ⟨q8, h9, h⟩ := Option.bind_eq_some_iff.mp h
          refine x_call1 (as := [.ref 106]) (rest := []) r98_56 rfl rfl rfl (by decide) (Nat.le_of_ble_eq_true rfl) (m91_ok h9) (Nat.le_trans (by decide) hd) (Nat.zero_le _) (Nat.zero_le _) rfl ?_
          refine x_bi (v := 59) r98_59 rfl rfl ?_
          obtain ⟨q10, h12, h⟩ := am_ltE h
          replace h12 := h12.symm
          have kj11 : am_X xs L 98 d mc ms 69 [.ref 106, .int v1] [.int q10] (am_mk q4.2) 0 0 Q := by
            refine x_sto (lc' := [.ref 106, .int q10]) r98_69 rfl rfl rfl rfl ?_
            refine x_ld (v := .ref 106) r98_70 rfl rfl rfl ?_
            refine x_bi (v := 59) r98_71 rfl rfl ?_
            obtain ⟨q14, h15, h⟩ := Option.bind_eq_some_iff.mp h
            refine x_call1 (as := [.ref 106, .int (59 : Int32)]) (rest := []) r98_73 rfl rfl rfl (by decide) (Nat.le_of_ble_eq_true rfl) (m92_ok h15) (Nat.le_trans (by decide) hd) (Nat.zero_le _) (Nat.zero_le _) rfl ?_
            rcases am_ifE h with ⟨c16, h⟩ | ⟨c16, h⟩
            · refine x_ifneT r98_76 c16 rfl ?_
              refine x_ld (v := .ref 106) r98_79 rfl rfl rfl ?_
              refine x_bi (v := 44) r98_80 rfl rfl ?_
              obtain ⟨q17, h18, h⟩ := Option.bind_eq_some_iff.mp h
              refine x_call1 (as := [.ref 106, .int (44 : Int32)]) (rest := []) r98_82 rfl rfl rfl (by decide) (Nat.le_of_ble_eq_true rfl) (m92_ok h18) (Nat.le_trans (by decide) hd) (Nat.zero_le _) (Nat.zero_le _) rfl ?_
              rcases am_ifE h with ⟨c19, h⟩ | ⟨c19, h⟩
              · refine x_ifneT r98_85 c19 rfl ?_
                refine x_forget (lc0 := [.ref 106, am_dead]) ⟨Or.inl rfl, Or.inr ⟨rfl, rfl⟩, trivial⟩ ?_
                cases h
                exact k3 rfl
              · refine x_ifneF r98_85 c19 ?_
                exact x_forget (lc0 := [.ref 106, .int q10]) ⟨Or.inl rfl, Or.inl rfl, trivial⟩ (ih q17.2 q10 h k0 k1 k2 k3)
            · refine x_ifneF r98_76 c16 ?_
              exact x_forget (lc0 := [.ref 106, .int q10]) ⟨Or.inl rfl, Or.inl rfl, trivial⟩ (ih q14.2 q10 h k0 k1 k2 k3)
          rcases am_ifE h12 with ⟨c13, h12⟩ | ⟨c13, h12⟩
          · refine x_icneT r98_61 c13 rfl ?_
            refine x_ic (v := 1) r98_64 rfl rfl ?_
            refine x_goto r98_65 ?_
            subst h12
            exact kj11
          · refine x_icneF r98_61 c13 ?_
            refine x_ic (v := 0) r98_68 rfl rfl ?_
            subst h12
            exact kj11
    · refine x_ifeqF r98_8 c3 rfl ?_
      refine x_ld (v := .ref 106) r98_11 rfl rfl rfl ?_
      refine x_ic (v := 0) r98_12 rfl rfl ?_
      refine x_ic (v := 3) r98_13 rfl rfl ?_
      obtain ⟨q20, h21, h⟩ := Option.bind_eq_some_iff.mp h
      refine x_call1 (as := [.ref 106, .int (0 : Int32), .int (3 : Int32)]) (rest := []) r98_14 rfl rfl rfl (by decide) (Nat.le_of_ble_eq_true rfl) (m93_ok h21) (Nat.le_trans (by decide) hd) (Nat.zero_le _) (Nat.zero_le _) rfl ?_
      refine x_ic (v := -1) r98_17 rfl rfl ?_
      rcases am_ifE h with ⟨c22, h⟩ | ⟨c22, h⟩
      · refine x_iceqT r98_18 c22 ?_
        refine x_forget (lc0 := [.ref 106, am_dead]) ⟨Or.inl rfl, Or.inr ⟨rfl, rfl⟩, trivial⟩ ?_
        cases h
        exact k0 rfl
      · refine x_iceqF r98_18 c22 rfl ?_
        refine x_ld (v := .ref 106) r98_21 rfl rfl rfl ?_
        refine x_bi (v := 58) r98_22 rfl rfl ?_
        obtain ⟨q23, h24, h⟩ := Option.bind_eq_some_iff.mp h
        refine x_call1 (as := [.ref 106, .int (58 : Int32)]) (rest := []) r98_24 rfl rfl rfl (by decide) (Nat.le_of_ble_eq_true rfl) (m92_ok h24) (Nat.le_trans (by decide) hd) (Nat.zero_le _) (Nat.zero_le _) rfl ?_
        rcases am_ifE h with ⟨c25, h⟩ | ⟨c25, h⟩
        · refine x_ifneT r98_27 c25 rfl ?_
          refine x_forget (lc0 := [.ref 106, am_dead]) ⟨Or.inl rfl, Or.inr ⟨rfl, rfl⟩, trivial⟩ ?_
          cases h
          exact k0 rfl
        · refine x_ifneF r98_27 c25 ?_
          refine x_ld (v := .ref 106) r98_32 rfl rfl rfl ?_
          obtain ⟨q26, h27, h⟩ := Option.bind_eq_some_iff.mp h
          refine x_call1 (as := [.ref 106]) (rest := []) r98_33 rfl rfl rfl (by decide) (Nat.le_of_ble_eq_true rfl) (m94_ok h27) (Nat.le_trans (by decide) hd) (Nat.zero_le _) (Nat.zero_le _) rfl ?_
          refine x_ic (v := -1) r98_36 rfl rfl ?_
          rcases am_ifE h with ⟨c28, h⟩ | ⟨c28, h⟩
          · refine x_icneT r98_37 c28 rfl ?_
            refine x_forget (lc0 := [.ref 106, am_dead]) ⟨Or.inl rfl, Or.inr ⟨rfl, rfl⟩, trivial⟩ ?_
            cases h
            exact k1 rfl
          · refine x_icneF r98_37 c28 ?_
            refine x_ld (v := .ref 106) r98_42 rfl rfl rfl ?_
            refine y_gf (cd := 0) (v := .int (q26.2.1 106 6)) r98_43 rfl rfl rfl ?_
            refine x_ld (v := .ref 106) r98_46 rfl rfl rfl ?_
            refine y_gf (cd := 0) (v := .int (q26.2.1 106 5)) r98_47 rfl rfl rfl ?_
            rcases am_ifE h with ⟨c29, h⟩ | ⟨c29, h⟩
            · refine x_icneT r98_50 c29 rfl ?_
              refine x_forget (lc0 := [.ref 106, am_dead]) ⟨Or.inl rfl, Or.inr ⟨rfl, rfl⟩, trivial⟩ ?_
              cases h
              exact k2 rfl
            · refine x_icneF r98_50 c29 ?_
              refine x_ld (v := .ref 106) r98_55 rfl rfl rfl ?_
              obtain ⟨q30, h31, h⟩ := Option.bind_eq_some_iff.mp h
              refine x_call1 (as := [.ref 106]) (rest := []) r98_56 rfl rfl rfl (by decide) (Nat.le_of_ble_eq_true rfl) (m91_ok h31) (Nat.le_trans (by decide) hd) (Nat.zero_le _) (Nat.zero_le _) rfl ?_
              refine x_bi (v := 59) r98_59 rfl rfl ?_
              obtain ⟨q32, h34, h⟩ := am_ltE h
              replace h34 := h34.symm
              have kj33 : am_X xs L 98 d mc ms 69 [.ref 106, .int v1] [.int q32] (am_mk q26.2) 0 0 Q := by
                refine x_sto (lc' := [.ref 106, .int q32]) r98_69 rfl rfl rfl rfl ?_
                refine x_ld (v := .ref 106) r98_70 rfl rfl rfl ?_
                refine x_bi (v := 59) r98_71 rfl rfl ?_
                obtain ⟨q36, h37, h⟩ := Option.bind_eq_some_iff.mp h
                refine x_call1 (as := [.ref 106, .int (59 : Int32)]) (rest := []) r98_73 rfl rfl rfl (by decide) (Nat.le_of_ble_eq_true rfl) (m92_ok h37) (Nat.le_trans (by decide) hd) (Nat.zero_le _) (Nat.zero_le _) rfl ?_
                rcases am_ifE h with ⟨c38, h⟩ | ⟨c38, h⟩
                · refine x_ifneT r98_76 c38 rfl ?_
                  refine x_ld (v := .ref 106) r98_79 rfl rfl rfl ?_
                  refine x_bi (v := 44) r98_80 rfl rfl ?_
                  obtain ⟨q39, h40, h⟩ := Option.bind_eq_some_iff.mp h
                  refine x_call1 (as := [.ref 106, .int (44 : Int32)]) (rest := []) r98_82 rfl rfl rfl (by decide) (Nat.le_of_ble_eq_true rfl) (m92_ok h40) (Nat.le_trans (by decide) hd) (Nat.zero_le _) (Nat.zero_le _) rfl ?_
                  rcases am_ifE h with ⟨c41, h⟩ | ⟨c41, h⟩
                  · refine x_ifneT r98_85 c41 rfl ?_
                    refine x_forget (lc0 := [.ref 106, am_dead]) ⟨Or.inl rfl, Or.inr ⟨rfl, rfl⟩, trivial⟩ ?_
                    cases h
                    exact k3 rfl
                  · refine x_ifneF r98_85 c41 ?_
                    exact x_forget (lc0 := [.ref 106, .int q32]) ⟨Or.inl rfl, Or.inl rfl, trivial⟩ (ih q39.2 q32 h k0 k1 k2 k3)
                · refine x_ifneF r98_76 c38 ?_
                  exact x_forget (lc0 := [.ref 106, .int q32]) ⟨Or.inl rfl, Or.inl rfl, trivial⟩ (ih q36.2 q32 h k0 k1 k2 k3)
              rcases am_ifE h34 with ⟨c35, h34⟩ | ⟨c35, h34⟩
              · refine x_icneT r98_61 c35 rfl ?_
                refine x_ic (v := 1) r98_64 rfl rfl ?_
                refine x_goto r98_65 ?_
                subst h34
                exact kj33
              · refine x_icneF r98_61 c35 ?_
                refine x_ic (v := 0) r98_68 rfl rfl ?_
                subst h34
                exact kj33
theorem m98_w {d mc ms : Nat} {N : Nat} {D : am_D} {Q : am_O → am_AH → Prop} (hd : 4 ≤ d) {r : Int32 × am_D} (h : m98 N D = some r) (hQ : Q (.inl (some (.int r.1))) (am_mk r.2)) : am_X xs L 98 d mc ms 0 [.ref 106, am_dead] [] (am_mk D) 0 0 Q := by
  unfold m98 at h
  refine x_ld (v := .ref 106) r98_0 rfl rfl rfl ?_
  refine x_ic (v := 0) r98_1 rfl rfl ?_
  obtain ⟨D1, e2, h⟩ := am_ltE h
  refine y_pf0 r98_2 rfl e2 rfl ?_
  refine x_ic (v := 1) r98_5 rfl rfl ?_
  refine x_sto (lc' := [.ref 106, .int (1 : Int32)]) r98_6 rfl rfl rfl rfl ?_
  obtain ⟨q42, h43, h⟩ := Option.bind_eq_some_iff.mp h
  refine x_forget (lc0 := [.ref 106, .int (1 : Int32)]) ⟨Or.inl rfl, Or.inl rfl, trivial⟩ (m98_L7_w hd N D1 (1 : Int32) h43 (fun e44 => ?_) (fun e45 => ?_) (fun e46 => ?_) (fun e47 => ?_))
  · rw [if_pos e44] at h
    refine x_ic (v := 0) r98_30 rfl rfl ?_
    cases h
    exact x_ret (ret := some .boolean) (C := narrow .boolean (.int (0 : Int32)) = .int (0 : Int32)) (v := some (.int (0 : Int32))) r98_31 rt98 rfl rfl rfl rfl rfl rfl rfl rfl (by decide) hQ
  · rw [if_neg (by rw [e45]; decide)] at h
    rw [if_pos e45] at h
    refine x_ic (v := 0) r98_40 rfl rfl ?_
    cases h
    exact x_ret (ret := some .boolean) (C := narrow .boolean (.int (0 : Int32)) = .int (0 : Int32)) (v := some (.int (0 : Int32))) r98_41 rt98 rfl rfl rfl rfl rfl rfl rfl rfl (by decide) hQ
  · rw [if_neg (by rw [e46]; decide)] at h
    rw [if_neg (by rw [e46]; decide)] at h
    rw [if_pos e46] at h
    refine x_ic (v := 1) r98_53 rfl rfl ?_
    cases h
    exact x_ret (ret := some .boolean) (C := narrow .boolean (.int (1 : Int32)) = .int (1 : Int32)) (v := some (.int (1 : Int32))) r98_54 rt98 rfl rfl rfl rfl rfl rfl rfl rfl (by decide) hQ
  · rw [if_neg (by rw [e47]; decide)] at h
    rw [if_neg (by rw [e47]; decide)] at h
    rw [if_neg (by rw [e47]; decide)] at h
    refine x_ic (v := 0) r98_88 rfl rfl ?_
    cases h
    exact x_ret (ret := some .boolean) (C := narrow .boolean (.int (0 : Int32)) = .int (0 : Int32)) (v := some (.int (0 : Int32))) r98_89 rt98 rfl rfl rfl rfl rfl rfl rfl rfl (by decide) hQ
theorem m98_ok {N : Nat} {D : am_D} {r : Int32 × am_D} (h : m98 N D = some r) : am_Y xs L 98 4 0 0 [.ref 106] D (.inl (some (.int r.1))) r.2 := am_Yof (mi := am_m98) (lc := [.ref 106, am_dead]) pg98 (Nat.le_of_ble_eq_true rfl) (am_rc1 (ci := 8) rfl rfl rfl rfl rfl) rfl (fun Q hQ => m98_w (Nat.le_refl _) h hQ)
theorem r99_0 : am_at 99 0 = some (.aload_n 0, 1, [0]) := by decide +kernel
theorem r99_1 : am_at 99 1 = some (.iload_n 1, 1, [1]) := by decide +kernel
theorem r99_2 : am_at 99 2 = some (.iconst (0), 1, []) := by decide +kernel
theorem r99_3 : am_at 99 3 = some (.iconst (1), 1, []) := by decide +kernel
theorem r99_4 : am_at 99 4 = some (.invokestatic 65, 3, [46, 3, 1305, 0]) := by decide +kernel
theorem r99_7 : am_at 99 7 = some (.ifCond .eq (7), 3, [14]) := by decide +kernel
theorem r99_10 : am_at 99 10 = some (.iconst (0), 1, []) := by decide +kernel
theorem r99_11 : am_at 99 11 = some (.goto (4), 3, [15]) := by decide +kernel
theorem r99_14 : am_at 99 14 = some (.iconst (1), 1, []) := by decide +kernel
theorem r99_15 : am_at 99 15 = some (.invokevirtual 142, 3, [47, 2, 1323, 0]) := by decide +kernel
theorem r99_18 : am_at 99 18 = some (.ifCond .ne (5), 3, [23]) := by decide +kernel
theorem r99_21 : am_at 99 21 = some (.iconst (0), 1, []) := by decide +kernel
theorem r99_22 : am_at 99 22 = some (.ireturn, 1, []) := by decide +kernel
theorem r99_23 : am_at 99 23 = some (.iload_n 1, 1, [1]) := by decide +kernel
theorem r99_24 : am_at 99 24 = some (.ifCond .ne (10), 3, [34]) := by decide +kernel
theorem r99_27 : am_at 99 27 = some (.aload_n 0, 1, [0]) := by decide +kernel
theorem r99_28 : am_at 99 28 = some (.invokevirtual 209, 3, [97, 1, 1473, 0]) := by decide +kernel
theorem r99_31 : am_at 99 31 = some (.goto (7), 3, [38]) := by decide +kernel
theorem r99_34 : am_at 99 34 = some (.aload_n 0, 1, [0]) := by decide +kernel
theorem r99_35 : am_at 99 35 = some (.invokevirtual 212, 3, [98, 1, 1504, 0]) := by decide +kernel
theorem r99_38 : am_at 99 38 = some (.istore_n 2, 1, [2]) := by decide +kernel
theorem r99_39 : am_at 99 39 = some (.iload_n 2, 1, [2]) := by decide +kernel
theorem r99_40 : am_at 99 40 = some (.ifCond .eq (10), 3, [50]) := by decide +kernel
theorem r99_43 : am_at 99 43 = some (.aload_n 0, 1, [0]) := by decide +kernel
theorem r99_44 : am_at 99 44 = some (.getfield 176, 3, [8, 5, 0, 1220]) := by decide +kernel
theorem r99_47 : am_at 99 47 = some (.goto (7), 3, [54]) := by decide +kernel
theorem r99_50 : am_at 99 50 = some (.aload_n 0, 1, [0]) := by decide +kernel
theorem r99_51 : am_at 99 51 = some (.getfield 179, 3, [8, 6, 0, 1221]) := by decide +kernel
theorem r99_54 : am_at 99 54 = some (.ireturn, 1, []) := by decide +kernel
theorem rt99 : am_rtt 99 = some (some .int) := by decide +kernel
set_option maxRecDepth 100000 in
theorem pg99 : am_pg[99]? = some am_m99 := rfl
theorem m99_w {d mc ms : Nat} {N : Nat} {D : am_D} {v1 : Int32} {Q : am_O → am_AH → Prop} (hd : 6 ≤ d) {r : Int32 × am_D} (h : m99 N D v1 = some r) (hQ : Q (.inl (some (.int r.1))) (am_mk r.2)) : am_X xs L 99 d mc ms 0 [.ref 106, .int v1, am_dead] [] (am_mk D) 0 0 Q := by
  unfold m99 at h
  refine x_ld (v := .ref 106) r99_0 rfl rfl rfl ?_
  refine x_ld (v := .int v1) r99_1 rfl rfl rfl ?_
  refine x_ic (v := 0) r99_2 rfl rfl ?_
  refine x_ic (v := 1) r99_3 rfl rfl ?_
  refine x_call1 (as := [.int v1, .int (0 : Int32), .int (1 : Int32)]) (rest := [.ref 106]) r99_4 rfl rfl rfl (by decide) (Nat.le_of_ble_eq_true rfl) (m46_ok rfl) (Nat.le_trans (by decide) hd) (Nat.zero_le _) (Nat.zero_le _) rfl ?_
  obtain ⟨q1, h3, h⟩ := am_ltE h
  replace h3 := h3.symm
  have kj2 : am_X xs L 99 d mc ms 15 [.ref 106, .int v1, am_dead] [.int q1, .ref 106] (am_mk D) 0 0 Q := by
    obtain ⟨q5, h6, h⟩ := am_ltE h
    replace h6 := h6.symm
    refine x_call1 (as := [.ref 106, .int q1]) (rest := []) r99_15 rfl rfl rfl (by decide) (Nat.le_of_ble_eq_true rfl) (m47_ok h6) (Nat.le_trans (by decide) hd) (Nat.zero_le _) (Nat.zero_le _) rfl ?_
    rcases am_ifE h with ⟨c7, h⟩ | ⟨c7, h⟩
    · refine x_ifneT r99_18 c7 rfl ?_
      refine x_ic (v := 0) r99_21 rfl rfl ?_
      cases h
      exact x_ret (ret := some .int) (C := True) (v := some (.int _)) r99_22 rt99 rfl rfl rfl rfl rfl rfl rfl rfl trivial hQ
    · refine x_ifneF r99_18 c7 ?_
      refine x_ld (v := .int v1) r99_23 rfl rfl rfl ?_
      obtain ⟨q8, h10, h⟩ := Option.bind_eq_some_iff.mp h
      have kj9 : am_X xs L 99 d mc ms 38 [.ref 106, .int v1, am_dead] [.int q8.1] (am_mk q8.2) 0 0 Q := by
        refine x_sto (lc' := [.ref 106, .int v1, .int q8.1]) r99_38 rfl rfl rfl rfl ?_
        refine x_ld (v := .int q8.1) r99_39 rfl rfl rfl ?_
        rcases am_ifE h with ⟨c16, h⟩ | ⟨c16, h⟩
        · refine x_ifeqT r99_40 c16 ?_
          refine x_ld (v := .ref 106) r99_50 rfl rfl rfl ?_
          refine y_gf (cd := 0) (v := .int (q8.2.1 106 6)) r99_51 rfl rfl rfl ?_
          cases h
          exact x_ret (ret := some .int) (C := True) (v := some (.int _)) r99_54 rt99 rfl rfl rfl rfl rfl rfl rfl rfl trivial hQ
        · refine x_ifeqF r99_40 c16 rfl ?_
          refine x_ld (v := .ref 106) r99_43 rfl rfl rfl ?_
          refine y_gf (cd := 0) (v := .int (q8.2.1 106 5)) r99_44 rfl rfl rfl ?_
          refine x_goto r99_47 ?_
          cases h
          exact x_ret (ret := some .int) (C := True) (v := some (.int _)) r99_54 rt99 rfl rfl rfl rfl rfl rfl rfl rfl trivial hQ
      rcases am_ifE h10 with ⟨c11, h10⟩ | ⟨c11, h10⟩
      · refine x_ifneT r99_24 c11 rfl ?_
        refine x_ld (v := .ref 106) r99_27 rfl rfl rfl ?_
        obtain ⟨q12, h13, h10⟩ := Option.bind_eq_some_iff.mp h10
        refine x_call1 (as := [.ref 106]) (rest := []) r99_28 rfl rfl rfl (by decide) (Nat.le_of_ble_eq_true rfl) (m97_ok h13) (Nat.le_trans (by decide) hd) (Nat.zero_le _) (Nat.zero_le _) rfl ?_
        refine x_goto r99_31 ?_
        cases h10
        exact kj9
      · refine x_ifneF r99_24 c11 ?_
        refine x_ld (v := .ref 106) r99_34 rfl rfl rfl ?_
        obtain ⟨q14, h15, h10⟩ := Option.bind_eq_some_iff.mp h10
        refine x_call1 (as := [.ref 106]) (rest := []) r99_35 rfl rfl rfl (by decide) (Nat.le_of_ble_eq_true rfl) (m98_ok h15) (Nat.le_trans (by decide) hd) (Nat.zero_le _) (Nat.zero_le _) rfl ?_
        cases h10
        exact kj9
  rcases am_ifE h3 with ⟨c4, h3⟩ | ⟨c4, h3⟩
  · refine x_ifeqT r99_7 c4 ?_
    refine x_ic (v := 1) r99_14 rfl rfl ?_
    subst h3
    exact kj2
  · refine x_ifeqF r99_7 c4 rfl ?_
    refine x_ic (v := 0) r99_10 rfl rfl ?_
    refine x_goto r99_11 ?_
    subst h3
    exact kj2
theorem m99_ok {N : Nat} {D : am_D} {v1 : Int32} {r : Int32 × am_D} (h : m99 N D v1 = some r) : am_Y xs L 99 6 0 0 [.ref 106, .int v1] D (.inl (some (.int r.1))) r.2 := am_Yof (mi := am_m99) (lc := [.ref 106, .int v1, am_dead]) pg99 (Nat.le_of_ble_eq_true rfl) (am_rc1 (ci := 8) rfl rfl rfl rfl rfl) rfl (fun Q hQ => m99_w (Nat.le_refl _) h hQ)
theorem r100_0 : am_at 100 0 = some (.aload_n 0, 1, [0]) := by decide +kernel
theorem r100_1 : am_at 100 1 = some (.getfield 7, 3, [8, 1, 3, 1216]) := by decide +kernel
theorem r100_4 : am_at 100 4 = some (.iconst (1), 1, []) := by decide +kernel
theorem r100_5 : am_at 100 5 = some (.iaload, 1, []) := by decide +kernel
theorem r100_6 : am_at 100 6 = some (.istore_n 1, 1, [1]) := by decide +kernel
theorem r100_7 : am_at 100 7 = some (.aload_n 0, 1, [0]) := by decide +kernel
theorem r100_8 : am_at 100 8 = some (.getfield 7, 3, [8, 1, 3, 1216]) := by decide +kernel
theorem r100_11 : am_at 100 11 = some (.iconst (0), 1, []) := by decide +kernel
theorem r100_12 : am_at 100 12 = some (.iaload, 1, []) := by decide +kernel
theorem r100_13 : am_at 100 13 = some (.iconst (1), 1, []) := by decide +kernel
theorem r100_14 : am_at 100 14 = some (.if_icmp .eq (5), 3, [19]) := by decide +kernel
theorem r100_17 : am_at 100 17 = some (.iconst (0), 1, []) := by decide +kernel
theorem r100_18 : am_at 100 18 = some (.ireturn, 1, []) := by decide +kernel
theorem r100_19 : am_at 100 19 = some (.aload_n 0, 1, [0]) := by decide +kernel
theorem r100_20 : am_at 100 20 = some (.getfield 194, 3, [8, 7, 0, 1222]) := by decide +kernel
theorem r100_23 : am_at 100 23 = some (.lookupswitch (89) #[(99, 72), (112, 33), (116, 55)], 33, [112, 99, 95, 112, 56, 116, 78]) := by decide +kernel
theorem r100_56 : am_at 100 56 = some (.aload_n 0, 1, [0]) := by decide +kernel
theorem r100_57 : am_at 100 57 = some (.iload_n 1, 1, [1]) := by decide +kernel
theorem r100_58 : am_at 100 58 = some (.invokevirtual 164, 3, [69, 2, 1425, 0]) := by decide +kernel
theorem r100_61 : am_at 100 61 = some (.ifCond .ne (15), 3, [76]) := by decide +kernel
theorem r100_64 : am_at 100 64 = some (.aload_n 0, 1, [0]) := by decide +kernel
theorem r100_65 : am_at 100 65 = some (.iload_n 1, 1, [1]) := by decide +kernel
theorem r100_66 : am_at 100 66 = some (.invokevirtual 167, 3, [72, 2, 1437, 0]) := by decide +kernel
theorem r100_69 : am_at 100 69 = some (.ifCond .le (7), 3, [76]) := by decide +kernel
theorem r100_72 : am_at 100 72 = some (.iconst (1), 1, []) := by decide +kernel
theorem r100_73 : am_at 100 73 = some (.goto (4), 3, [77]) := by decide +kernel
theorem r100_76 : am_at 100 76 = some (.iconst (0), 1, []) := by decide +kernel
theorem r100_77 : am_at 100 77 = some (.ireturn, 1, []) := by decide +kernel
theorem r100_78 : am_at 100 78 = some (.aload_n 0, 1, [0]) := by decide +kernel
theorem r100_79 : am_at 100 79 = some (.aload_n 0, 1, [0]) := by decide +kernel
theorem r100_80 : am_at 100 80 = some (.getfield 191, 3, [8, 8, 0, 1223]) := by decide +kernel
theorem r100_83 : am_at 100 83 = some (.invokevirtual 173, 3, [74, 2, 1453, 0]) := by decide +kernel
theorem r100_86 : am_at 100 86 = some (.ifCond .lt (7), 3, [93]) := by decide +kernel
theorem r100_89 : am_at 100 89 = some (.iconst (1), 1, []) := by decide +kernel
theorem r100_90 : am_at 100 90 = some (.goto (4), 3, [94]) := by decide +kernel
theorem r100_93 : am_at 100 93 = some (.iconst (0), 1, []) := by decide +kernel
theorem r100_94 : am_at 100 94 = some (.ireturn, 1, []) := by decide +kernel
theorem r100_95 : am_at 100 95 = some (.aload_n 0, 1, [0]) := by decide +kernel
theorem r100_96 : am_at 100 96 = some (.aload_n 0, 1, [0]) := by decide +kernel
theorem r100_97 : am_at 100 97 = some (.getfield 191, 3, [8, 8, 0, 1223]) := by decide +kernel
theorem r100_100 : am_at 100 100 = some (.invokevirtual 170, 3, [73, 2, 1445, 0]) := by decide +kernel
theorem r100_103 : am_at 100 103 = some (.ifCond .lt (7), 3, [110]) := by decide +kernel
theorem r100_106 : am_at 100 106 = some (.iconst (1), 1, []) := by decide +kernel
theorem r100_107 : am_at 100 107 = some (.goto (4), 3, [111]) := by decide +kernel
theorem r100_110 : am_at 100 110 = some (.iconst (0), 1, []) := by decide +kernel
theorem r100_111 : am_at 100 111 = some (.ireturn, 1, []) := by decide +kernel
theorem r100_112 : am_at 100 112 = some (.aload_n 0, 1, [0]) := by decide +kernel
theorem r100_113 : am_at 100 113 = some (.getfield 194, 3, [8, 7, 0, 1222]) := by decide +kernel
theorem r100_116 : am_at 100 116 = some (.bipush (60), 2, []) := by decide +kernel
theorem r100_118 : am_at 100 118 = some (.if_icmp .ne (7), 3, [125]) := by decide +kernel
theorem r100_121 : am_at 100 121 = some (.iconst (0), 1, []) := by decide +kernel
theorem r100_122 : am_at 100 122 = some (.goto (4), 3, [126]) := by decide +kernel
theorem r100_125 : am_at 100 125 = some (.iconst (1), 1, []) := by decide +kernel
theorem r100_126 : am_at 100 126 = some (.istore_n 2, 1, [2]) := by decide +kernel
theorem r100_127 : am_at 100 127 = some (.aload_n 0, 1, [0]) := by decide +kernel
theorem r100_128 : am_at 100 128 = some (.iload_n 1, 1, [1]) := by decide +kernel
theorem r100_129 : am_at 100 129 = some (.aload_n 0, 1, [0]) := by decide +kernel
theorem r100_130 : am_at 100 130 = some (.getfield 191, 3, [8, 8, 0, 1223]) := by decide +kernel
theorem r100_133 : am_at 100 133 = some (.iload_n 2, 1, [2]) := by decide +kernel
theorem r100_134 : am_at 100 134 = some (.invokevirtual 157, 3, [67, 4, 1366, 0]) := by decide +kernel
theorem r100_137 : am_at 100 137 = some (.ifCond .ne (20), 3, [157]) := by decide +kernel
theorem r100_140 : am_at 100 140 = some (.aload_n 0, 1, [0]) := by decide +kernel
theorem r100_141 : am_at 100 141 = some (.iload_n 1, 1, [1]) := by decide +kernel
theorem r100_142 : am_at 100 142 = some (.aload_n 0, 1, [0]) := by decide +kernel
theorem r100_143 : am_at 100 143 = some (.getfield 191, 3, [8, 8, 0, 1223]) := by decide +kernel
theorem r100_146 : am_at 100 146 = some (.iload_n 2, 1, [2]) := by decide +kernel
theorem r100_147 : am_at 100 147 = some (.invokevirtual 161, 3, [71, 4, 1398, 0]) := by decide +kernel
theorem r100_150 : am_at 100 150 = some (.ifCond .lt (7), 3, [157]) := by decide +kernel
theorem r100_153 : am_at 100 153 = some (.iconst (1), 1, []) := by decide +kernel
theorem r100_154 : am_at 100 154 = some (.goto (4), 3, [158]) := by decide +kernel
theorem r100_157 : am_at 100 157 = some (.iconst (0), 1, []) := by decide +kernel
theorem r100_158 : am_at 100 158 = some (.ireturn, 1, []) := by decide +kernel
theorem rt100 : am_rtt 100 = some (some .boolean) := by decide +kernel
set_option maxRecDepth 100000 in
theorem pg100 : am_pg[100]? = some am_m100 := rfl
theorem m100_w {d mc ms : Nat} {N : Nat} {D : am_D} {Q : am_O → am_AH → Prop} (hd : 8 ≤ d) {r : Int32 × am_D} (h : m100 N D = some r) (hQ : Q (.inl (some (.int r.1))) (am_mk r.2)) : am_X xs L 100 d mc ms 0 [.ref 106, am_dead, am_dead] [] (am_mk D) 0 0 Q := by
  unfold m100 at h
  refine x_ld (v := .ref 106) r100_0 rfl rfl rfl ?_
  refine y_gf (cd := 109) (v := .ref 107) r100_1 rfl rfl rfl ?_
  refine x_ic (v := 1) r100_4 rfl rfl ?_
  refine y_ial (n := 1320) r100_5 rfl (by decide) (by decide) (e := 1) (by decide) rfl ?_
  obtain ⟨x1, e2, h⟩ := am_ltE h
  refine am_topI e2 ?_
  refine x_sto (lc' := [.ref 106, .int x1, am_dead]) r100_6 rfl rfl rfl rfl ?_
  refine x_ld (v := .ref 106) r100_7 rfl rfl rfl ?_
  refine y_gf (cd := 109) (v := .ref 107) r100_8 rfl rfl rfl ?_
  refine x_ic (v := 0) r100_11 rfl rfl ?_
  refine y_ial (n := 1320) r100_12 rfl (by decide) (by decide) (e := 0) (by decide) rfl ?_
  refine x_ic (v := 1) r100_13 rfl rfl ?_
  rcases am_ifE h with ⟨c3, h⟩ | ⟨c3, h⟩
  · refine x_iceqT r100_14 c3 ?_
    refine x_ld (v := .ref 106) r100_19 rfl rfl rfl ?_
    refine y_gf (cd := 0) (v := .int (D.1 106 7)) r100_20 rfl rfl rfl ?_
    rcases am_ifE h with ⟨c4, h⟩ | ⟨c4, h⟩
    · refine x_lsw (p' := 95) r100_23 (am_swT c4) ?_
      refine x_ld (v := .ref 106) r100_95 rfl rfl rfl ?_
      refine x_ld (v := .ref 106) r100_96 rfl rfl rfl ?_
      refine y_gf (cd := 0) (v := .int (D.1 106 8)) r100_97 rfl rfl rfl ?_
      obtain ⟨q5, h6, h⟩ := am_ltE h
      replace h6 := h6.symm
      refine x_call1 (as := [.ref 106, .int (D.1 106 8)]) (rest := []) r100_100 rfl rfl rfl (by decide) (Nat.le_of_ble_eq_true rfl) (m73_ok h6) (Nat.le_trans (by decide) hd) (Nat.zero_le _) (Nat.zero_le _) rfl ?_
      rcases am_ifE h with ⟨c7, h⟩ | ⟨c7, h⟩
      · refine x_ifltT r100_103 c7 ?_
        refine x_ic (v := 0) r100_110 rfl rfl ?_
        cases h
        exact x_ret (ret := some .boolean) (C := narrow .boolean (.int (0 : Int32)) = .int (0 : Int32)) (v := some (.int (0 : Int32))) r100_111 rt100 rfl rfl rfl rfl rfl rfl rfl rfl (by decide) hQ
      · refine x_ifltF r100_103 c7 rfl ?_
        refine x_ic (v := 1) r100_106 rfl rfl ?_
        refine x_goto r100_107 ?_
        cases h
        exact x_ret (ret := some .boolean) (C := narrow .boolean (.int (1 : Int32)) = .int (1 : Int32)) (v := some (.int (1 : Int32))) r100_111 rt100 rfl rfl rfl rfl rfl rfl rfl rfl (by decide) hQ
    · rcases am_ifE h with ⟨c8, h⟩ | ⟨c8, h⟩
      · refine x_lsw (p' := 56) r100_23 (am_swF c4 (am_swT c8)) ?_
        refine x_ld (v := .ref 106) r100_56 rfl rfl rfl ?_
        refine x_ld (v := .int x1) r100_57 rfl rfl rfl ?_
        obtain ⟨q9, h10, h⟩ := Option.bind_eq_some_iff.mp h
        refine x_call1 (as := [.ref 106, .int x1]) (rest := []) r100_58 rfl rfl rfl (by decide) (Nat.le_of_ble_eq_true rfl) (m69_ok h10) (Nat.le_trans (by decide) hd) (Nat.zero_le _) (Nat.zero_le _) rfl ?_
        rcases am_ifE h with ⟨c11, h⟩ | ⟨c11, h⟩
        · refine x_ifneT r100_61 c11 rfl ?_
          refine x_ld (v := .ref 106) r100_64 rfl rfl rfl ?_
          refine x_ld (v := .int x1) r100_65 rfl rfl rfl ?_
          obtain ⟨q12, h13, h⟩ := Option.bind_eq_some_iff.mp h
          refine x_call1 (as := [.ref 106, .int x1]) (rest := []) r100_66 rfl rfl rfl (by decide) (Nat.le_of_ble_eq_true rfl) (m72_ok h13) (Nat.le_trans (by decide) hd) (Nat.zero_le _) (Nat.zero_le _) rfl ?_
          rcases am_ifE h with ⟨c14, h⟩ | ⟨c14, h⟩
          · refine x_ifleT r100_69 c14 ?_
            refine x_ic (v := 0) r100_76 rfl rfl ?_
            cases h
            exact x_ret (ret := some .boolean) (C := narrow .boolean (.int (0 : Int32)) = .int (0 : Int32)) (v := some (.int (0 : Int32))) r100_77 rt100 rfl rfl rfl rfl rfl rfl rfl rfl (by decide) hQ
          · refine x_ifleF r100_69 c14 rfl ?_
            refine x_ic (v := 1) r100_72 rfl rfl ?_
            refine x_goto r100_73 ?_
            cases h
            exact x_ret (ret := some .boolean) (C := narrow .boolean (.int (1 : Int32)) = .int (1 : Int32)) (v := some (.int (1 : Int32))) r100_77 rt100 rfl rfl rfl rfl rfl rfl rfl rfl (by decide) hQ
        · refine x_ifneF r100_61 c11 ?_
          refine x_ic (v := 0) r100_76 rfl rfl ?_
          cases h
          exact x_ret (ret := some .boolean) (C := narrow .boolean (.int (0 : Int32)) = .int (0 : Int32)) (v := some (.int (0 : Int32))) r100_77 rt100 rfl rfl rfl rfl rfl rfl rfl rfl (by decide) hQ
      · rcases am_ifE h with ⟨c15, h⟩ | ⟨c15, h⟩
        · refine x_lsw (p' := 78) r100_23 (am_swF c4 (am_swF c8 (am_swT c15))) ?_
          refine x_ld (v := .ref 106) r100_78 rfl rfl rfl ?_
          refine x_ld (v := .ref 106) r100_79 rfl rfl rfl ?_
          refine y_gf (cd := 0) (v := .int (D.1 106 8)) r100_80 rfl rfl rfl ?_
          obtain ⟨q16, h17, h⟩ := Option.bind_eq_some_iff.mp h
          refine x_call1 (as := [.ref 106, .int (D.1 106 8)]) (rest := []) r100_83 rfl rfl rfl (by decide) (Nat.le_of_ble_eq_true rfl) (m74_ok h17) (Nat.le_trans (by decide) hd) (Nat.zero_le _) (Nat.zero_le _) rfl ?_
          rcases am_ifE h with ⟨c18, h⟩ | ⟨c18, h⟩
          · refine x_ifltT r100_86 c18 ?_
            refine x_ic (v := 0) r100_93 rfl rfl ?_
            cases h
            exact x_ret (ret := some .boolean) (C := narrow .boolean (.int (0 : Int32)) = .int (0 : Int32)) (v := some (.int (0 : Int32))) r100_94 rt100 rfl rfl rfl rfl rfl rfl rfl rfl (by decide) hQ
          · refine x_ifltF r100_86 c18 rfl ?_
            refine x_ic (v := 1) r100_89 rfl rfl ?_
            refine x_goto r100_90 ?_
            cases h
            exact x_ret (ret := some .boolean) (C := narrow .boolean (.int (1 : Int32)) = .int (1 : Int32)) (v := some (.int (1 : Int32))) r100_94 rt100 rfl rfl rfl rfl rfl rfl rfl rfl (by decide) hQ
        · refine x_lsw (p' := 112) r100_23 (am_swF c4 (am_swF c8 (am_swF c15 (rfl)))) ?_
          refine x_ld (v := .ref 106) r100_112 rfl rfl rfl ?_
          refine y_gf (cd := 0) (v := .int (D.1 106 7)) r100_113 rfl rfl rfl ?_
          refine x_bi (v := 60) r100_116 rfl rfl ?_
          obtain ⟨q19, h21, h⟩ := am_ltE h
          replace h21 := h21.symm
          have kj20 : am_X xs L 100 d mc ms 126 [.ref 106, .int x1, am_dead] [.int q19] (am_mk D) 0 0 Q := by
            refine x_sto (lc' := [.ref 106, .int x1, .int q19]) r100_126 rfl rfl rfl rfl ?_
            refine x_ld (v := .ref 106) r100_127 rfl rfl rfl ?_
            refine x_ld (v := .int x1) r100_128 rfl rfl rfl ?_
            refine x_ld (v := .ref 106) r100_129 rfl rfl rfl ?_
            refine y_gf (cd := 0) (v := .int (D.1 106 8)) r100_130 rfl rfl rfl ?_
            refine x_ld (v := .int q19) r100_133 rfl rfl rfl ?_
            obtain ⟨q23, h24, h⟩ := Option.bind_eq_some_iff.mp h
            refine x_call1 (as := [.ref 106, .int x1, .int (D.1 106 8), .int q19]) (rest := []) r100_134 rfl rfl rfl (by decide) (Nat.le_of_ble_eq_true rfl) (m67_ok h24) (Nat.le_trans (by decide) hd) (Nat.zero_le _) (Nat.zero_le _) rfl ?_
            rcases am_ifE h with ⟨c25, h⟩ | ⟨c25, h⟩
            · refine x_ifneT r100_137 c25 rfl ?_
              refine x_ld (v := .ref 106) r100_140 rfl rfl rfl ?_
              refine x_ld (v := .int x1) r100_141 rfl rfl rfl ?_
              refine x_ld (v := .ref 106) r100_142 rfl rfl rfl ?_
              refine y_gf (cd := 0) (v := .int (D.1 106 8)) r100_143 rfl rfl rfl ?_
              refine x_ld (v := .int q19) r100_146 rfl rfl rfl ?_
              obtain ⟨q26, h27, h⟩ := Option.bind_eq_some_iff.mp h
              refine x_call1 (as := [.ref 106, .int x1, .int (D.1 106 8), .int q19]) (rest := []) r100_147 rfl rfl rfl (by decide) (Nat.le_of_ble_eq_true rfl) (m71_ok h27) (Nat.le_trans (by decide) hd) (Nat.zero_le _) (Nat.zero_le _) rfl ?_
              rcases am_ifE h with ⟨c28, h⟩ | ⟨c28, h⟩
              · refine x_ifltT r100_150 c28 ?_
                refine x_ic (v := 0) r100_157 rfl rfl ?_
                cases h
                exact x_ret (ret := some .boolean) (C := narrow .boolean (.int (0 : Int32)) = .int (0 : Int32)) (v := some (.int (0 : Int32))) r100_158 rt100 rfl rfl rfl rfl rfl rfl rfl rfl (by decide) hQ
              · refine x_ifltF r100_150 c28 rfl ?_
                refine x_ic (v := 1) r100_153 rfl rfl ?_
                refine x_goto r100_154 ?_
                cases h
                exact x_ret (ret := some .boolean) (C := narrow .boolean (.int (1 : Int32)) = .int (1 : Int32)) (v := some (.int (1 : Int32))) r100_158 rt100 rfl rfl rfl rfl rfl rfl rfl rfl (by decide) hQ
            · refine x_ifneF r100_137 c25 ?_
              refine x_ic (v := 0) r100_157 rfl rfl ?_
              cases h
              exact x_ret (ret := some .boolean) (C := narrow .boolean (.int (0 : Int32)) = .int (0 : Int32)) (v := some (.int (0 : Int32))) r100_158 rt100 rfl rfl rfl rfl rfl rfl rfl rfl (by decide) hQ
          rcases am_ifE h21 with ⟨c22, h21⟩ | ⟨c22, h21⟩
          · refine x_icneT r100_118 c22 rfl ?_
            refine x_ic (v := 0) r100_121 rfl rfl ?_
            refine x_goto r100_122 ?_
            subst h21
            exact kj20
          · refine x_icneF r100_118 c22 ?_
            refine x_ic (v := 1) r100_125 rfl rfl ?_
            subst h21
            exact kj20
  · refine x_iceqF r100_14 c3 rfl ?_
    refine x_ic (v := 0) r100_17 rfl rfl ?_
    cases h
    exact x_ret (ret := some .boolean) (C := narrow .boolean (.int (0 : Int32)) = .int (0 : Int32)) (v := some (.int (0 : Int32))) r100_18 rt100 rfl rfl rfl rfl rfl rfl rfl rfl (by decide) hQ
theorem m100_ok {N : Nat} {D : am_D} {r : Int32 × am_D} (h : m100 N D = some r) : am_Y xs L 100 8 0 0 [.ref 106] D (.inl (some (.int r.1))) r.2 := am_Yof (mi := am_m100) (lc := [.ref 106, am_dead, am_dead]) pg100 (Nat.le_of_ble_eq_true rfl) (am_rc1 (ci := 8) rfl rfl rfl rfl rfl) rfl (fun Q hQ => m100_w (Nat.le_refl _) h hQ)
theorem r101_0 : am_at 101 0 = some (.aload_n 0, 1, [0]) := by decide +kernel
theorem r101_1 : am_at 101 1 = some (.aload_n 0, 1, [0]) := by decide +kernel
theorem r101_2 : am_at 101 2 = some (.invokevirtual 209, 3, [97, 1, 1473, 0]) := by decide +kernel
theorem r101_5 : am_at 101 5 = some (.ifCond .eq (7), 3, [12]) := by decide +kernel
theorem r101_8 : am_at 101 8 = some (.iconst (0), 1, []) := by decide +kernel
theorem r101_9 : am_at 101 9 = some (.goto (4), 3, [13]) := by decide +kernel
theorem r101_12 : am_at 101 12 = some (.iconst (1), 1, []) := by decide +kernel
theorem r101_13 : am_at 101 13 = some (.invokevirtual 142, 3, [47, 2, 1323, 0]) := by decide +kernel
theorem r101_16 : am_at 101 16 = some (.ifCond .ne (5), 3, [21]) := by decide +kernel
theorem r101_19 : am_at 101 19 = some (.iconst (0), 1, []) := by decide +kernel
theorem r101_20 : am_at 101 20 = some (.ireturn, 1, []) := by decide +kernel
theorem r101_21 : am_at 101 21 = some (.aload_n 0, 1, [0]) := by decide +kernel
theorem r101_22 : am_at 101 22 = some (.invokevirtual 145, 3, [76, 1, 1327, 0]) := by decide +kernel
theorem r101_25 : am_at 101 25 = some (.aload_n 0, 1, [0]) := by decide +kernel
theorem r101_26 : am_at 101 26 = some (.iconst (0), 1, []) := by decide +kernel
theorem r101_27 : am_at 101 27 = some (.putfield 179, 3, [8, 6, 0, 1221]) := by decide +kernel
theorem r101_30 : am_at 101 30 = some (.iconst (0), 1, []) := by decide +kernel
theorem r101_31 : am_at 101 31 = some (.istore_n 1, 1, [1]) := by decide +kernel
theorem r101_32 : am_at 101 32 = some (.aload_n 0, 1, [0]) := by decide +kernel
theorem r101_33 : am_at 101 33 = some (.invokevirtual 206, 3, [96, 1, 1477, 0]) := by decide +kernel
theorem r101_36 : am_at 101 36 = some (.ifCond .eq (23), 3, [59]) := by decide +kernel
theorem r101_39 : am_at 101 39 = some (.aload_n 0, 1, [0]) := by decide +kernel
theorem r101_40 : am_at 101 40 = some (.invokevirtual 215, 3, [100, 1, 1512, 0]) := by decide +kernel
theorem r101_43 : am_at 101 43 = some (.ifCond .eq (16), 3, [59]) := by decide +kernel
theorem r101_46 : am_at 101 46 = some (.iinc 1 (1), 3, [1]) := by decide +kernel
theorem r101_49 : am_at 101 49 = some (.aload_n 0, 1, [0]) := by decide +kernel
theorem r101_50 : am_at 101 50 = some (.bipush (59), 2, []) := by decide +kernel
theorem r101_52 : am_at 101 52 = some (.invokevirtual 197, 3, [92, 2, 1485, 0]) := by decide +kernel
theorem r101_55 : am_at 101 55 = some (.pop, 1, []) := by decide +kernel
theorem r101_56 : am_at 101 56 = some (.goto (-24), 3, [32]) := by decide +kernel
theorem r101_59 : am_at 101 59 = some (.aload_n 0, 1, [0]) := by decide +kernel
theorem r101_60 : am_at 101 60 = some (.iconst (0), 1, []) := by decide +kernel
theorem r101_61 : am_at 101 61 = some (.putfield 176, 3, [8, 5, 0, 1220]) := by decide +kernel
theorem r101_64 : am_at 101 64 = some (.iload_n 1, 1, [1]) := by decide +kernel
theorem r101_65 : am_at 101 65 = some (.ireturn, 1, []) := by decide +kernel
theorem rt101 : am_rtt 101 = some (some .int) := by decide +kernel
set_option maxRecDepth 100000 in
theorem pg101 : am_pg[101]? = some am_m101 := rfl
theorem m101_L32_w {d : Nat} {N : Nat} {mc ms : Nat} {Q : am_O → am_AH → Prop} (hd : 9 ≤ d) : ∀ (n : Nat) (D : am_D) (v1 : Int32) {q : Int32 × am_D} (h : m101_L32 N  n D v1 = some q) (k0 : am_X xs L 101 d mc ms 59 [.ref 106, .int q.1] [] (am_mk q.2) 0 0 Q), am_X xs L 101 d mc ms 32 [.ref 106, .int v1] [] (am_mk D) 0 0 Q := by
  intro n
  induction n with
  | zero =>
    intro D v1 q h k0
    exact (nomatch (show none = some q from h))
  | succ n ih =>
    intro D v1 q h k0
    rw [m101_L32] at h
    refine x_ld (v := .ref 106) r101_32 rfl rfl rfl ?_
    obtain ⟨q14, h15, h⟩ := Option.bind_eq_some_iff.mp h
    refine x_call1 (as := [.ref 106]) (rest := []) r101_33 rfl rfl rfl (by decide) (Nat.le_of_ble_eq_true rfl) (m96_ok h15) (Nat.le_trans (by decide) hd) (Nat.zero_le _) (Nat.zero_le _) rfl ?_
    rcases am_ifE h with ⟨c16, h⟩ | ⟨c16, h⟩
    · refine x_ifeqT r101_36 c16 ?_
      refine x_forget (lc0 := [.ref 106, .int v1]) ⟨Or.inl rfl, Or.inl rfl, trivial⟩ ?_
      cases h
      exact k0
    · refine x_ifeqF r101_36 c16 rfl ?_
      refine x_ld (v := .ref 106) r101_39 rfl rfl rfl ?_
      obtain ⟨q17, h18, h⟩ := Option.bind_eq_some_iff.mp h
      refine x_call1 (as := [.ref 106]) (rest := []) r101_40 rfl rfl rfl (by decide) (Nat.le_of_ble_eq_true rfl) (m100_ok h18) (Nat.le_trans (by decide) hd) (Nat.zero_le _) (Nat.zero_le _) rfl ?_
      rcases am_ifE h with ⟨c19, h⟩ | ⟨c19, h⟩
      · refine x_ifeqT r101_43 c19 ?_
        refine x_forget (lc0 := [.ref 106, .int v1]) ⟨Or.inl rfl, Or.inl rfl, trivial⟩ ?_
        cases h
        exact k0
      · refine x_ifeqF r101_43 c19 rfl ?_
        obtain ⟨x20, e21, h⟩ := am_ltE h
        refine x_sto (lc' := [.ref 106, .int x20]) r101_46 rfl rfl (by subst e21; rfl) rfl ?_
        refine x_ld (v := .ref 106) r101_49 rfl rfl rfl ?_
        refine x_bi (v := 59) r101_50 rfl rfl ?_
        obtain ⟨q22, h23, h⟩ := Option.bind_eq_some_iff.mp h
        refine x_call1 (as := [.ref 106, .int (59 : Int32)]) (rest := []) r101_52 rfl rfl rfl (by decide) (Nat.le_of_ble_eq_true rfl) (m92_ok h23) (Nat.le_trans (by decide) hd) (Nat.zero_le _) (Nat.zero_le _) rfl ?_
        refine x_ar r101_55 rfl trivial rfl ?_
        refine x_goto r101_56 ?_
        exact x_forget (lc0 := [.ref 106, .int x20]) ⟨Or.inl rfl, Or.inl rfl, trivial⟩ (ih q22.2 x20 h k0)
theorem m101_w {d mc ms : Nat} {N : Nat} {D : am_D} {Q : am_O → am_AH → Prop} (hd : 9 ≤ d) {r : Int32 × am_D} (h : m101 N D = some r) (hQ : Q (.inl (some (.int r.1))) (am_mk r.2)) : am_X xs L 101 d mc ms 0 [.ref 106, am_dead] [] (am_mk D) 0 0 Q := by
  unfold m101 at h
  refine x_ld (v := .ref 106) r101_0 rfl rfl rfl ?_
  refine x_ld (v := .ref 106) r101_1 rfl rfl rfl ?_
  obtain ⟨q1, h2, h⟩ := Option.bind_eq_some_iff.mp h
  refine x_call1 (as := [.ref 106]) (rest := [.ref 106]) r101_2 rfl rfl rfl (by decide) (Nat.le_of_ble_eq_true rfl) (m97_ok h2) (Nat.le_trans (by decide) hd) (Nat.zero_le _) (Nat.zero_le _) rfl ?_
  obtain ⟨q3, h5, h⟩ := am_ltE h
  replace h5 := h5.symm
  have kj4 : am_X xs L 101 d mc ms 13 [.ref 106, am_dead] [.int q3, .ref 106] (am_mk q1.2) 0 0 Q := by
    obtain ⟨q7, h8, h⟩ := am_ltE h
    replace h8 := h8.symm
    refine x_call1 (as := [.ref 106, .int q3]) (rest := []) r101_13 rfl rfl rfl (by decide) (Nat.le_of_ble_eq_true rfl) (m47_ok h8) (Nat.le_trans (by decide) hd) (Nat.zero_le _) (Nat.zero_le _) rfl ?_
    rcases am_ifE h with ⟨c9, h⟩ | ⟨c9, h⟩
    · refine x_ifneT r101_16 c9 rfl ?_
      refine x_ic (v := 0) r101_19 rfl rfl ?_
      cases h
      exact x_ret (ret := some .int) (C := True) (v := some (.int _)) r101_20 rt101 rfl rfl rfl rfl rfl rfl rfl rfl trivial hQ
    · refine x_ifneF r101_16 c9 ?_
      refine x_ld (v := .ref 106) r101_21 rfl rfl rfl ?_
      obtain ⟨q10, h11, h⟩ := Option.bind_eq_some_iff.mp h
      refine x_call0 (as := [.ref 106]) (rest := []) r101_22 rfl rfl rfl (by decide) (Nat.le_of_ble_eq_true rfl) (m76_ok h11) (Nat.le_trans (by decide) hd) (Nat.zero_le _) (Nat.zero_le _) rfl ?_
      refine x_ld (v := .ref 106) r101_25 rfl rfl rfl ?_
      refine x_ic (v := 0) r101_26 rfl rfl ?_
      obtain ⟨D12, e13, h⟩ := am_ltE h
      refine y_pf0 r101_27 rfl e13 rfl ?_
      refine x_ic (v := 0) r101_30 rfl rfl ?_
      refine x_sto (lc' := [.ref 106, .int (0 : Int32)]) r101_31 rfl rfl rfl rfl ?_
      obtain ⟨q24, h25, h⟩ := Option.bind_eq_some_iff.mp h
      refine x_forget (lc0 := [.ref 106, .int (0 : Int32)]) ⟨Or.inl rfl, Or.inl rfl, trivial⟩ (m101_L32_w hd N D12 (0 : Int32) h25 ?_)
      refine x_ld (v := .ref 106) r101_59 rfl rfl rfl ?_
      refine x_ic (v := 0) r101_60 rfl rfl ?_
      obtain ⟨D26, e27, h⟩ := am_ltE h
      refine y_pf0 r101_61 rfl e27 rfl ?_
      refine x_ld (v := .int q24.1) r101_64 rfl rfl rfl ?_
      cases h
      exact x_ret (ret := some .int) (C := True) (v := some (.int _)) r101_65 rt101 rfl rfl rfl rfl rfl rfl rfl rfl trivial hQ
  rcases am_ifE h5 with ⟨c6, h5⟩ | ⟨c6, h5⟩
  · refine x_ifeqT r101_5 c6 ?_
    refine x_ic (v := 1) r101_12 rfl rfl ?_
    subst h5
    exact kj4
  · refine x_ifeqF r101_5 c6 rfl ?_
    refine x_ic (v := 0) r101_8 rfl rfl ?_
    refine x_goto r101_9 ?_
    subst h5
    exact kj4
theorem m101_ok {N : Nat} {D : am_D} {r : Int32 × am_D} (h : m101 N D = some r) : am_Y xs L 101 9 0 0 [.ref 106] D (.inl (some (.int r.1))) r.2 := am_Yof (mi := am_m101) (lc := [.ref 106, am_dead]) pg101 (Nat.le_of_ble_eq_true rfl) (am_rc1 (ci := 8) rfl rfl rfl rfl rfl) rfl (fun Q hQ => m101_w (Nat.le_refl _) h hQ)
theorem r102_0 : am_at 102 0 = some (.aload_n 0, 1, [0]) := by decide +kernel
theorem r102_1 : am_at 102 1 = some (.aload_n 0, 1, [0]) := by decide +kernel
theorem r102_2 : am_at 102 2 = some (.invokevirtual 212, 3, [98, 1, 1504, 0]) := by decide +kernel
theorem r102_5 : am_at 102 5 = some (.ifCond .eq (7), 3, [12]) := by decide +kernel
theorem r102_8 : am_at 102 8 = some (.iconst (0), 1, []) := by decide +kernel
theorem r102_9 : am_at 102 9 = some (.goto (4), 3, [13]) := by decide +kernel
theorem r102_12 : am_at 102 12 = some (.iconst (1), 1, []) := by decide +kernel
theorem r102_13 : am_at 102 13 = some (.invokevirtual 142, 3, [47, 2, 1323, 0]) := by decide +kernel
theorem r102_16 : am_at 102 16 = some (.ifCond .ne (5), 3, [21]) := by decide +kernel
theorem r102_19 : am_at 102 19 = some (.iconst (0), 1, []) := by decide +kernel
theorem r102_20 : am_at 102 20 = some (.ireturn, 1, []) := by decide +kernel
theorem r102_21 : am_at 102 21 = some (.aload_n 0, 1, [0]) := by decide +kernel
theorem r102_22 : am_at 102 22 = some (.invokevirtual 145, 3, [76, 1, 1327, 0]) := by decide +kernel
theorem r102_25 : am_at 102 25 = some (.aload_n 0, 1, [0]) := by decide +kernel
theorem r102_26 : am_at 102 26 = some (.iconst (0), 1, []) := by decide +kernel
theorem r102_27 : am_at 102 27 = some (.putfield 179, 3, [8, 6, 0, 1221]) := by decide +kernel
theorem r102_30 : am_at 102 30 = some (.iconst (0), 1, []) := by decide +kernel
theorem r102_31 : am_at 102 31 = some (.istore_n 1, 1, [1]) := by decide +kernel
theorem r102_32 : am_at 102 32 = some (.iconst (0), 1, []) := by decide +kernel
theorem r102_33 : am_at 102 33 = some (.istore_n 2, 1, [2]) := by decide +kernel
theorem r102_34 : am_at 102 34 = some (.iconst (1), 1, []) := by decide +kernel
theorem r102_35 : am_at 102 35 = some (.istore_n 3, 1, [3]) := by decide +kernel
theorem r102_36 : am_at 102 36 = some (.iconst (1), 1, []) := by decide +kernel
theorem r102_37 : am_at 102 37 = some (.istore 4, 2, [4]) := by decide +kernel
theorem r102_39 : am_at 102 39 = some (.iload 4, 2, [4]) := by decide +kernel
theorem r102_41 : am_at 102 41 = some (.ifCond .eq (117), 3, [158]) := by decide +kernel
theorem r102_44 : am_at 102 44 = some (.iload_n 3, 1, [3]) := by decide +kernel
theorem r102_45 : am_at 102 45 = some (.ifCond .eq (12), 3, [57]) := by decide +kernel
theorem r102_48 : am_at 102 48 = some (.aload_n 0, 1, [0]) := by decide +kernel
theorem r102_49 : am_at 102 49 = some (.iconst (0), 1, []) := by decide +kernel
theorem r102_50 : am_at 102 50 = some (.iconst (3), 1, []) := by decide +kernel
theorem r102_51 : am_at 102 51 = some (.invokevirtual 185, 3, [93, 3, 1493, 0]) := by decide +kernel
theorem r102_54 : am_at 102 54 = some (.goto (4), 3, [58]) := by decide +kernel
theorem r102_57 : am_at 102 57 = some (.iload_n 2, 1, [2]) := by decide +kernel
theorem r102_58 : am_at 102 58 = some (.istore_n 2, 1, [2]) := by decide +kernel
theorem r102_59 : am_at 102 59 = some (.aload_n 0, 1, [0]) := by decide +kernel
theorem r102_60 : am_at 102 60 = some (.bipush (58), 2, []) := by decide +kernel
theorem r102_62 : am_at 102 62 = some (.invokevirtual 197, 3, [92, 2, 1485, 0]) := by decide +kernel
theorem r102_65 : am_at 102 65 = some (.pop, 1, []) := by decide +kernel
theorem r102_66 : am_at 102 66 = some (.aload_n 0, 1, [0]) := by decide +kernel
theorem r102_67 : am_at 102 67 = some (.invokevirtual 203, 3, [94, 1, 1497, 0]) := by decide +kernel
theorem r102_70 : am_at 102 70 = some (.istore 5, 2, [5]) := by decide +kernel
theorem r102_72 : am_at 102 72 = some (.aload_n 0, 1, [0]) := by decide +kernel
theorem r102_73 : am_at 102 73 = some (.iload_n 2, 1, [2]) := by decide +kernel
theorem r102_74 : am_at 102 74 = some (.iload 5, 2, [5]) := by decide +kernel
theorem r102_76 : am_at 102 76 = some (.invokevirtual 139, 3, [77, 3, 1311, 0]) := by decide +kernel
theorem r102_79 : am_at 102 79 = some (.istore 4, 2, [4]) := by decide +kernel
theorem r102_81 : am_at 102 81 = some (.aload_n 0, 1, [0]) := by decide +kernel
theorem r102_82 : am_at 102 82 = some (.getfield 7, 3, [8, 1, 3, 1216]) := by decide +kernel
theorem r102_85 : am_at 102 85 = some (.bipush (25), 2, []) := by decide +kernel
theorem r102_87 : am_at 102 87 = some (.iload 5, 2, [5]) := by decide +kernel
theorem r102_89 : am_at 102 89 = some (.iadd, 1, []) := by decide +kernel
theorem r102_90 : am_at 102 90 = some (.iload 4, 2, [4]) := by decide +kernel
theorem r102_92 : am_at 102 92 = some (.ifCond .eq (7), 3, [99]) := by decide +kernel
theorem r102_95 : am_at 102 95 = some (.iload_n 2, 1, [2]) := by decide +kernel
theorem r102_96 : am_at 102 96 = some (.goto (13), 3, [109]) := by decide +kernel
theorem r102_99 : am_at 102 99 = some (.aload_n 0, 1, [0]) := by decide +kernel
theorem r102_100 : am_at 102 100 = some (.getfield 7, 3, [8, 1, 3, 1216]) := by decide +kernel
theorem r102_103 : am_at 102 103 = some (.bipush (25), 2, []) := by decide +kernel
theorem r102_105 : am_at 102 105 = some (.iload 5, 2, [5]) := by decide +kernel
theorem r102_107 : am_at 102 107 = some (.iadd, 1, []) := by decide +kernel
theorem r102_108 : am_at 102 108 = some (.iaload, 1, []) := by decide +kernel
theorem r102_109 : am_at 102 109 = some (.iastore, 1, []) := by decide +kernel
theorem r102_110 : am_at 102 110 = some (.iload_n 1, 1, [1]) := by decide +kernel
theorem r102_111 : am_at 102 111 = some (.iload 4, 2, [4]) := by decide +kernel
theorem r102_113 : am_at 102 113 = some (.ifCond .eq (7), 3, [120]) := by decide +kernel
theorem r102_116 : am_at 102 116 = some (.iconst (1), 1, []) := by decide +kernel
theorem r102_117 : am_at 102 117 = some (.goto (4), 3, [121]) := by decide +kernel
theorem r102_120 : am_at 102 120 = some (.iconst (0), 1, []) := by decide +kernel
theorem r102_121 : am_at 102 121 = some (.iadd, 1, []) := by decide +kernel
theorem r102_122 : am_at 102 122 = some (.istore_n 1, 1, [1]) := by decide +kernel
theorem r102_123 : am_at 102 123 = some (.aload_n 0, 1, [0]) := by decide +kernel
theorem r102_124 : am_at 102 124 = some (.bipush (59), 2, []) := by decide +kernel
theorem r102_126 : am_at 102 126 = some (.invokevirtual 197, 3, [92, 2, 1485, 0]) := by decide +kernel
theorem r102_129 : am_at 102 129 = some (.istore_n 3, 1, [3]) := by decide +kernel
theorem r102_130 : am_at 102 130 = some (.iload 4, 2, [4]) := by decide +kernel
theorem r102_132 : am_at 102 132 = some (.ifCond .eq (20), 3, [152]) := by decide +kernel
theorem r102_135 : am_at 102 135 = some (.iload_n 3, 1, [3]) := by decide +kernel
theorem r102_136 : am_at 102 136 = some (.ifCond .ne (12), 3, [148]) := by decide +kernel
theorem r102_139 : am_at 102 139 = some (.aload_n 0, 1, [0]) := by decide +kernel
theorem r102_140 : am_at 102 140 = some (.bipush (44), 2, []) := by decide +kernel
theorem r102_142 : am_at 102 142 = some (.invokevirtual 197, 3, [92, 2, 1485, 0]) := by decide +kernel
theorem r102_145 : am_at 102 145 = some (.ifCond .eq (7), 3, [152]) := by decide +kernel
theorem r102_148 : am_at 102 148 = some (.iconst (1), 1, []) := by decide +kernel
theorem r102_149 : am_at 102 149 = some (.goto (4), 3, [153]) := by decide +kernel
theorem r102_152 : am_at 102 152 = some (.iconst (0), 1, []) := by decide +kernel
theorem r102_153 : am_at 102 153 = some (.istore 4, 2, [4]) := by decide +kernel
theorem r102_155 : am_at 102 155 = some (.goto (-116), 3, [39]) := by decide +kernel
theorem r102_158 : am_at 102 158 = some (.aload_n 0, 1, [0]) := by decide +kernel
theorem r102_159 : am_at 102 159 = some (.iconst (0), 1, []) := by decide +kernel
theorem r102_160 : am_at 102 160 = some (.putfield 176, 3, [8, 5, 0, 1220]) := by decide +kernel
theorem r102_163 : am_at 102 163 = some (.iload_n 1, 1, [1]) := by decide +kernel
theorem r102_164 : am_at 102 164 = some (.ireturn, 1, []) := by decide +kernel
theorem rt102 : am_rtt 102 = some (some .int) := by decide +kernel
set_option maxRecDepth 100000 in
theorem pg102 : am_pg[102]? = some am_m102 := rfl
theorem m102_L39_w {d : Nat} {N : Nat} {mc ms : Nat} {Q : am_O → am_AH → Prop} (hd : 5 ≤ d) : ∀ (n : Nat) (D : am_D) (v1 : Int32) (v2 : Int32) (v3 : Int32) (v4 : Int32) {q : Int32 × am_D} (h : m102_L39 N  n D v1 v2 v3 v4 = some q) (k0 : am_X xs L 102 d mc ms 158 [.ref 106, .int q.1, am_dead, am_dead, am_dead, am_dead] [] (am_mk q.2) 0 0 Q), am_X xs L 102 d mc ms 39 [.ref 106, .int v1, .int v2, .int v3, .int v4, am_dead] [] (am_mk D) 0 0 Q := by
  intro n
  induction n with
  | zero =>
    intro D v1 v2 v3 v4 q h k0
    exact (nomatch (show none = some q from h))
  | succ n ih =>
    intro D v1 v2 v3 v4 q h k0
    rw [m102_L39] at h
    refine x_ld (v := .int v4) r102_39 rfl rfl rfl ?_
    rcases am_ifE h with ⟨c14, h⟩ | ⟨c14, h⟩
    · refine x_ifeqT r102_41 c14 ?_
      refine x_forget (lc0 := [.ref 106, .int v1, am_dead, am_dead, am_dead, am_dead]) ⟨Or.inl rfl, Or.inl rfl, Or.inr ⟨rfl, rfl⟩, Or.inr ⟨rfl, rfl⟩, Or.inr ⟨rfl, rfl⟩, Or.inl rfl, trivial⟩ ?_
      cases h
      exact k0
    · refine x_ifeqF r102_41 c14 rfl ?_
      refine x_ld (v := .int v3) r102_44 rfl rfl rfl ?_
      obtain ⟨q15, h17, h⟩ := Option.bind_eq_some_iff.mp h
      have kj16 : am_X xs L 102 d mc ms 58 [.ref 106, .int v1, .int v2, .int v3, .int v4, am_dead] [.int q15.1] (am_mk q15.2) 0 0 Q := by
        refine x_sto (lc' := [.ref 106, .int v1, .int q15.1, .int v3, .int v4, am_dead]) r102_58 rfl rfl rfl rfl ?_
        refine x_ld (v := .ref 106) r102_59 rfl rfl rfl ?_
        refine x_bi (v := 58) r102_60 rfl rfl ?_
        obtain ⟨q21, h22, h⟩ := Option.bind_eq_some_iff.mp h
        refine x_call1 (as := [.ref 106, .int (58 : Int32)]) (rest := []) r102_62 rfl rfl rfl (by decide) (Nat.le_of_ble_eq_true rfl) (m92_ok h22) (Nat.le_trans (by decide) hd) (Nat.zero_le _) (Nat.zero_le _) rfl ?_
        refine x_ar r102_65 rfl trivial rfl ?_
        refine x_ld (v := .ref 106) r102_66 rfl rfl rfl ?_
        obtain ⟨q23, h24, h⟩ := Option.bind_eq_some_iff.mp h
        refine x_call1 (as := [.ref 106]) (rest := []) r102_67 rfl rfl rfl (by decide) (Nat.le_of_ble_eq_true rfl) (m94_ok h24) (Nat.le_trans (by decide) hd) (Nat.zero_le _) (Nat.zero_le _) rfl ?_
        refine x_sto (lc' := [.ref 106, .int v1, .int q15.1, .int v3, .int v4, .int q23.1]) r102_70 rfl rfl rfl rfl ?_
        refine x_ld (v := .ref 106) r102_72 rfl rfl rfl ?_
        refine x_ld (v := .int q15.1) r102_73 rfl rfl rfl ?_
        refine x_ld (v := .int q23.1) r102_74 rfl rfl rfl ?_
        obtain ⟨q25, h26, h⟩ := Option.bind_eq_some_iff.mp h
        refine x_call1 (as := [.ref 106, .int q15.1, .int q23.1]) (rest := []) r102_76 rfl rfl rfl (by decide) (Nat.le_of_ble_eq_true rfl) (m77_ok h26) (Nat.le_trans (by decide) hd) (Nat.zero_le _) (Nat.zero_le _) rfl ?_
        refine x_sto (lc' := [.ref 106, .int v1, .int q15.1, .int v3, .int q25, .int q23.1]) r102_79 rfl rfl rfl rfl ?_
        refine x_ld (v := .ref 106) r102_81 rfl rfl rfl ?_
        refine y_gf (cd := 109) (v := .ref 107) r102_82 rfl rfl rfl ?_
        refine x_bi (v := 25) r102_85 rfl rfl ?_
        refine x_ld (v := .int q23.1) r102_87 rfl rfl rfl ?_
        refine x_ar r102_89 rfl trivial rfl ?_
        refine x_ld (v := .int q25) r102_90 rfl rfl rfl ?_
        obtain ⟨q27, h29, h⟩ := Option.bind_eq_some_iff.mp h
        have kj28 : am_X xs L 102 d mc ms 109 [.ref 106, .int v1, .int q15.1, .int v3, .int q25, .int q23.1] [.int q27, .int ((25 : Int32) + q23.1), .ref 107] (am_mk q23.2) 0 0 Q := by
          obtain ⟨g34, h⟩ := am_gdE h
          obtain ⟨D32, e33, h⟩ := am_ltE h
          refine y_ias (n := 1320) r102_109 rfl (by decide) g34 rfl e33 rfl ?_
          refine x_ld (v := .int v1) r102_110 rfl rfl rfl ?_
          refine x_ld (v := .int q25) r102_111 rfl rfl rfl ?_
          obtain ⟨q35, h37, h⟩ := am_ltE h
          replace h37 := h37.symm
          have kj36 : am_X xs L 102 d mc ms 121 [.ref 106, .int v1, .int q15.1, .int v3, .int q25, .int q23.1] [.int q35, .int v1] (am_mk D32) 0 0 Q := by
            refine x_ar r102_121 rfl trivial rfl ?_
            obtain ⟨x39, e40, h⟩ := am_ltE h
            refine am_topI e40 ?_
            refine x_sto (lc' := [.ref 106, .int x39, .int q15.1, .int v3, .int q25, .int q23.1]) r102_122 rfl rfl rfl rfl ?_
            refine x_ld (v := .ref 106) r102_123 rfl rfl rfl ?_
            refine x_bi (v := 59) r102_124 rfl rfl ?_
            obtain ⟨q41, h42, h⟩ := Option.bind_eq_some_iff.mp h
            refine x_call1 (as := [.ref 106, .int (59 : Int32)]) (rest := []) r102_126 rfl rfl rfl (by decide) (Nat.le_of_ble_eq_true rfl) (m92_ok h42) (Nat.le_trans (by decide) hd) (Nat.zero_le _) (Nat.zero_le _) rfl ?_
            refine x_sto (lc' := [.ref 106, .int x39, .int q15.1, .int q41.1, .int q25, .int q23.1]) r102_129 rfl rfl rfl rfl ?_
            refine x_ld (v := .int q25) r102_130 rfl rfl rfl ?_
            obtain ⟨q43, h45, h⟩ := Option.bind_eq_some_iff.mp h
            have kj44 : am_X xs L 102 d mc ms 153 [.ref 106, .int x39, .int q15.1, .int q41.1, .int q25, .int q23.1] [.int q43.1] (am_mk q43.2) 0 0 Q := by
              refine x_sto (lc' := [.ref 106, .int x39, .int q15.1, .int q41.1, .int q43.1, .int q23.1]) r102_153 rfl rfl rfl rfl ?_
              refine x_goto r102_155 ?_
              exact x_forget (lc0 := [.ref 106, .int x39, .int q15.1, .int q41.1, .int q43.1, am_dead]) ⟨Or.inl rfl, Or.inl rfl, Or.inl rfl, Or.inl rfl, Or.inl rfl, Or.inr ⟨rfl, rfl⟩, trivial⟩ (ih q43.2 x39 q15.1 q41.1 q43.1 h k0)
            rcases am_ifE h45 with ⟨c46, h45⟩ | ⟨c46, h45⟩
            · refine x_ifeqT r102_132 c46 ?_
              refine x_ic (v := 0) r102_152 rfl rfl ?_
              cases h45
              exact kj44
            · refine x_ifeqF r102_132 c46 rfl ?_
              refine x_ld (v := .int q41.1) r102_135 rfl rfl rfl ?_
              rcases am_ifE h45 with ⟨c47, h45⟩ | ⟨c47, h45⟩
              · refine x_ifneT r102_136 c47 rfl ?_
                refine x_ld (v := .ref 106) r102_139 rfl rfl rfl ?_
                refine x_bi (v := 44) r102_140 rfl rfl ?_
                obtain ⟨q48, h49, h45⟩ := Option.bind_eq_some_iff.mp h45
                refine x_call1 (as := [.ref 106, .int (44 : Int32)]) (rest := []) r102_142 rfl rfl rfl (by decide) (Nat.le_of_ble_eq_true rfl) (m92_ok h49) (Nat.le_trans (by decide) hd) (Nat.zero_le _) (Nat.zero_le _) rfl ?_
                rcases am_ifE h45 with ⟨c50, h45⟩ | ⟨c50, h45⟩
                · refine x_ifeqT r102_145 c50 ?_
                  refine x_ic (v := 0) r102_152 rfl rfl ?_
                  cases h45
                  exact kj44
                · refine x_ifeqF r102_145 c50 rfl ?_
                  refine x_ic (v := 1) r102_148 rfl rfl ?_
                  refine x_goto r102_149 ?_
                  cases h45
                  exact kj44
              · refine x_ifneF r102_136 c47 ?_
                refine x_ic (v := 1) r102_148 rfl rfl ?_
                refine x_goto r102_149 ?_
                cases h45
                exact kj44
          rcases am_ifE h37 with ⟨c38, h37⟩ | ⟨c38, h37⟩
          · refine x_ifeqT r102_113 c38 ?_
            refine x_ic (v := 0) r102_120 rfl rfl ?_
            subst h37
            exact kj36
          · refine x_ifeqF r102_113 c38 rfl ?_
            refine x_ic (v := 1) r102_116 rfl rfl ?_
            refine x_goto r102_117 ?_
            subst h37
            exact kj36
        rcases am_ifE h29 with ⟨c30, h29⟩ | ⟨c30, h29⟩
        · refine x_ifeqT r102_92 c30 ?_
          refine x_ld (v := .ref 106) r102_99 rfl rfl rfl ?_
          refine y_gf (cd := 109) (v := .ref 107) r102_100 rfl rfl rfl ?_
          refine x_bi (v := 25) r102_103 rfl rfl ?_
          refine x_ld (v := .int q23.1) r102_105 rfl rfl rfl ?_
          refine x_ar r102_107 rfl trivial rfl ?_
          obtain ⟨g31, h29⟩ := am_gdE h29
          refine y_ial (n := 1320) r102_108 rfl (by decide) g31 rfl rfl ?_
          cases h29
          exact kj28
        · refine x_ifeqF r102_92 c30 rfl ?_
          refine x_ld (v := .int q15.1) r102_95 rfl rfl rfl ?_
          refine x_goto r102_96 ?_
          cases h29
          exact kj28
      rcases am_ifE h17 with ⟨c18, h17⟩ | ⟨c18, h17⟩
      · refine x_ifeqT r102_45 c18 ?_
        refine x_ld (v := .int v2) r102_57 rfl rfl rfl ?_
        cases h17
        exact kj16
      · refine x_ifeqF r102_45 c18 rfl ?_
        refine x_ld (v := .ref 106) r102_48 rfl rfl rfl ?_
        refine x_ic (v := 0) r102_49 rfl rfl ?_
        refine x_ic (v := 3) r102_50 rfl rfl ?_
        obtain ⟨q19, h20, h17⟩ := Option.bind_eq_some_iff.mp h17
        refine x_call1 (as := [.ref 106, .int (0 : Int32), .int (3 : Int32)]) (rest := []) r102_51 rfl rfl rfl (by decide) (Nat.le_of_ble_eq_true rfl) (m93_ok h20) (Nat.le_trans (by decide) hd) (Nat.zero_le _) (Nat.zero_le _) rfl ?_
        refine x_goto r102_54 ?_
        cases h17
        exact kj16
theorem m102_w {d mc ms : Nat} {N : Nat} {D : am_D} {Q : am_O → am_AH → Prop} (hd : 5 ≤ d) {r : Int32 × am_D} (h : m102 N D = some r) (hQ : Q (.inl (some (.int r.1))) (am_mk r.2)) : am_X xs L 102 d mc ms 0 [.ref 106, am_dead, am_dead, am_dead, am_dead, am_dead] [] (am_mk D) 0 0 Q := by
  unfold m102 at h
  refine x_ld (v := .ref 106) r102_0 rfl rfl rfl ?_
  refine x_ld (v := .ref 106) r102_1 rfl rfl rfl ?_
  obtain ⟨q1, h2, h⟩ := Option.bind_eq_some_iff.mp h
  refine x_call1 (as := [.ref 106]) (rest := [.ref 106]) r102_2 rfl rfl rfl (by decide) (Nat.le_of_ble_eq_true rfl) (m98_ok h2) (Nat.le_trans (by decide) hd) (Nat.zero_le _) (Nat.zero_le _) rfl ?_
  obtain ⟨q3, h5, h⟩ := am_ltE h
  replace h5 := h5.symm
  have kj4 : am_X xs L 102 d mc ms 13 [.ref 106, am_dead, am_dead, am_dead, am_dead, am_dead] [.int q3, .ref 106] (am_mk q1.2) 0 0 Q := by
    obtain ⟨q7, h8, h⟩ := am_ltE h
    replace h8 := h8.symm
    refine x_call1 (as := [.ref 106, .int q3]) (rest := []) r102_13 rfl rfl rfl (by decide) (Nat.le_of_ble_eq_true rfl) (m47_ok h8) (Nat.le_trans (by decide) hd) (Nat.zero_le _) (Nat.zero_le _) rfl ?_
    rcases am_ifE h with ⟨c9, h⟩ | ⟨c9, h⟩
    · refine x_ifneT r102_16 c9 rfl ?_
      refine x_ic (v := 0) r102_19 rfl rfl ?_
      cases h
      exact x_ret (ret := some .int) (C := True) (v := some (.int _)) r102_20 rt102 rfl rfl rfl rfl rfl rfl rfl rfl trivial hQ
    · refine x_ifneF r102_16 c9 ?_
      refine x_ld (v := .ref 106) r102_21 rfl rfl rfl ?_
      obtain ⟨q10, h11, h⟩ := Option.bind_eq_some_iff.mp h
      refine x_call0 (as := [.ref 106]) (rest := []) r102_22 rfl rfl rfl (by decide) (Nat.le_of_ble_eq_true rfl) (m76_ok h11) (Nat.le_trans (by decide) hd) (Nat.zero_le _) (Nat.zero_le _) rfl ?_
      refine x_ld (v := .ref 106) r102_25 rfl rfl rfl ?_
      refine x_ic (v := 0) r102_26 rfl rfl ?_
      obtain ⟨D12, e13, h⟩ := am_ltE h
      refine y_pf0 r102_27 rfl e13 rfl ?_
      refine x_ic (v := 0) r102_30 rfl rfl ?_
      refine x_sto (lc' := [.ref 106, .int (0 : Int32), am_dead, am_dead, am_dead, am_dead]) r102_31 rfl rfl rfl rfl ?_
      refine x_ic (v := 0) r102_32 rfl rfl ?_
      refine x_sto (lc' := [.ref 106, .int (0 : Int32), .int (0 : Int32), am_dead, am_dead, am_dead]) r102_33 rfl rfl rfl rfl ?_
      refine x_ic (v := 1) r102_34 rfl rfl ?_
      refine x_sto (lc' := [.ref 106, .int (0 : Int32), .int (0 : Int32), .int (1 : Int32), am_dead, am_dead]) r102_35 rfl rfl rfl rfl ?_
      refine x_ic (v := 1) r102_36 rfl rfl ?_
      refine x_sto (lc' := [.ref 106, .int (0 : Int32), .int (0 : Int32), .int (1 : Int32), .int (1 : Int32), am_dead]) r102_37 rfl rfl rfl rfl ?_
      obtain ⟨q51, h52, h⟩ := Option.bind_eq_some_iff.mp h
      refine x_forget (lc0 := [.ref 106, .int (0 : Int32), .int (0 : Int32), .int (1 : Int32), .int (1 : Int32), am_dead]) ⟨Or.inl rfl, Or.inl rfl, Or.inl rfl, Or.inl rfl, Or.inl rfl, Or.inl rfl, trivial⟩ (m102_L39_w hd N D12 (0 : Int32) (0 : Int32) (1 : Int32) (1 : Int32) h52 ?_)
      refine x_ld (v := .ref 106) r102_158 rfl rfl rfl ?_
      refine x_ic (v := 0) r102_159 rfl rfl ?_
      obtain ⟨D53, e54, h⟩ := am_ltE h
      refine y_pf0 r102_160 rfl e54 rfl ?_
      refine x_ld (v := .int q51.1) r102_163 rfl rfl rfl ?_
      cases h
      exact x_ret (ret := some .int) (C := True) (v := some (.int _)) r102_164 rt102 rfl rfl rfl rfl rfl rfl rfl rfl trivial hQ
  rcases am_ifE h5 with ⟨c6, h5⟩ | ⟨c6, h5⟩
  · refine x_ifeqT r102_5 c6 ?_
    refine x_ic (v := 1) r102_12 rfl rfl ?_
    subst h5
    exact kj4
  · refine x_ifeqF r102_5 c6 rfl ?_
    refine x_ic (v := 0) r102_8 rfl rfl ?_
    refine x_goto r102_9 ?_
    subst h5
    exact kj4
theorem m102_ok {N : Nat} {D : am_D} {r : Int32 × am_D} (h : m102 N D = some r) : am_Y xs L 102 5 0 0 [.ref 106] D (.inl (some (.int r.1))) r.2 := am_Yof (mi := am_m102) (lc := [.ref 106, am_dead, am_dead, am_dead, am_dead, am_dead]) pg102 (Nat.le_of_ble_eq_true rfl) (am_rc1 (ci := 8) rfl rfl rfl rfl rfl) rfl (fun Q hQ => m102_w (Nat.le_refl _) h hQ)
theorem r103_0 : am_at 103 0 = some (.aload_n 0, 1, [0]) := by decide +kernel
theorem r103_1 : am_at 103 1 = some (.iconst (0), 1, []) := by decide +kernel
theorem r103_2 : am_at 103 2 = some (.putfield 61, 3, [8, 0, 0, 1215]) := by decide +kernel
theorem r103_5 : am_at 103 5 = some (.aload_n 0, 1, [0]) := by decide +kernel
theorem r103_6 : am_at 103 6 = some (.iconst (0), 1, []) := by decide +kernel
theorem r103_7 : am_at 103 7 = some (.bipush (7), 2, []) := by decide +kernel
theorem r103_9 : am_at 103 9 = some (.invokevirtual 130, 3, [75, 3, 1331, 0]) := by decide +kernel
theorem r103_12 : am_at 103 12 = some (.aload_n 0, 1, [0]) := by decide +kernel
theorem r103_13 : am_at 103 13 = some (.iconst (1), 1, []) := by decide +kernel
theorem r103_14 : am_at 103 14 = some (.putfield 218, 3, [8, 3, 2, 1218]) := by decide +kernel
theorem r103_17 : am_at 103 17 = some (.aload_n 0, 1, [0]) := by decide +kernel
theorem r103_18 : am_at 103 18 = some (.getfield 7, 3, [8, 1, 3, 1216]) := by decide +kernel
theorem r103_21 : am_at 103 21 = some (.bipush (12), 2, []) := by decide +kernel
theorem r103_23 : am_at 103 23 = some (.iaload, 1, []) := by decide +kernel
theorem r103_24 : am_at 103 24 = some (.ireturn, 1, []) := by decide +kernel
theorem rt103 : am_rtt 103 = some (some .int) := by decide +kernel
set_option maxRecDepth 100000 in
theorem pg103 : am_pg[103]? = some am_m103 := rfl
theorem m103_w {d mc ms : Nat} {N : Nat} {D : am_D} {Q : am_O → am_AH → Prop} (hd : 2 ≤ d) {r : Int32 × am_D} (h : m103 N D = some r) (hQ : Q (.inl (some (.int r.1))) (am_mk r.2)) : am_X xs L 103 d mc ms 0 [.ref 106] [] (am_mk D) 0 0 Q := by
  unfold m103 at h
  refine x_ld (v := .ref 106) r103_0 rfl rfl rfl ?_
  refine x_ic (v := 0) r103_1 rfl rfl ?_
  obtain ⟨D1, e2, h⟩ := am_ltE h
  refine y_pf0 r103_2 rfl e2 rfl ?_
  refine x_ld (v := .ref 106) r103_5 rfl rfl rfl ?_
  refine x_ic (v := 0) r103_6 rfl rfl ?_
  refine x_bi (v := 7) r103_7 rfl rfl ?_
  obtain ⟨q3, h4, h⟩ := Option.bind_eq_some_iff.mp h
  refine x_call0 (as := [.ref 106, .int (0 : Int32), .int (7 : Int32)]) (rest := []) r103_9 rfl rfl rfl (by decide) (Nat.le_of_ble_eq_true rfl) (m75_ok h4) (Nat.le_trans (by decide) hd) (Nat.zero_le _) (Nat.zero_le _) rfl ?_
  refine x_ld (v := .ref 106) r103_12 rfl rfl rfl ?_
  refine x_ic (v := 1) r103_13 rfl rfl ?_
  obtain ⟨D5, e6, h⟩ := am_ltE h
  refine y_pf2 r103_14 rfl (by decide) e6 rfl ?_
  refine x_ld (v := .ref 106) r103_17 rfl rfl rfl ?_
  refine y_gf (cd := 109) (v := .ref 107) r103_18 rfl rfl rfl ?_
  refine x_bi (v := 12) r103_21 rfl rfl ?_
  refine y_ial (n := 1320) r103_23 rfl (by decide) (by decide) (e := 12) (by decide) rfl ?_
  cases h
  exact x_ret (ret := some .int) (C := True) (v := some (.int _)) r103_24 rt103 rfl rfl rfl rfl rfl rfl rfl rfl trivial hQ
theorem m103_ok {N : Nat} {D : am_D} {r : Int32 × am_D} (h : m103 N D = some r) : am_Y xs L 103 2 0 0 [.ref 106] D (.inl (some (.int r.1))) r.2 := am_Yof (mi := am_m103) (lc := [.ref 106]) pg103 (Nat.le_of_ble_eq_true rfl) (am_rc1 (ci := 8) rfl rfl rfl rfl rfl) rfl (fun Q hQ => m103_w (Nat.le_refl _) h hQ)
theorem r104_0 : am_at 104 0 = some (.aload_n 0, 1, [0]) := by decide +kernel
theorem r104_1 : am_at 104 1 = some (.aload_n 0, 1, [0]) := by decide +kernel
theorem r104_2 : am_at 104 2 = some (.getfield 218, 3, [8, 3, 2, 1218]) := by decide +kernel
theorem r104_5 : am_at 104 5 = some (.ifCond .eq (7), 3, [12]) := by decide +kernel
theorem r104_8 : am_at 104 8 = some (.iconst (0), 1, []) := by decide +kernel
theorem r104_9 : am_at 104 9 = some (.goto (4), 3, [13]) := by decide +kernel
theorem r104_12 : am_at 104 12 = some (.iconst (1), 1, []) := by decide +kernel
theorem r104_13 : am_at 104 13 = some (.invokevirtual 142, 3, [47, 2, 1323, 0]) := by decide +kernel
theorem r104_16 : am_at 104 16 = some (.ifCond .ne (5), 3, [21]) := by decide +kernel
theorem r104_19 : am_at 104 19 = some (.iconst (0), 1, []) := by decide +kernel
theorem r104_20 : am_at 104 20 = some (.ireturn, 1, []) := by decide +kernel
theorem r104_21 : am_at 104 21 = some (.aload_n 0, 1, [0]) := by decide +kernel
theorem r104_22 : am_at 104 22 = some (.invokevirtual 145, 3, [76, 1, 1327, 0]) := by decide +kernel
theorem r104_25 : am_at 104 25 = some (.aload_n 0, 1, [0]) := by decide +kernel
theorem r104_26 : am_at 104 26 = some (.bipush (7), 2, []) := by decide +kernel
theorem r104_28 : am_at 104 28 = some (.iconst (0), 1, []) := by decide +kernel
theorem r104_29 : am_at 104 29 = some (.invokevirtual 130, 3, [75, 3, 1331, 0]) := by decide +kernel
theorem r104_32 : am_at 104 32 = some (.aload_n 0, 1, [0]) := by decide +kernel
theorem r104_33 : am_at 104 33 = some (.getfield 7, 3, [8, 1, 3, 1216]) := by decide +kernel
theorem r104_36 : am_at 104 36 = some (.bipush (12), 2, []) := by decide +kernel
theorem r104_38 : am_at 104 38 = some (.iaload, 1, []) := by decide +kernel
theorem r104_39 : am_at 104 39 = some (.ireturn, 1, []) := by decide +kernel
theorem rt104 : am_rtt 104 = some (some .int) := by decide +kernel
set_option maxRecDepth 100000 in
theorem pg104 : am_pg[104]? = some am_m104 := rfl
theorem m104_w {d mc ms : Nat} {N : Nat} {D : am_D} {Q : am_O → am_AH → Prop} (hd : 3 ≤ d) {r : Int32 × am_D} (h : m104 N D = some r) (hQ : Q (.inl (some (.int r.1))) (am_mk r.2)) : am_X xs L 104 d mc ms 0 [.ref 106] [] (am_mk D) 0 0 Q := by
  unfold m104 at h
  refine x_ld (v := .ref 106) r104_0 rfl rfl rfl ?_
  refine x_ld (v := .ref 106) r104_1 rfl rfl rfl ?_
  refine y_gf (cd := 0) (v := .int (D.1 106 3)) r104_2 rfl rfl rfl ?_
  obtain ⟨q1, h3, h⟩ := am_ltE h
  replace h3 := h3.symm
  have kj2 : am_X xs L 104 d mc ms 13 [.ref 106] [.int q1, .ref 106] (am_mk D) 0 0 Q := by
    obtain ⟨q5, h6, h⟩ := am_ltE h
    replace h6 := h6.symm
    refine x_call1 (as := [.ref 106, .int q1]) (rest := []) r104_13 rfl rfl rfl (by decide) (Nat.le_of_ble_eq_true rfl) (m47_ok h6) (Nat.le_trans (by decide) hd) (Nat.zero_le _) (Nat.zero_le _) rfl ?_
    rcases am_ifE h with ⟨c7, h⟩ | ⟨c7, h⟩
    · refine x_ifneT r104_16 c7 rfl ?_
      refine x_ic (v := 0) r104_19 rfl rfl ?_
      cases h
      exact x_ret (ret := some .int) (C := True) (v := some (.int _)) r104_20 rt104 rfl rfl rfl rfl rfl rfl rfl rfl trivial hQ
    · refine x_ifneF r104_16 c7 ?_
      refine x_ld (v := .ref 106) r104_21 rfl rfl rfl ?_
      obtain ⟨q8, h9, h⟩ := Option.bind_eq_some_iff.mp h
      refine x_call0 (as := [.ref 106]) (rest := []) r104_22 rfl rfl rfl (by decide) (Nat.le_of_ble_eq_true rfl) (m76_ok h9) (Nat.le_trans (by decide) hd) (Nat.zero_le _) (Nat.zero_le _) rfl ?_
      refine x_ld (v := .ref 106) r104_25 rfl rfl rfl ?_
      refine x_bi (v := 7) r104_26 rfl rfl ?_
      refine x_ic (v := 0) r104_28 rfl rfl ?_
      obtain ⟨q10, h11, h⟩ := Option.bind_eq_some_iff.mp h
      refine x_call0 (as := [.ref 106, .int (7 : Int32), .int (0 : Int32)]) (rest := []) r104_29 rfl rfl rfl (by decide) (Nat.le_of_ble_eq_true rfl) (m75_ok h11) (Nat.le_trans (by decide) hd) (Nat.zero_le _) (Nat.zero_le _) rfl ?_
      refine x_ld (v := .ref 106) r104_32 rfl rfl rfl ?_
      refine y_gf (cd := 109) (v := .ref 107) r104_33 rfl rfl rfl ?_
      refine x_bi (v := 12) r104_36 rfl rfl ?_
      refine y_ial (n := 1320) r104_38 rfl (by decide) (by decide) (e := 12) (by decide) rfl ?_
      cases h
      exact x_ret (ret := some .int) (C := True) (v := some (.int _)) r104_39 rt104 rfl rfl rfl rfl rfl rfl rfl rfl trivial hQ
  rcases am_ifE h3 with ⟨c4, h3⟩ | ⟨c4, h3⟩
  · refine x_ifeqT r104_5 c4 ?_
    refine x_ic (v := 1) r104_12 rfl rfl ?_
    subst h3
    exact kj2
  · refine x_ifeqF r104_5 c4 rfl ?_
    refine x_ic (v := 0) r104_8 rfl rfl ?_
    refine x_goto r104_9 ?_
    subst h3
    exact kj2
theorem m104_ok {N : Nat} {D : am_D} {r : Int32 × am_D} (h : m104 N D = some r) : am_Y xs L 104 3 0 0 [.ref 106] D (.inl (some (.int r.1))) r.2 := am_Yof (mi := am_m104) (lc := [.ref 106]) pg104 (Nat.le_of_ble_eq_true rfl) (am_rc1 (ci := 8) rfl rfl rfl rfl rfl) rfl (fun Q hQ => m104_w (Nat.le_refl _) h hQ)
theorem r105_0 : am_at 105 0 = some (.aload_n 0, 1, [0]) := by decide +kernel
theorem r105_1 : am_at 105 1 = some (.aload_n 0, 1, [0]) := by decide +kernel
theorem r105_2 : am_at 105 2 = some (.getfield 127, 3, [8, 2, 0, 1217]) := by decide +kernel
theorem r105_5 : am_at 105 5 = some (.ifCond .le (7), 3, [12]) := by decide +kernel
theorem r105_8 : am_at 105 8 = some (.iconst (0), 1, []) := by decide +kernel
theorem r105_9 : am_at 105 9 = some (.goto (4), 3, [13]) := by decide +kernel
theorem r105_12 : am_at 105 12 = some (.iconst (1), 1, []) := by decide +kernel
theorem r105_13 : am_at 105 13 = some (.invokevirtual 142, 3, [47, 2, 1323, 0]) := by decide +kernel
theorem r105_16 : am_at 105 16 = some (.ifCond .ne (5), 3, [21]) := by decide +kernel
theorem r105_19 : am_at 105 19 = some (.iconst (0), 1, []) := by decide +kernel
theorem r105_20 : am_at 105 20 = some (.ireturn, 1, []) := by decide +kernel
theorem r105_21 : am_at 105 21 = some (.aload_n 0, 1, [0]) := by decide +kernel
theorem r105_22 : am_at 105 22 = some (.aload_n 0, 1, [0]) := by decide +kernel
theorem r105_23 : am_at 105 23 = some (.getfield 127, 3, [8, 2, 0, 1217]) := by decide +kernel
theorem r105_26 : am_at 105 26 = some (.iconst (0), 1, []) := by decide +kernel
theorem r105_27 : am_at 105 27 = some (.invokevirtual 130, 3, [75, 3, 1331, 0]) := by decide +kernel
theorem r105_30 : am_at 105 30 = some (.aload_n 0, 1, [0]) := by decide +kernel
theorem r105_31 : am_at 105 31 = some (.dup, 1, []) := by decide +kernel
theorem r105_32 : am_at 105 32 = some (.getfield 127, 3, [8, 2, 0, 1217]) := by decide +kernel
theorem r105_35 : am_at 105 35 = some (.iconst (1), 1, []) := by decide +kernel
theorem r105_36 : am_at 105 36 = some (.isub, 1, []) := by decide +kernel
theorem r105_37 : am_at 105 37 = some (.putfield 127, 3, [8, 2, 0, 1217]) := by decide +kernel
theorem r105_40 : am_at 105 40 = some (.aload_n 0, 1, [0]) := by decide +kernel
theorem r105_41 : am_at 105 41 = some (.getfield 127, 3, [8, 2, 0, 1217]) := by decide +kernel
theorem r105_44 : am_at 105 44 = some (.ireturn, 1, []) := by decide +kernel
theorem rt105 : am_rtt 105 = some (some .int) := by decide +kernel
set_option maxRecDepth 100000 in
theorem pg105 : am_pg[105]? = some am_m105 := rfl
theorem m105_w {d mc ms : Nat} {N : Nat} {D : am_D} {Q : am_O → am_AH → Prop} (hd : 2 ≤ d) {r : Int32 × am_D} (h : m105 N D = some r) (hQ : Q (.inl (some (.int r.1))) (am_mk r.2)) : am_X xs L 105 d mc ms 0 [.ref 106] [] (am_mk D) 0 0 Q := by
  unfold m105 at h
  refine x_ld (v := .ref 106) r105_0 rfl rfl rfl ?_
  refine x_ld (v := .ref 106) r105_1 rfl rfl rfl ?_
  refine y_gf (cd := 0) (v := .int (D.1 106 2)) r105_2 rfl rfl rfl ?_
  obtain ⟨q1, h3, h⟩ := am_ltE h
  replace h3 := h3.symm
  have kj2 : am_X xs L 105 d mc ms 13 [.ref 106] [.int q1, .ref 106] (am_mk D) 0 0 Q := by
    obtain ⟨q5, h6, h⟩ := am_ltE h
    replace h6 := h6.symm
    refine x_call1 (as := [.ref 106, .int q1]) (rest := []) r105_13 rfl rfl rfl (by decide) (Nat.le_of_ble_eq_true rfl) (m47_ok h6) (Nat.le_trans (by decide) hd) (Nat.zero_le _) (Nat.zero_le _) rfl ?_
    rcases am_ifE h with ⟨c7, h⟩ | ⟨c7, h⟩
    · refine x_ifneT r105_16 c7 rfl ?_
      refine x_ic (v := 0) r105_19 rfl rfl ?_
      cases h
      exact x_ret (ret := some .int) (C := True) (v := some (.int _)) r105_20 rt105 rfl rfl rfl rfl rfl rfl rfl rfl trivial hQ
    · refine x_ifneF r105_16 c7 ?_
      refine x_ld (v := .ref 106) r105_21 rfl rfl rfl ?_
      refine x_ld (v := .ref 106) r105_22 rfl rfl rfl ?_
      refine y_gf (cd := 0) (v := .int (q5.2.1 106 2)) r105_23 rfl rfl rfl ?_
      refine x_ic (v := 0) r105_26 rfl rfl ?_
      obtain ⟨q8, h9, h⟩ := Option.bind_eq_some_iff.mp h
      refine x_call0 (as := [.ref 106, .int (q5.2.1 106 2), .int (0 : Int32)]) (rest := []) r105_27 rfl rfl rfl (by decide) (Nat.le_of_ble_eq_true rfl) (m75_ok h9) (Nat.le_trans (by decide) hd) (Nat.zero_le _) (Nat.zero_le _) rfl ?_
      refine x_ld (v := .ref 106) r105_30 rfl rfl rfl ?_
      refine x_ar r105_31 rfl trivial rfl ?_
      refine y_gf (cd := 0) (v := .int (q8.1 106 2)) r105_32 rfl rfl rfl ?_
      refine x_ic (v := 1) r105_35 rfl rfl ?_
      refine x_ar r105_36 rfl trivial rfl ?_
      obtain ⟨D10, e11, h⟩ := am_ltE h
      refine y_pf0 r105_37 rfl e11 rfl ?_
      refine x_ld (v := .ref 106) r105_40 rfl rfl rfl ?_
      refine y_gf (cd := 0) (v := .int (D10.1 106 2)) r105_41 rfl rfl rfl ?_
      cases h
      exact x_ret (ret := some .int) (C := True) (v := some (.int _)) r105_44 rt105 rfl rfl rfl rfl rfl rfl rfl rfl trivial hQ
  rcases am_ifE h3 with ⟨c4, h3⟩ | ⟨c4, h3⟩
  · refine x_ifleT r105_5 c4 ?_
    refine x_ic (v := 1) r105_12 rfl rfl ?_
    subst h3
    exact kj2
  · refine x_ifleF r105_5 c4 rfl ?_
    refine x_ic (v := 0) r105_8 rfl rfl ?_
    refine x_goto r105_9 ?_
    subst h3
    exact kj2
theorem m105_ok {N : Nat} {D : am_D} {r : Int32 × am_D} (h : m105 N D = some r) : am_Y xs L 105 2 0 0 [.ref 106] D (.inl (some (.int r.1))) r.2 := am_Yof (mi := am_m105) (lc := [.ref 106]) pg105 (Nat.le_of_ble_eq_true rfl) (am_rc1 (ci := 8) rfl rfl rfl rfl rfl) rfl (fun Q hQ => m105_w (Nat.le_refl _) h hQ)
theorem r106_0 : am_at 106 0 = some (.iconst (0), 1, []) := by decide +kernel
theorem r106_1 : am_at 106 1 = some (.istore_n 2, 1, [2]) := by decide +kernel
theorem r106_2 : am_at 106 2 = some (.iload_n 2, 1, [2]) := by decide +kernel
theorem r106_3 : am_at 106 3 = some (.aload_n 0, 1, [0]) := by decide +kernel
theorem r106_4 : am_at 106 4 = some (.getfield 7, 3, [8, 1, 3, 1216]) := by decide +kernel
theorem r106_7 : am_at 106 7 = some (.bipush (12), 2, []) := by decide +kernel
theorem r106_9 : am_at 106 9 = some (.iaload, 1, []) := by decide +kernel
theorem r106_10 : am_at 106 10 = some (.if_icmp .ge (24), 3, [34]) := by decide +kernel
theorem r106_13 : am_at 106 13 = some (.aload_n 0, 1, [0]) := by decide +kernel
theorem r106_14 : am_at 106 14 = some (.getfield 7, 3, [8, 1, 3, 1216]) := by decide +kernel
theorem r106_17 : am_at 106 17 = some (.bipush (109), 2, []) := by decide +kernel
theorem r106_19 : am_at 106 19 = some (.iload_n 2, 1, [2]) := by decide +kernel
theorem r106_20 : am_at 106 20 = some (.iadd, 1, []) := by decide +kernel
theorem r106_21 : am_at 106 21 = some (.iaload, 1, []) := by decide +kernel
theorem r106_22 : am_at 106 22 = some (.iload_n 1, 1, [1]) := by decide +kernel
theorem r106_23 : am_at 106 23 = some (.if_icmp .ne (5), 3, [28]) := by decide +kernel
theorem r106_26 : am_at 106 26 = some (.iload_n 2, 1, [2]) := by decide +kernel
theorem r106_27 : am_at 106 27 = some (.ireturn, 1, []) := by decide +kernel
theorem r106_28 : am_at 106 28 = some (.iinc 2 (1), 3, [2]) := by decide +kernel
theorem r106_31 : am_at 106 31 = some (.goto (-29), 3, [2]) := by decide +kernel
theorem r106_34 : am_at 106 34 = some (.iconst (-1), 1, []) := by decide +kernel
theorem r106_35 : am_at 106 35 = some (.ireturn, 1, []) := by decide +kernel
theorem rt106 : am_rtt 106 = some (some .int) := by decide +kernel
set_option maxRecDepth 100000 in
theorem pg106 : am_pg[106]? = some am_m106 := rfl
theorem m106_L2_w {d : Nat} {N : Nat} {D : am_D} {v1 : Int32} {mc ms : Nat} {Q : am_O → am_AH → Prop} (hd : 1 ≤ d) : ∀ (n : Nat) (v2 : Int32) {q : Nat × Int32} (h : m106_L2 N D v1  n v2 = some q) (k0 : q.1 = 0 → am_X xs L 106 d mc ms 34 [.ref 106, am_dead, am_dead] [] (am_mk D) 0 0 Q) (k1 : q.1 = 1 → am_X xs L 106 d mc ms 26 [.ref 106, am_dead, .int q.2] [] (am_mk D) 0 0 Q), am_X xs L 106 d mc ms 2 [.ref 106, .int v1, .int v2] [] (am_mk D) 0 0 Q := by
  intro n
  induction n with
  | zero =>
    intro v2 q h k0 k1
    exact (nomatch (show none = some q from h))
  | succ n ih =>
    intro v2 q h k0 k1
    rw [m106_L2] at h
    refine x_ld (v := .int v2) r106_2 rfl rfl rfl ?_
    refine x_ld (v := .ref 106) r106_3 rfl rfl rfl ?_
    refine y_gf (cd := 109) (v := .ref 107) r106_4 rfl rfl rfl ?_
    refine x_bi (v := 12) r106_7 rfl rfl ?_
    refine y_ial (n := 1320) r106_9 rfl (by decide) (by decide) (e := 12) (by decide) rfl ?_
    rcases am_ifE h with ⟨c1, h⟩ | ⟨c1, h⟩
    · refine x_icgeT r106_10 c1 ?_
      refine x_forget (lc0 := [.ref 106, am_dead, am_dead]) ⟨Or.inl rfl, Or.inr ⟨rfl, rfl⟩, Or.inr ⟨rfl, rfl⟩, trivial⟩ ?_
      cases h
      exact k0 rfl
    · refine x_icgeF r106_10 c1 rfl ?_
      refine x_ld (v := .ref 106) r106_13 rfl rfl rfl ?_
      refine y_gf (cd := 109) (v := .ref 107) r106_14 rfl rfl rfl ?_
      refine x_bi (v := 109) r106_17 rfl rfl ?_
      refine x_ld (v := .int v2) r106_19 rfl rfl rfl ?_
      refine x_ar r106_20 rfl trivial rfl ?_
      obtain ⟨g2, h⟩ := am_gdE h
      refine y_ial (n := 1320) r106_21 rfl (by decide) g2 rfl rfl ?_
      refine x_ld (v := .int v1) r106_22 rfl rfl rfl ?_
      rcases am_ifE h with ⟨c3, h⟩ | ⟨c3, h⟩
      · refine x_icneT r106_23 c3 rfl ?_
        refine x_forget (lc0 := [.ref 106, am_dead, .int v2]) ⟨Or.inl rfl, Or.inr ⟨rfl, rfl⟩, Or.inl rfl, trivial⟩ ?_
        cases h
        exact k1 rfl
      · refine x_icneF r106_23 c3 ?_
        obtain ⟨x4, e5, h⟩ := am_ltE h
        refine x_sto (lc' := [.ref 106, .int v1, .int x4]) r106_28 rfl rfl (by subst e5; rfl) rfl ?_
        refine x_goto r106_31 ?_
        exact x_forget (lc0 := [.ref 106, .int v1, .int x4]) ⟨Or.inl rfl, Or.inl rfl, Or.inl rfl, trivial⟩ (ih x4 h k0 k1)
theorem m106_w {d mc ms : Nat} {N : Nat} {D : am_D} {v1 : Int32} {Q : am_O → am_AH → Prop} (hd : 1 ≤ d) {r : Int32} (h : m106 N D v1 = some r) (hQ : Q (.inl (some (.int r))) (am_mk D)) : am_X xs L 106 d mc ms 0 [.ref 106, .int v1, am_dead] [] (am_mk D) 0 0 Q := by
  unfold m106 at h
  refine x_ic (v := 0) r106_0 rfl rfl ?_
  refine x_sto (lc' := [.ref 106, .int v1, .int (0 : Int32)]) r106_1 rfl rfl rfl rfl ?_
  obtain ⟨q6, h7, h⟩ := Option.bind_eq_some_iff.mp h
  refine x_forget (lc0 := [.ref 106, .int v1, .int (0 : Int32)]) ⟨Or.inl rfl, Or.inl rfl, Or.inl rfl, trivial⟩ (m106_L2_w hd N (0 : Int32) h7 (fun e8 => ?_) (fun e9 => ?_))
  · rw [if_pos e8] at h
    refine x_ic (v := -1) r106_34 rfl rfl ?_
    cases h
    exact x_ret (ret := some .int) (C := True) (v := some (.int _)) r106_35 rt106 rfl rfl rfl rfl rfl rfl rfl rfl trivial hQ
  · rw [if_neg (by rw [e9]; decide)] at h
    refine x_ld (v := .int q6.2) r106_26 rfl rfl rfl ?_
    cases h
    exact x_ret (ret := some .int) (C := True) (v := some (.int _)) r106_27 rt106 rfl rfl rfl rfl rfl rfl rfl rfl trivial hQ
theorem m106_ok {N : Nat} {D : am_D} {v1 : Int32} {r : Int32} (h : m106 N D v1 = some r) : am_Y xs L 106 1 0 0 [.ref 106, .int v1] D (.inl (some (.int r))) D := am_Yof (mi := am_m106) (lc := [.ref 106, .int v1, am_dead]) pg106 (Nat.le_of_ble_eq_true rfl) (am_rc1 (ci := 8) rfl rfl rfl rfl rfl) rfl (fun Q hQ => m106_w (Nat.le_refl _) h hQ)
end XE
