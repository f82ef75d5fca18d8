/-! methods as functions, with their walks (by wip/tools/decomp.py): 66 67 68 69 70 71 72 73 74 75 76 77 78 -/
section XE
variable {xs : Nat → Int32} {L : Nat}
theorem r66_0 : am_at 66 0 = some (.aload_n 0, 1, [0]) := by decide +kernel
theorem r66_1 : am_at 66 1 = some (.getfield 7, 3, [8, 1, 3, 1216]) := by decide +kernel
theorem r66_4 : am_at 66 4 = some (.iconst (0), 1, []) := by decide +kernel
theorem r66_5 : am_at 66 5 = some (.iaload, 1, []) := by decide +kernel
theorem r66_6 : am_at 66 6 = some (.iconst (1), 1, []) := by decide +kernel
theorem r66_7 : am_at 66 7 = some (.if_icmp .ne (37), 3, [44]) := by decide +kernel
theorem r66_10 : am_at 66 10 = some (.aload_n 0, 1, [0]) := by decide +kernel
theorem r66_11 : am_at 66 11 = some (.getfield 7, 3, [8, 1, 3, 1216]) := by decide +kernel
theorem r66_14 : am_at 66 14 = some (.iconst (2), 1, []) := by decide +kernel
theorem r66_15 : am_at 66 15 = some (.iaload, 1, []) := by decide +kernel
theorem r66_16 : am_at 66 16 = some (.aload_n 0, 1, [0]) := by decide +kernel
theorem r66_17 : am_at 66 17 = some (.getfield 7, 3, [8, 1, 3, 1216]) := by decide +kernel
theorem r66_20 : am_at 66 20 = some (.iconst (1), 1, []) := by decide +kernel
theorem r66_21 : am_at 66 21 = some (.iaload, 1, []) := by decide +kernel
theorem r66_22 : am_at 66 22 = some (.if_icmp .eq (22), 3, [44]) := by decide +kernel
theorem r66_25 : am_at 66 25 = some (.aload_n 0, 1, [0]) := by decide +kernel
theorem r66_26 : am_at 66 26 = some (.getfield 7, 3, [8, 1, 3, 1216]) := by decide +kernel
theorem r66_29 : am_at 66 29 = some (.iconst (2), 1, []) := by decide +kernel
theorem r66_30 : am_at 66 30 = some (.iaload, 1, []) := by decide +kernel
theorem r66_31 : am_at 66 31 = some (.aload_n 0, 1, [0]) := by decide +kernel
theorem r66_32 : am_at 66 32 = some (.getfield 7, 3, [8, 1, 3, 1216]) := by decide +kernel
theorem r66_35 : am_at 66 35 = some (.iconst (5), 1, []) := by decide +kernel
theorem r66_36 : am_at 66 36 = some (.iaload, 1, []) := by decide +kernel
theorem r66_37 : am_at 66 37 = some (.if_icmp .eq (7), 3, [44]) := by decide +kernel
theorem r66_40 : am_at 66 40 = some (.iconst (1), 1, []) := by decide +kernel
theorem r66_41 : am_at 66 41 = some (.goto (4), 3, [45]) := by decide +kernel
theorem r66_44 : am_at 66 44 = some (.iconst (0), 1, []) := by decide +kernel
theorem r66_45 : am_at 66 45 = some (.ireturn, 1, []) := by decide +kernel
theorem rt66 : am_rtt 66 = some (some .boolean) := by decide +kernel
set_option maxRecDepth 100000 in
theorem pg66 : am_pg[66]? = some am_m66 := rfl
theorem m66_w {d mc ms : Nat} {D : am_D} {Q : am_O → am_AH → Prop} (hd : 1 ≤ d) {r : Int32} (h : m66 D = r) (hQ : Q (.inl (some (.int r))) (am_mk D)) : am_X xs L 66 d mc ms 0 [.ref 106] [] (am_mk D) 0 0 Q := by
  unfold m66 at h
  refine x_ld (v := .ref 106) r66_0 rfl rfl rfl ?_
  refine y_gf (cd := 109) (v := .ref 107) r66_1 rfl rfl rfl ?_
  refine x_ic (v := 0) r66_4 rfl rfl ?_
  refine y_ial (n := 1320) r66_5 rfl (by decide) (by decide) (e := 0) (by decide) rfl ?_
  refine x_ic (v := 1) r66_6 rfl rfl ?_
  rcases am_ifE h with ⟨c1, h⟩ | ⟨c1, h⟩
  · refine x_icneT r66_7 c1 rfl ?_
    refine x_ld (v := .ref 106) r66_10 rfl rfl rfl ?_
    refine y_gf (cd := 109) (v := .ref 107) r66_11 rfl rfl rfl ?_
    refine x_ic (v := 2) r66_14 rfl rfl ?_
    refine y_ial (n := 1320) r66_15 rfl (by decide) (by decide) (e := 2) (by decide) rfl ?_
    refine x_ld (v := .ref 106) r66_16 rfl rfl rfl ?_
    refine y_gf (cd := 109) (v := .ref 107) r66_17 rfl rfl rfl ?_
    refine x_ic (v := 1) r66_20 rfl rfl ?_
    refine y_ial (n := 1320) r66_21 rfl (by decide) (by decide) (e := 1) (by decide) rfl ?_
    rcases am_ifE h with ⟨c2, h⟩ | ⟨c2, h⟩
    · refine x_iceqT r66_22 c2 ?_
      refine x_ic (v := 0) r66_44 rfl rfl ?_
      subst h
      exact x_ret (ret := some .boolean) (C := narrow .boolean (.int (0 : Int32)) = .int (0 : Int32)) (v := some (.int (0 : Int32))) r66_45 rt66 rfl rfl rfl rfl rfl rfl rfl rfl (by decide) hQ
    · refine x_iceqF r66_22 c2 rfl ?_
      refine x_ld (v := .ref 106) r66_25 rfl rfl rfl ?_
      refine y_gf (cd := 109) (v := .ref 107) r66_26 rfl rfl rfl ?_
      refine x_ic (v := 2) r66_29 rfl rfl ?_
      refine y_ial (n := 1320) r66_30 rfl (by decide) (by decide) (e := 2) (by decide) rfl ?_
      refine x_ld (v := .ref 106) r66_31 rfl rfl rfl ?_
      refine y_gf (cd := 109) (v := .ref 107) r66_32 rfl rfl rfl ?_
      refine x_ic (v := 5) r66_35 rfl rfl ?_
      refine y_ial (n := 1320) r66_36 rfl (by decide) (by decide) (e := 5) (by decide) rfl ?_
      rcases am_ifE h with ⟨c3, h⟩ | ⟨c3, h⟩
      · refine x_iceqT r66_37 c3 ?_
        refine x_ic (v := 0) r66_44 rfl rfl ?_
        subst h
        exact x_ret (ret := some .boolean) (C := narrow .boolean (.int (0 : Int32)) = .int (0 : Int32)) (v := some (.int (0 : Int32))) r66_45 rt66 rfl rfl rfl rfl rfl rfl rfl rfl (by decide) hQ
      · refine x_iceqF r66_37 c3 rfl ?_
        refine x_ic (v := 1) r66_40 rfl rfl ?_
        refine x_goto r66_41 ?_
        subst h
        exact x_ret (ret := some .boolean) (C := narrow .boolean (.int (1 : Int32)) = .int (1 : Int32)) (v := some (.int (1 : Int32))) r66_45 rt66 rfl rfl rfl rfl rfl rfl rfl rfl (by decide) hQ
  · refine x_icneF r66_7 c1 ?_
    refine x_ic (v := 0) r66_44 rfl rfl ?_
    subst h
    exact x_ret (ret := some .boolean) (C := narrow .boolean (.int (0 : Int32)) = .int (0 : Int32)) (v := some (.int (0 : Int32))) r66_45 rt66 rfl rfl rfl rfl rfl rfl rfl rfl (by decide) hQ
theorem m66_ok {D : am_D} {r : Int32} (h : m66 D = r) : am_Y xs L 66 1 0 0 [.ref 106] D (.inl (some (.int r))) D := am_Yof (mi := am_m66) (lc := [.ref 106]) pg66 (Nat.le_of_ble_eq_true rfl) (am_rc1 (ci := 8) rfl rfl rfl rfl rfl) rfl (fun Q hQ => m66_w (Nat.le_refl _) h hQ)
theorem m66_b (D : am_D) : m66 D &&& 1 = m66 D := by
  unfold m66
  (repeat' split) <;> rfl
theorem r67_0 : am_at 67 0 = some (.aload_n 0, 1, [0]) := by decide +kernel
theorem r67_1 : am_at 67 1 = some (.getfield 7, 3, [8, 1, 3, 1216]) := by decide +kernel
theorem r67_4 : am_at 67 4 = some (.iconst (0), 1, []) := by decide +kernel
theorem r67_5 : am_at 67 5 = some (.iaload, 1, []) := by decide +kernel
theorem r67_6 : am_at 67 6 = some (.iconst (1), 1, []) := by decide +kernel
theorem r67_7 : am_at 67 7 = some (.if_icmp .eq (5), 3, [12]) := by decide +kernel
theorem r67_10 : am_at 67 10 = some (.iconst (1), 1, []) := by decide +kernel
theorem r67_11 : am_at 67 11 = some (.ireturn, 1, []) := by decide +kernel
theorem r67_12 : am_at 67 12 = some (.aload_n 0, 1, [0]) := by decide +kernel
theorem r67_13 : am_at 67 13 = some (.getfield 7, 3, [8, 1, 3, 1216]) := by decide +kernel
theorem r67_16 : am_at 67 16 = some (.iconst (1), 1, []) := by decide +kernel
theorem r67_17 : am_at 67 17 = some (.iaload, 1, []) := by decide +kernel
theorem r67_18 : am_at 67 18 = some (.iload_n 1, 1, [1]) := by decide +kernel
theorem r67_19 : am_at 67 19 = some (.if_icmp .eq (5), 3, [24]) := by decide +kernel
theorem r67_22 : am_at 67 22 = some (.iconst (2), 1, []) := by decide +kernel
theorem r67_23 : am_at 67 23 = some (.ireturn, 1, []) := by decide +kernel
theorem r67_24 : am_at 67 24 = some (.aload_n 0, 1, [0]) := by decide +kernel
theorem r67_25 : am_at 67 25 = some (.iload_n 1, 1, [1]) := by decide +kernel
theorem r67_26 : am_at 67 26 = some (.iload_n 2, 1, [2]) := by decide +kernel
theorem r67_27 : am_at 67 27 = some (.invokevirtual 69, 3, [56, 3, 1315, 0]) := by decide +kernel
theorem r67_30 : am_at 67 30 = some (.ifCond .ne (5), 3, [35]) := by decide +kernel
theorem r67_33 : am_at 67 33 = some (.iconst (3), 1, []) := by decide +kernel
theorem r67_34 : am_at 67 34 = some (.ireturn, 1, []) := by decide +kernel
theorem r67_35 : am_at 67 35 = some (.aload_n 0, 1, [0]) := by decide +kernel
theorem r67_36 : am_at 67 36 = some (.iload_n 2, 1, [2]) := by decide +kernel
theorem r67_37 : am_at 67 37 = some (.iload_n 3, 1, [3]) := by decide +kernel
theorem r67_38 : am_at 67 38 = some (.invokevirtual 94, 3, [62, 3, 1370, 0]) := by decide +kernel
theorem r67_41 : am_at 67 41 = some (.ifCond .ne (5), 3, [46]) := by decide +kernel
theorem r67_44 : am_at 67 44 = some (.iconst (4), 1, []) := by decide +kernel
theorem r67_45 : am_at 67 45 = some (.ireturn, 1, []) := by decide +kernel
theorem r67_46 : am_at 67 46 = some (.aload_n 0, 1, [0]) := by decide +kernel
theorem r67_47 : am_at 67 47 = some (.invokevirtual 101, 3, [66, 1, 1394, 0]) := by decide +kernel
theorem r67_50 : am_at 67 50 = some (.ifCond .ne (7), 3, [57]) := by decide +kernel
theorem r67_53 : am_at 67 53 = some (.iconst (5), 1, []) := by decide +kernel
theorem r67_54 : am_at 67 54 = some (.goto (21), 3, [75]) := by decide +kernel
theorem r67_57 : am_at 67 57 = some (.aload_n 0, 1, [0]) := by decide +kernel
theorem r67_58 : am_at 67 58 = some (.getfield 7, 3, [8, 1, 3, 1216]) := by decide +kernel
theorem r67_61 : am_at 67 61 = some (.bipush (13), 2, []) := by decide +kernel
theorem r67_63 : am_at 67 63 = some (.iload_n 1, 1, [1]) := by decide +kernel
theorem r67_64 : am_at 67 64 = some (.iadd, 1, []) := by decide +kernel
theorem r67_65 : am_at 67 65 = some (.iaload, 1, []) := by decide +kernel
theorem r67_66 : am_at 67 66 = some (.ifCond .ne (8), 3, [74]) := by decide +kernel
theorem r67_69 : am_at 67 69 = some (.bipush (6), 2, []) := by decide +kernel
theorem r67_71 : am_at 67 71 = some (.goto (4), 3, [75]) := by decide +kernel
theorem r67_74 : am_at 67 74 = some (.iconst (0), 1, []) := by decide +kernel
theorem r67_75 : am_at 67 75 = some (.ireturn, 1, []) := by decide +kernel
theorem rt67 : am_rtt 67 = some (some .int) := by decide +kernel
set_option maxRecDepth 100000 in
theorem pg67 : am_pg[67]? = some am_m67 := rfl
theorem m67_w {d mc ms : Nat} {D : am_D} {v1 : Int32} {v2 : Int32} {v3 : Int32} {Q : am_O → am_AH → Prop} (hd : 5 ≤ d) {r : Int32} (h : m67 D v1 v2 v3 = some r) (hQ : Q (.inl (some (.int r))) (am_mk D)) : am_X xs L 67 d mc ms 0 [.ref 106, .int v1, .int v2, .int v3] [] (am_mk D) 0 0 Q := by
  unfold m67 at h
  refine x_ld (v := .ref 106) r67_0 rfl rfl rfl ?_
  refine y_gf (cd := 109) (v := .ref 107) r67_1 rfl rfl rfl ?_
  refine x_ic (v := 0) r67_4 rfl rfl ?_
  refine y_ial (n := 1320) r67_5 rfl (by decide) (by decide) (e := 0) (by decide) rfl ?_
  refine x_ic (v := 1) r67_6 rfl rfl ?_
  rcases am_ifE h with ⟨c1, h⟩ | ⟨c1, h⟩
  · refine x_iceqT r67_7 c1 ?_
    refine x_ld (v := .ref 106) r67_12 rfl rfl rfl ?_
    refine y_gf (cd := 109) (v := .ref 107) r67_13 rfl rfl rfl ?_
    refine x_ic (v := 1) r67_16 rfl rfl ?_
    refine y_ial (n := 1320) r67_17 rfl (by decide) (by decide) (e := 1) (by decide) rfl ?_
    refine x_ld (v := .int v1) r67_18 rfl rfl rfl ?_
    rcases am_ifE h with ⟨c2, h⟩ | ⟨c2, h⟩
    · refine x_iceqT r67_19 c2 ?_
      refine x_ld (v := .ref 106) r67_24 rfl rfl rfl ?_
      refine x_ld (v := .int v1) r67_25 rfl rfl rfl ?_
      refine x_ld (v := .int v2) r67_26 rfl rfl rfl ?_
      obtain ⟨q3, h4, h⟩ := Option.bind_eq_some_iff.mp h
      refine x_call1 (as := [.ref 106, .int v1, .int v2]) (rest := []) r67_27 rfl rfl rfl (by decide) (Nat.le_of_ble_eq_true rfl) (m56_ok h4) (Nat.le_trans (by decide) hd) (Nat.zero_le _) (Nat.zero_le _) rfl ?_
      rcases am_ifE h with ⟨c5, h⟩ | ⟨c5, h⟩
      · refine x_ifneT r67_30 c5 rfl ?_
        refine x_ic (v := 3) r67_33 rfl rfl ?_
        cases h
        exact x_ret (ret := some .int) (C := True) (v := some (.int _)) r67_34 rt67 rfl rfl rfl rfl rfl rfl rfl rfl trivial hQ
      · refine x_ifneF r67_30 c5 ?_
        refine x_ld (v := .ref 106) r67_35 rfl rfl rfl ?_
        refine x_ld (v := .int v2) r67_36 rfl rfl rfl ?_
        refine x_ld (v := .int v3) r67_37 rfl rfl rfl ?_
        obtain ⟨q6, h7, h⟩ := Option.bind_eq_some_iff.mp h
        refine x_call1 (as := [.ref 106, .int v2, .int v3]) (rest := []) r67_38 rfl rfl rfl (by decide) (Nat.le_of_ble_eq_true rfl) (m62_ok h7) (Nat.le_trans (by decide) hd) (Nat.zero_le _) (Nat.zero_le _) rfl ?_
        rcases am_ifE h with ⟨c8, h⟩ | ⟨c8, h⟩
        · refine x_ifneT r67_41 c8 rfl ?_
          refine x_ic (v := 4) r67_44 rfl rfl ?_
          cases h
          exact x_ret (ret := some .int) (C := True) (v := some (.int _)) r67_45 rt67 rfl rfl rfl rfl rfl rfl rfl rfl trivial hQ
        · refine x_ifneF r67_41 c8 ?_
          refine x_ld (v := .ref 106) r67_46 rfl rfl rfl ?_
          refine x_call1 (as := [.ref 106]) (rest := []) r67_47 rfl rfl rfl (by decide) (Nat.le_of_ble_eq_true rfl) (m66_ok rfl) (Nat.le_trans (by decide) hd) (Nat.zero_le _) (Nat.zero_le _) rfl ?_
          rcases am_ifE h with ⟨c9, h⟩ | ⟨c9, h⟩
          · refine x_ifneT r67_50 c9 rfl ?_
            refine x_ic (v := 5) r67_53 rfl rfl ?_
            refine x_goto r67_54 ?_
            cases h
            exact x_ret (ret := some .int) (C := True) (v := some (.int _)) r67_75 rt67 rfl rfl rfl rfl rfl rfl rfl rfl trivial hQ
          · refine x_ifneF r67_50 c9 ?_
            refine x_ld (v := .ref 106) r67_57 rfl rfl rfl ?_
            refine y_gf (cd := 109) (v := .ref 107) r67_58 rfl rfl rfl ?_
            refine x_bi (v := 13) r67_61 rfl rfl ?_
            refine x_ld (v := .int v1) r67_63 rfl rfl rfl ?_
            refine x_ar r67_64 rfl trivial rfl ?_
            obtain ⟨g10, h⟩ := am_gdE h
            refine y_ial (n := 1320) r67_65 rfl (by decide) g10 rfl rfl ?_
            rcases am_ifE h with ⟨c11, h⟩ | ⟨c11, h⟩
            · refine x_ifneT r67_66 c11 rfl ?_
              refine x_bi (v := 6) r67_69 rfl rfl ?_
              refine x_goto r67_71 ?_
              cases h
              exact x_ret (ret := some .int) (C := True) (v := some (.int _)) r67_75 rt67 rfl rfl rfl rfl rfl rfl rfl rfl trivial hQ
            · refine x_ifneF r67_66 c11 ?_
              refine x_ic (v := 0) r67_74 rfl rfl ?_
              cases h
              exact x_ret (ret := some .int) (C := True) (v := some (.int _)) r67_75 rt67 rfl rfl rfl rfl rfl rfl rfl rfl trivial hQ
    · refine x_iceqF r67_19 c2 rfl ?_
      refine x_ic (v := 2) r67_22 rfl rfl ?_
      cases h
      exact x_ret (ret := some .int) (C := True) (v := some (.int _)) r67_23 rt67 rfl rfl rfl rfl rfl rfl rfl rfl trivial hQ
  · refine x_iceqF r67_7 c1 rfl ?_
    refine x_ic (v := 1) r67_10 rfl rfl ?_
    cases h
    exact x_ret (ret := some .int) (C := True) (v := some (.int _)) r67_11 rt67 rfl rfl rfl rfl rfl rfl rfl rfl trivial hQ
theorem m67_ok {D : am_D} {v1 : Int32} {v2 : Int32} {v3 : Int32} {r : Int32} (h : m67 D v1 v2 v3 = some r) : am_Y xs L 67 5 0 0 [.ref 106, .int v1, .int v2, .int v3] D (.inl (some (.int r))) D := am_Yof (mi := am_m67) (lc := [.ref 106, .int v1, .int v2, .int v3]) pg67 (Nat.le_of_ble_eq_true rfl) (am_rc1 (ci := 8) rfl rfl rfl rfl rfl) rfl (fun Q hQ => m67_w (Nat.le_refl _) h hQ)
theorem r68_0 : am_at 68 0 = some (.iconst (0), 1, []) := by decide +kernel
theorem r68_1 : am_at 68 1 = some (.istore_n 2, 1, [2]) := by decide +kernel
theorem r68_2 : am_at 68 2 = some (.iconst (0), 1, []) := by decide +kernel
theorem r68_3 : am_at 68 3 = some (.istore_n 3, 1, [3]) := by decide +kernel
theorem r68_4 : am_at 68 4 = some (.iload_n 3, 1, [3]) := by decide +kernel
theorem r68_5 : am_at 68 5 = some (.bipush (28), 2, []) := by decide +kernel
theorem r68_7 : am_at 68 7 = some (.if_icmp .ge (34), 3, [41]) := by decide +kernel
theorem r68_10 : am_at 68 10 = some (.iload_n 2, 1, [2]) := by decide +kernel
theorem r68_11 : am_at 68 11 = some (.aload_n 0, 1, [0]) := by decide +kernel
theorem r68_12 : am_at 68 12 = some (.iload_n 1, 1, [1]) := by decide +kernel
theorem r68_13 : am_at 68 13 = some (.iload_n 3, 1, [3]) := by decide +kernel
theorem r68_14 : am_at 68 14 = some (.invokevirtual 69, 3, [56, 3, 1315, 0]) := by decide +kernel
theorem r68_17 : am_at 68 17 = some (.ifCond .eq (15), 3, [32]) := by decide +kernel
theorem r68_20 : am_at 68 20 = some (.aload_n 0, 1, [0]) := by decide +kernel
theorem r68_21 : am_at 68 21 = some (.iload_n 3, 1, [3]) := by decide +kernel
theorem r68_22 : am_at 68 22 = some (.invokevirtual 105, 3, [63, 2, 1433, 0]) := by decide +kernel
theorem r68_25 : am_at 68 25 = some (.ifCond .eq (7), 3, [32]) := by decide +kernel
theorem r68_28 : am_at 68 28 = some (.iconst (1), 1, []) := by decide +kernel
theorem r68_29 : am_at 68 29 = some (.goto (4), 3, [33]) := by decide +kernel
theorem r68_32 : am_at 68 32 = some (.iconst (0), 1, []) := by decide +kernel
theorem r68_33 : am_at 68 33 = some (.iadd, 1, []) := by decide +kernel
theorem r68_34 : am_at 68 34 = some (.istore_n 2, 1, [2]) := by decide +kernel
theorem r68_35 : am_at 68 35 = some (.iinc 3 (1), 3, [3]) := by decide +kernel
theorem r68_38 : am_at 68 38 = some (.goto (-34), 3, [4]) := by decide +kernel
theorem r68_41 : am_at 68 41 = some (.iload_n 2, 1, [2]) := by decide +kernel
theorem r68_42 : am_at 68 42 = some (.ireturn, 1, []) := by decide +kernel
theorem rt68 : am_rtt 68 = some (some .int) := by decide +kernel
set_option maxRecDepth 100000 in
theorem pg68 : am_pg[68]? = some am_m68 := rfl
theorem m68_L4_w {d : Nat} {N : Nat} {D : am_D} {v1 : Int32} {mc ms : Nat} {Q : am_O → am_AH → Prop} (hd : 6 ≤ d) : ∀ (n : Nat) (v2 : Int32) (v3 : Int32) {q : Int32} (h : m68_L4 N D v1  n v2 v3 = some q) (k0 : am_X xs L 68 d mc ms 41 [.ref 106, am_dead, .int q, am_dead] [] (am_mk D) 0 0 Q), am_X xs L 68 d mc ms 4 [.ref 106, .int v1, .int v2, .int v3] [] (am_mk D) 0 0 Q := by
  intro n
  induction n with
  | zero =>
    intro v2 v3 q h k0
    exact (nomatch (show none = some q from h))
  | succ n ih =>
    intro v2 v3 q h k0
    rw [m68_L4] at h
    refine x_ld (v := .int v3) r68_4 rfl rfl rfl ?_
    refine x_bi (v := 28) r68_5 rfl rfl ?_
    rcases am_ifE h with ⟨c1, h⟩ | ⟨c1, h⟩
    · refine x_icgeT r68_7 c1 ?_
      refine x_forget (lc0 := [.ref 106, am_dead, .int v2, am_dead]) ⟨Or.inl rfl, Or.inr ⟨rfl, rfl⟩, Or.inl rfl, Or.inr ⟨rfl, rfl⟩, trivial⟩ ?_
      cases h
      exact k0
    · refine x_icgeF r68_7 c1 rfl ?_
      refine x_ld (v := .int v2) r68_10 rfl rfl rfl ?_
      refine x_ld (v := .ref 106) r68_11 rfl rfl rfl ?_
      refine x_ld (v := .int v1) r68_12 rfl rfl rfl ?_
      refine x_ld (v := .int v3) r68_13 rfl rfl rfl ?_
      obtain ⟨q2, h3, h⟩ := Option.bind_eq_some_iff.mp h
      refine x_call1 (as := [.ref 106, .int v1, .int v3]) (rest := [.int v2]) r68_14 rfl rfl rfl (by decide) (Nat.le_of_ble_eq_true rfl) (m56_ok h3) (Nat.le_trans (by decide) hd) (Nat.zero_le _) (Nat.zero_le _) rfl ?_
      obtain ⟨q4, h6, h⟩ := Option.bind_eq_some_iff.mp h
      have kj5 : am_X xs L 68 d mc ms 33 [.ref 106, .int v1, .int v2, .int v3] [.int q4, .int v2] (am_mk D) 0 0 Q := by
        refine x_ar r68_33 rfl trivial rfl ?_
        obtain ⟨x11, e12, h⟩ := am_ltE h
        refine am_topI e12 ?_
        refine x_sto (lc' := [.ref 106, .int v1, .int x11, .int v3]) r68_34 rfl rfl rfl rfl ?_
        obtain ⟨x13, e14, h⟩ := am_ltE h
        refine x_sto (lc' := [.ref 106, .int v1, .int x11, .int x13]) r68_35 rfl rfl (by subst e14; rfl) rfl ?_
        refine x_goto r68_38 ?_
        exact x_forget (lc0 := [.ref 106, .int v1, .int x11, .int x13]) ⟨Or.inl rfl, Or.inl rfl, Or.inl rfl, Or.inl rfl, trivial⟩ (ih x11 x13 h k0)
      rcases am_ifE h6 with ⟨c7, h6⟩ | ⟨c7, h6⟩
      · refine x_ifeqT r68_17 c7 ?_
        refine x_ic (v := 0) r68_32 rfl rfl ?_
        cases h6
        exact kj5
      · refine x_ifeqF r68_17 c7 rfl ?_
        refine x_ld (v := .ref 106) r68_20 rfl rfl rfl ?_
        refine x_ld (v := .int v3) r68_21 rfl rfl rfl ?_
        obtain ⟨q8, h9, h6⟩ := Option.bind_eq_some_iff.mp h6
        refine x_call1 (as := [.ref 106, .int v3]) (rest := [.int v2]) r68_22 rfl rfl rfl (by decide) (Nat.le_of_ble_eq_true rfl) (m63_ok h9) (Nat.le_trans (by decide) hd) (Nat.zero_le _) (Nat.zero_le _) rfl ?_
        rcases am_ifE h6 with ⟨c10, h6⟩ | ⟨c10, h6⟩
        · refine x_ifeqT r68_25 c10 ?_
          refine x_ic (v := 0) r68_32 rfl rfl ?_
          cases h6
          exact kj5
        · refine x_ifeqF r68_25 c10 rfl ?_
          refine x_ic (v := 1) r68_28 rfl rfl ?_
          refine x_goto r68_29 ?_
          cases h6
          exact kj5
theorem m68_w {d mc ms : Nat} {N : Nat} {D : am_D} {v1 : Int32} {Q : am_O → am_AH → Prop} (hd : 6 ≤ d) {r : Int32} (h : m68 N D v1 = some r) (hQ : Q (.inl (some (.int r))) (am_mk D)) : am_X xs L 68 d mc ms 0 [.ref 106, .int v1, am_dead, am_dead] [] (am_mk D) 0 0 Q := by
  unfold m68 at h
  refine x_ic (v := 0) r68_0 rfl rfl ?_
  refine x_sto (lc' := [.ref 106, .int v1, .int (0 : Int32), am_dead]) r68_1 rfl rfl rfl rfl ?_
  refine x_ic (v := 0) r68_2 rfl rfl ?_
  refine x_sto (lc' := [.ref 106, .int v1, .int (0 : Int32), .int (0 : Int32)]) r68_3 rfl rfl rfl rfl ?_
  obtain ⟨q15, h16, h⟩ := Option.bind_eq_some_iff.mp h
  refine x_forget (lc0 := [.ref 106, .int v1, .int (0 : Int32), .int (0 : Int32)]) ⟨Or.inl rfl, Or.inl rfl, Or.inl rfl, Or.inl rfl, trivial⟩ (m68_L4_w hd N (0 : Int32) (0 : Int32) h16 ?_)
  refine x_ld (v := .int q15) r68_41 rfl rfl rfl ?_
  cases h
  exact x_ret (ret := some .int) (C := True) (v := some (.int _)) r68_42 rt68 rfl rfl rfl rfl rfl rfl rfl rfl trivial hQ
theorem m68_ok {N : Nat} {D : am_D} {v1 : Int32} {r : Int32} (h : m68 N D v1 = some r) : am_Y xs L 68 6 0 0 [.ref 106, .int v1] D (.inl (some (.int r))) D := am_Yof (mi := am_m68) (lc := [.ref 106, .int v1, am_dead, am_dead]) pg68 (Nat.le_of_ble_eq_true rfl) (am_rc1 (ci := 8) rfl rfl rfl rfl rfl) rfl (fun Q hQ => m68_w (Nat.le_refl _) h hQ)
theorem r69_0 : am_at 69 0 = some (.aload_n 0, 1, [0]) := by decide +kernel
theorem r69_1 : am_at 69 1 = some (.getfield 7, 3, [8, 1, 3, 1216]) := by decide +kernel
theorem r69_4 : am_at 69 4 = some (.iconst (0), 1, []) := by decide +kernel
theorem r69_5 : am_at 69 5 = some (.iaload, 1, []) := by decide +kernel
theorem r69_6 : am_at 69 6 = some (.iconst (1), 1, []) := by decide +kernel
theorem r69_7 : am_at 69 7 = some (.if_icmp .eq (5), 3, [12]) := by decide +kernel
theorem r69_10 : am_at 69 10 = some (.iconst (1), 1, []) := by decide +kernel
theorem r69_11 : am_at 69 11 = some (.ireturn, 1, []) := by decide +kernel
theorem r69_12 : am_at 69 12 = some (.aload_n 0, 1, [0]) := by decide +kernel
theorem r69_13 : am_at 69 13 = some (.getfield 7, 3, [8, 1, 3, 1216]) := by decide +kernel
theorem r69_16 : am_at 69 16 = some (.iconst (1), 1, []) := by decide +kernel
theorem r69_17 : am_at 69 17 = some (.iaload, 1, []) := by decide +kernel
theorem r69_18 : am_at 69 18 = some (.iload_n 1, 1, [1]) := by decide +kernel
theorem r69_19 : am_at 69 19 = some (.if_icmp .eq (7), 3, [26]) := by decide +kernel
theorem r69_22 : am_at 69 22 = some (.iconst (2), 1, []) := by decide +kernel
theorem r69_23 : am_at 69 23 = some (.goto (28), 3, [51]) := by decide +kernel
theorem r69_26 : am_at 69 26 = some (.aload_n 0, 1, [0]) := by decide +kernel
theorem r69_27 : am_at 69 27 = some (.getfield 7, 3, [8, 1, 3, 1216]) := by decide +kernel
theorem r69_30 : am_at 69 30 = some (.bipush (13), 2, []) := by decide +kernel
theorem r69_32 : am_at 69 32 = some (.iload_n 1, 1, [1]) := by decide +kernel
theorem r69_33 : am_at 69 33 = some (.iadd, 1, []) := by decide +kernel
theorem r69_34 : am_at 69 34 = some (.iaload, 1, []) := by decide +kernel
theorem r69_35 : am_at 69 35 = some (.ifCond .le (15), 3, [50]) := by decide +kernel
theorem r69_38 : am_at 69 38 = some (.aload_n 0, 1, [0]) := by decide +kernel
theorem r69_39 : am_at 69 39 = some (.iload_n 1, 1, [1]) := by decide +kernel
theorem r69_40 : am_at 69 40 = some (.invokevirtual 108, 3, [68, 2, 1429, 0]) := by decide +kernel
theorem r69_43 : am_at 69 43 = some (.ifCond .le (7), 3, [50]) := by decide +kernel
theorem r69_46 : am_at 69 46 = some (.iconst (3), 1, []) := by decide +kernel
theorem r69_47 : am_at 69 47 = some (.goto (4), 3, [51]) := by decide +kernel
theorem r69_50 : am_at 69 50 = some (.iconst (0), 1, []) := by decide +kernel
theorem r69_51 : am_at 69 51 = some (.ireturn, 1, []) := by decide +kernel
theorem rt69 : am_rtt 69 = some (some .int) := by decide +kernel
set_option maxRecDepth 100000 in
theorem pg69 : am_pg[69]? = some am_m69 := rfl
theorem m69_w {d mc ms : Nat} {N : Nat} {D : am_D} {v1 : Int32} {Q : am_O → am_AH → Prop} (hd : 7 ≤ d) {r : Int32} (h : m69 N D v1 = some r) (hQ : Q (.inl (some (.int r))) (am_mk D)) : am_X xs L 69 d mc ms 0 [.ref 106, .int v1] [] (am_mk D) 0 0 Q := by
  unfold m69 at h
  refine x_ld (v := .ref 106) r69_0 rfl rfl rfl ?_
  refine y_gf (cd := 109) (v := .ref 107) r69_1 rfl rfl rfl ?_
  refine x_ic (v := 0) r69_4 rfl rfl ?_
  refine y_ial (n := 1320) r69_5 rfl (by decide) (by decide) (e := 0) (by decide) rfl ?_
  refine x_ic (v := 1) r69_6 rfl rfl ?_
  rcases am_ifE h with ⟨c1, h⟩ | ⟨c1, h⟩
  · refine x_iceqT r69_7 c1 ?_
    refine x_ld (v := .ref 106) r69_12 rfl rfl rfl ?_
    refine y_gf (cd := 109) (v := .ref 107) r69_13 rfl rfl rfl ?_
    refine x_ic (v := 1) r69_16 rfl rfl ?_
    refine y_ial (n := 1320) r69_17 rfl (by decide) (by decide) (e := 1) (by decide) rfl ?_
    refine x_ld (v := .int v1) r69_18 rfl rfl rfl ?_
    rcases am_ifE h with ⟨c2, h⟩ | ⟨c2, h⟩
    · refine x_iceqT r69_19 c2 ?_
      refine x_ld (v := .ref 106) r69_26 rfl rfl rfl ?_
      refine y_gf (cd := 109) (v := .ref 107) r69_27 rfl rfl rfl ?_
      refine x_bi (v := 13) r69_30 rfl rfl ?_
      refine x_ld (v := .int v1) r69_32 rfl rfl rfl ?_
      refine x_ar r69_33 rfl trivial rfl ?_
      obtain ⟨g3, h⟩ := am_gdE h
      refine y_ial (n := 1320) r69_34 rfl (by decide) g3 rfl rfl ?_
      rcases am_ifE h with ⟨c4, h⟩ | ⟨c4, h⟩
      · refine x_ifleT r69_35 c4 ?_
        refine x_ic (v := 0) r69_50 rfl rfl ?_
        cases h
        exact x_ret (ret := some .int) (C := True) (v := some (.int _)) r69_51 rt69 rfl rfl rfl rfl rfl rfl rfl rfl trivial hQ
      · refine x_ifleF r69_35 c4 rfl ?_
        refine x_ld (v := .ref 106) r69_38 rfl rfl rfl ?_
        refine x_ld (v := .int v1) r69_39 rfl rfl rfl ?_
        obtain ⟨q5, h6, h⟩ := Option.bind_eq_some_iff.mp h
        refine x_call1 (as := [.ref 106, .int v1]) (rest := []) r69_40 rfl rfl rfl (by decide) (Nat.le_of_ble_eq_true rfl) (m68_ok h6) (Nat.le_trans (by decide) hd) (Nat.zero_le _) (Nat.zero_le _) rfl ?_
        rcases am_ifE h with ⟨c7, h⟩ | ⟨c7, h⟩
        · refine x_ifleT r69_43 c7 ?_
          refine x_ic (v := 0) r69_50 rfl rfl ?_
          cases h
          exact x_ret (ret := some .int) (C := True) (v := some (.int _)) r69_51 rt69 rfl rfl rfl rfl rfl rfl rfl rfl trivial hQ
        · refine x_ifleF r69_43 c7 rfl ?_
          refine x_ic (v := 3) r69_46 rfl rfl ?_
          refine x_goto r69_47 ?_
          cases h
          exact x_ret (ret := some .int) (C := True) (v := some (.int _)) r69_51 rt69 rfl rfl rfl rfl rfl rfl rfl rfl trivial hQ
    · refine x_iceqF r69_19 c2 rfl ?_
      refine x_ic (v := 2) r69_22 rfl rfl ?_
      refine x_goto r69_23 ?_
      cases h
      exact x_ret (ret := some .int) (C := True) (v := some (.int _)) r69_51 rt69 rfl rfl rfl rfl rfl rfl rfl rfl trivial hQ
  · refine x_iceqF r69_7 c1 rfl ?_
    refine x_ic (v := 1) r69_10 rfl rfl ?_
    cases h
    exact x_ret (ret := some .int) (C := True) (v := some (.int _)) r69_11 rt69 rfl rfl rfl rfl rfl rfl rfl rfl trivial hQ
theorem m69_ok {N : Nat} {D : am_D} {v1 : Int32} {r : Int32} (h : m69 N D v1 = some r) : am_Y xs L 69 7 0 0 [.ref 106, .int v1] D (.inl (some (.int r))) D := am_Yof (mi := am_m69) (lc := [.ref 106, .int v1]) pg69 (Nat.le_of_ble_eq_true rfl) (am_rc1 (ci := 8) rfl rfl rfl rfl rfl) rfl (fun Q hQ => m69_w (Nat.le_refl _) h hQ)
theorem r70_0 : am_at 70 0 = some (.aload_n 0, 1, [0]) := by decide +kernel
theorem r70_1 : am_at 70 1 = some (.getfield 7, 3, [8, 1, 3, 1216]) := by decide +kernel
theorem r70_4 : am_at 70 4 = some (.bipush (12), 2, []) := by decide +kernel
theorem r70_6 : am_at 70 6 = some (.iaload, 1, []) := by decide +kernel
theorem r70_7 : am_at 70 7 = some (.istore_n 3, 1, [3]) := by decide +kernel
theorem r70_8 : am_at 70 8 = some (.iload_n 3, 1, [3]) := by decide +kernel
theorem r70_9 : am_at 70 9 = some (.ifCond .ne (12), 3, [21]) := by decide +kernel
theorem r70_12 : am_at 70 12 = some (.aload_n 0, 1, [0]) := by decide +kernel
theorem r70_13 : am_at 70 13 = some (.getfield 16, 3, [8, 9, 3, 1224]) := by decide +kernel
theorem r70_16 : am_at 70 16 = some (.iload_n 1, 1, [1]) := by decide +kernel
theorem r70_17 : am_at 70 17 = some (.iaload, 1, []) := by decide +kernel
theorem r70_18 : am_at 70 18 = some (.goto (23), 3, [41]) := by decide +kernel
theorem r70_21 : am_at 70 21 = some (.iload_n 2, 1, [2]) := by decide +kernel
theorem r70_22 : am_at 70 22 = some (.ifCond .ne (15), 3, [37]) := by decide +kernel
theorem r70_25 : am_at 70 25 = some (.aload_n 0, 1, [0]) := by decide +kernel
theorem r70_26 : am_at 70 26 = some (.iload_n 1, 1, [1]) := by decide +kernel
theorem r70_27 : am_at 70 27 = some (.aload_n 0, 1, [0]) := by decide +kernel
theorem r70_28 : am_at 70 28 = some (.invokevirtual 84, 3, [59, 1, 1374, 0]) := by decide +kernel
theorem r70_31 : am_at 70 31 = some (.invokevirtual 77, 3, [54, 3, 1386, 0]) := by decide +kernel
theorem r70_34 : am_at 70 34 = some (.goto (7), 3, [41]) := by decide +kernel
theorem r70_37 : am_at 70 37 = some (.aload_n 0, 1, [0]) := by decide +kernel
theorem r70_38 : am_at 70 38 = some (.invokevirtual 88, 3, [61, 1, 1378, 0]) := by decide +kernel
theorem r70_41 : am_at 70 41 = some (.istore 4, 2, [4]) := by decide +kernel
theorem r70_43 : am_at 70 43 = some (.iload_n 3, 1, [3]) := by decide +kernel
theorem r70_44 : am_at 70 44 = some (.istore 5, 2, [5]) := by decide +kernel
theorem r70_46 : am_at 70 46 = some (.iload 5, 2, [5]) := by decide +kernel
theorem r70_48 : am_at 70 48 = some (.ifCond .le (59), 3, [107]) := by decide +kernel
theorem r70_51 : am_at 70 51 = some (.iload_n 2, 1, [2]) := by decide +kernel
theorem r70_52 : am_at 70 52 = some (.ifCond .ne (55), 3, [107]) := by decide +kernel
theorem r70_55 : am_at 70 55 = some (.aload_n 0, 1, [0]) := by decide +kernel
theorem r70_56 : am_at 70 56 = some (.getfield 7, 3, [8, 1, 3, 1216]) := by decide +kernel
theorem r70_59 : am_at 70 59 = some (.bipush (109), 2, []) := by decide +kernel
theorem r70_61 : am_at 70 61 = some (.iload 5, 2, [5]) := by decide +kernel
theorem r70_63 : am_at 70 63 = some (.iadd, 1, []) := by decide +kernel
theorem r70_64 : am_at 70 64 = some (.aload_n 0, 1, [0]) := by decide +kernel
theorem r70_65 : am_at 70 65 = some (.getfield 7, 3, [8, 1, 3, 1216]) := by decide +kernel
theorem r70_68 : am_at 70 68 = some (.bipush (109), 2, []) := by decide +kernel
theorem r70_70 : am_at 70 70 = some (.iload 5, 2, [5]) := by decide +kernel
theorem r70_72 : am_at 70 72 = some (.iadd, 1, []) := by decide +kernel
theorem r70_73 : am_at 70 73 = some (.iconst (1), 1, []) := by decide +kernel
theorem r70_74 : am_at 70 74 = some (.isub, 1, []) := by decide +kernel
theorem r70_75 : am_at 70 75 = some (.iaload, 1, []) := by decide +kernel
theorem r70_76 : am_at 70 76 = some (.iastore, 1, []) := by decide +kernel
theorem r70_77 : am_at 70 77 = some (.aload_n 0, 1, [0]) := by decide +kernel
theorem r70_78 : am_at 70 78 = some (.getfield 7, 3, [8, 1, 3, 1216]) := by decide +kernel
theorem r70_81 : am_at 70 81 = some (.sipush (137), 3, []) := by decide +kernel
theorem r70_84 : am_at 70 84 = some (.iload 5, 2, [5]) := by decide +kernel
theorem r70_86 : am_at 70 86 = some (.iadd, 1, []) := by decide +kernel
theorem r70_87 : am_at 70 87 = some (.aload_n 0, 1, [0]) := by decide +kernel
theorem r70_88 : am_at 70 88 = some (.getfield 7, 3, [8, 1, 3, 1216]) := by decide +kernel
theorem r70_91 : am_at 70 91 = some (.sipush (137), 3, []) := by decide +kernel
theorem r70_94 : am_at 70 94 = some (.iload 5, 2, [5]) := by decide +kernel
theorem r70_96 : am_at 70 96 = some (.iadd, 1, []) := by decide +kernel
theorem r70_97 : am_at 70 97 = some (.iconst (1), 1, []) := by decide +kernel
theorem r70_98 : am_at 70 98 = some (.isub, 1, []) := by decide +kernel
theorem r70_99 : am_at 70 99 = some (.iaload, 1, []) := by decide +kernel
theorem r70_100 : am_at 70 100 = some (.iastore, 1, []) := by decide +kernel
theorem r70_101 : am_at 70 101 = some (.iinc 5 (-1), 3, [5]) := by decide +kernel
theorem r70_104 : am_at 70 104 = some (.goto (-58), 3, [46]) := by decide +kernel
theorem r70_107 : am_at 70 107 = some (.iload_n 2, 1, [2]) := by decide +kernel
theorem r70_108 : am_at 70 108 = some (.ifCond .ne (7), 3, [115]) := by decide +kernel
theorem r70_111 : am_at 70 111 = some (.iconst (0), 1, []) := by decide +kernel
theorem r70_112 : am_at 70 112 = some (.goto (4), 3, [116]) := by decide +kernel
theorem r70_115 : am_at 70 115 = some (.iload_n 3, 1, [3]) := by decide +kernel
theorem r70_116 : am_at 70 116 = some (.istore 5, 2, [5]) := by decide +kernel
theorem r70_118 : am_at 70 118 = some (.aload_n 0, 1, [0]) := by decide +kernel
theorem r70_119 : am_at 70 119 = some (.getfield 7, 3, [8, 1, 3, 1216]) := by decide +kernel
theorem r70_122 : am_at 70 122 = some (.bipush (109), 2, []) := by decide +kernel
theorem r70_124 : am_at 70 124 = some (.iload 5, 2, [5]) := by decide +kernel
theorem r70_126 : am_at 70 126 = some (.iadd, 1, []) := by decide +kernel
theorem r70_127 : am_at 70 127 = some (.iload_n 1, 1, [1]) := by decide +kernel
theorem r70_128 : am_at 70 128 = some (.iastore, 1, []) := by decide +kernel
theorem r70_129 : am_at 70 129 = some (.aload_n 0, 1, [0]) := by decide +kernel
theorem r70_130 : am_at 70 130 = some (.getfield 7, 3, [8, 1, 3, 1216]) := by decide +kernel
theorem r70_133 : am_at 70 133 = some (.sipush (137), 3, []) := by decide +kernel
theorem r70_136 : am_at 70 136 = some (.iload 5, 2, [5]) := by decide +kernel
theorem r70_138 : am_at 70 138 = some (.iadd, 1, []) := by decide +kernel
theorem r70_139 : am_at 70 139 = some (.iload 4, 2, [4]) := by decide +kernel
theorem r70_141 : am_at 70 141 = some (.iastore, 1, []) := by decide +kernel
theorem r70_142 : am_at 70 142 = some (.aload_n 0, 1, [0]) := by decide +kernel
theorem r70_143 : am_at 70 143 = some (.getfield 7, 3, [8, 1, 3, 1216]) := by decide +kernel
theorem r70_146 : am_at 70 146 = some (.bipush (12), 2, []) := by decide +kernel
theorem r70_148 : am_at 70 148 = some (.dup2, 1, []) := by decide +kernel
theorem r70_149 : am_at 70 149 = some (.iaload, 1, []) := by decide +kernel
theorem r70_150 : am_at 70 150 = some (.iconst (1), 1, []) := by decide +kernel
theorem r70_151 : am_at 70 151 = some (.iadd, 1, []) := by decide +kernel
theorem r70_152 : am_at 70 152 = some (.iastore, 1, []) := by decide +kernel
theorem r70_153 : am_at 70 153 = some (.return_, 1, []) := by decide +kernel
theorem rt70 : am_rtt 70 = some (none) := by decide +kernel
set_option maxRecDepth 100000 in
theorem pg70 : am_pg[70]? = some am_m70 := rfl
theorem m70_L46_w {d : Nat} {N : Nat} {v1 : Int32} {v2 : Int32} {v3 : Int32} {v4 : Int32} {mc ms : Nat} {Q : am_O → am_AH → Prop} (hd : 4 ≤ d) : ∀ (n : Nat) (D : am_D) (v5 : Int32) {q : am_D} (h : m70_L46 N v1 v2 v3 v4  n D v5 = some q) (k0 : am_X xs L 70 d mc ms 107 [.ref 106, .int v1, .int v2, .int v3, .int v4, am_dead] [] (am_mk q) 0 0 Q), am_X xs L 70 d mc ms 46 [.ref 106, .int v1, .int v2, .int v3, .int v4, .int v5] [] (am_mk D) 0 0 Q := by
  intro n
  induction n with
  | zero =>
    intro D v5 q h k0
    exact (nomatch (show none = some q from h))
  | succ n ih =>
    intro D v5 q h k0
    rw [m70_L46] at h
    refine x_ld (v := .int v5) r70_46 rfl rfl rfl ?_
    rcases am_ifE h with ⟨c13, h⟩ | ⟨c13, h⟩
    · refine x_ifleT r70_48 c13 ?_
      refine x_forget (lc0 := [.ref 106, .int v1, .int v2, .int v3, .int v4, am_dead]) ⟨Or.inl rfl, Or.inl rfl, Or.inl rfl, Or.inl rfl, Or.inl rfl, Or.inr ⟨rfl, rfl⟩, trivial⟩ ?_
      cases h
      exact k0
    · refine x_ifleF r70_48 c13 rfl ?_
      refine x_ld (v := .int v2) r70_51 rfl rfl rfl ?_
      rcases am_ifE h with ⟨c14, h⟩ | ⟨c14, h⟩
      · refine x_ifneT r70_52 c14 rfl ?_
        refine x_ld (v := .ref 106) r70_55 rfl rfl rfl ?_
        refine y_gf (cd := 109) (v := .ref 107) r70_56 rfl rfl rfl ?_
        refine x_bi (v := 109) r70_59 rfl rfl ?_
        refine x_ld (v := .int v5) r70_61 rfl rfl rfl ?_
        refine x_ar r70_63 rfl trivial rfl ?_
        refine x_ld (v := .ref 106) r70_64 rfl rfl rfl ?_
        refine y_gf (cd := 109) (v := .ref 107) r70_65 rfl rfl rfl ?_
        refine x_bi (v := 109) r70_68 rfl rfl ?_
        refine x_ld (v := .int v5) r70_70 rfl rfl rfl ?_
        refine x_ar r70_72 rfl trivial rfl ?_
        refine x_ic (v := 1) r70_73 rfl rfl ?_
        refine x_ar r70_74 rfl trivial rfl ?_
        obtain ⟨g15, h⟩ := am_gdE h
        refine y_ial (n := 1320) r70_75 rfl (by decide) g15 rfl rfl ?_
        obtain ⟨g18, h⟩ := am_gdE h
        obtain ⟨D16, e17, h⟩ := am_ltE h
        refine y_ias (n := 1320) r70_76 rfl (by decide) g18 rfl e17 rfl ?_
        refine x_ld (v := .ref 106) r70_77 rfl rfl rfl ?_
        refine y_gf (cd := 109) (v := .ref 107) r70_78 rfl rfl rfl ?_
        refine x_si (v := 137) r70_81 rfl rfl ?_
        refine x_ld (v := .int v5) r70_84 rfl rfl rfl ?_
        refine x_ar r70_86 rfl trivial rfl ?_
        refine x_ld (v := .ref 106) r70_87 rfl rfl rfl ?_
        refine y_gf (cd := 109) (v := .ref 107) r70_88 rfl rfl rfl ?_
        refine x_si (v := 137) r70_91 rfl rfl ?_
        refine x_ld (v := .int v5) r70_94 rfl rfl rfl ?_
        refine x_ar r70_96 rfl trivial rfl ?_
        refine x_ic (v := 1) r70_97 rfl rfl ?_
        refine x_ar r70_98 rfl trivial rfl ?_
        obtain ⟨g19, h⟩ := am_gdE h
        refine y_ial (n := 1320) r70_99 rfl (by decide) g19 rfl rfl ?_
        obtain ⟨g22, h⟩ := am_gdE h
        obtain ⟨D20, e21, h⟩ := am_ltE h
        refine y_ias (n := 1320) r70_100 rfl (by decide) g22 rfl e21 rfl ?_
        obtain ⟨x23, e24, h⟩ := am_ltE h
        refine x_sto (lc' := [.ref 106, .int v1, .int v2, .int v3, .int v4, .int x23]) r70_101 rfl rfl (by subst e24; rfl) rfl ?_
        refine x_goto r70_104 ?_
        exact x_forget (lc0 := [.ref 106, .int v1, .int v2, .int v3, .int v4, .int x23]) ⟨Or.inl rfl, Or.inl rfl, Or.inl rfl, Or.inl rfl, Or.inl rfl, Or.inl rfl, trivial⟩ (ih D20 x23 h k0)
      · refine x_ifneF r70_52 c14 ?_
        refine x_forget (lc0 := [.ref 106, .int v1, .int v2, .int v3, .int v4, am_dead]) ⟨Or.inl rfl, Or.inl rfl, Or.inl rfl, Or.inl rfl, Or.inl rfl, Or.inr ⟨rfl, rfl⟩, trivial⟩ ?_
        cases h
        exact k0
theorem m70_w {d mc ms : Nat} {N : Nat} {D : am_D} {v1 : Int32} {v2 : Int32} {Q : am_O → am_AH → Prop} (hd : 4 ≤ d) {r : am_D} (h : m70 N D v1 v2 = some r) (hQ : Q (.inl none) (am_mk r)) : am_X xs L 70 d mc ms 0 [.ref 106, .int v1, .int v2, am_dead, am_dead, am_dead] [] (am_mk D) 0 0 Q := by
  unfold m70 at h
  refine x_ld (v := .ref 106) r70_0 rfl rfl rfl ?_
  refine y_gf (cd := 109) (v := .ref 107) r70_1 rfl rfl rfl ?_
  refine x_bi (v := 12) r70_4 rfl rfl ?_
  refine y_ial (n := 1320) r70_6 rfl (by decide) (by decide) (e := 12) (by decide) rfl ?_
  obtain ⟨x1, e2, h⟩ := am_ltE h
  refine am_topI e2 ?_
  refine x_sto (lc' := [.ref 106, .int v1, .int v2, .int x1, am_dead, am_dead]) r70_7 rfl rfl rfl rfl ?_
  refine x_ld (v := .int x1) r70_8 rfl rfl rfl ?_
  obtain ⟨q3, h5, h⟩ := Option.bind_eq_some_iff.mp h
  have kj4 : am_X xs L 70 d mc ms 41 [.ref 106, .int v1, .int v2, .int x1, am_dead, am_dead] [.int q3] (am_mk D) 0 0 Q := by
    refine x_sto (lc' := [.ref 106, .int v1, .int v2, .int x1, .int q3, am_dead]) r70_41 rfl rfl rfl rfl ?_
    refine x_ld (v := .int x1) r70_43 rfl rfl rfl ?_
    refine x_sto (lc' := [.ref 106, .int v1, .int v2, .int x1, .int q3, .int x1]) r70_44 rfl rfl rfl rfl ?_
    obtain ⟨q25, h26, h⟩ := Option.bind_eq_some_iff.mp h
    refine x_forget (lc0 := [.ref 106, .int v1, .int v2, .int x1, .int q3, .int x1]) ⟨Or.inl rfl, Or.inl rfl, Or.inl rfl, Or.inl rfl, Or.inl rfl, Or.inl rfl, trivial⟩ (m70_L46_w hd N D x1 h26 ?_)
    refine x_ld (v := .int v2) r70_107 rfl rfl rfl ?_
    obtain ⟨q27, h29, h⟩ := am_ltE h
    replace h29 := h29.symm
    have kj28 : am_X xs L 70 d mc ms 116 [.ref 106, .int v1, .int v2, .int x1, .int q3, am_dead] [.int q27] (am_mk q25) 0 0 Q := by
      refine x_sto (lc' := [.ref 106, .int v1, .int v2, .int x1, .int q3, .int q27]) r70_116 rfl rfl rfl rfl ?_
      refine x_ld (v := .ref 106) r70_118 rfl rfl rfl ?_
      refine y_gf (cd := 109) (v := .ref 107) r70_119 rfl rfl rfl ?_
      refine x_bi (v := 109) r70_122 rfl rfl ?_
      refine x_ld (v := .int q27) r70_124 rfl rfl rfl ?_
      refine x_ar r70_126 rfl trivial rfl ?_
      refine x_ld (v := .int v1) r70_127 rfl rfl rfl ?_
      obtain ⟨g33, h⟩ := am_gdE h
      obtain ⟨D31, e32, h⟩ := am_ltE h
      refine y_ias (n := 1320) r70_128 rfl (by decide) g33 rfl e32 rfl ?_
      refine x_ld (v := .ref 106) r70_129 rfl rfl rfl ?_
      refine y_gf (cd := 109) (v := .ref 107) r70_130 rfl rfl rfl ?_
      refine x_si (v := 137) r70_133 rfl rfl ?_
      refine x_ld (v := .int q27) r70_136 rfl rfl rfl ?_
      refine x_ar r70_138 rfl trivial rfl ?_
      refine x_ld (v := .int q3) r70_139 rfl rfl rfl ?_
      obtain ⟨g36, h⟩ := am_gdE h
      obtain ⟨D34, e35, h⟩ := am_ltE h
      refine y_ias (n := 1320) r70_141 rfl (by decide) g36 rfl e35 rfl ?_
      refine x_ld (v := .ref 106) r70_142 rfl rfl rfl ?_
      refine y_gf (cd := 109) (v := .ref 107) r70_143 rfl rfl rfl ?_
      refine x_bi (v := 12) r70_146 rfl rfl ?_
      refine x_ar r70_148 rfl trivial rfl ?_
      refine y_ial (n := 1320) r70_149 rfl (by decide) (by decide) (e := 12) (by decide) rfl ?_
      refine x_ic (v := 1) r70_150 rfl rfl ?_
      refine x_ar r70_151 rfl trivial rfl ?_
      obtain ⟨D37, e38, h⟩ := am_ltE h
      refine y_ias (n := 1320) r70_152 rfl (by decide) (by decide) (e := 12) (by decide) e38 rfl ?_
      cases h
      exact x_ret (ret := none) (C := True) (v := none) r70_153 rt70 rfl rfl rfl rfl rfl rfl rfl rfl trivial hQ
    rcases am_ifE h29 with ⟨c30, h29⟩ | ⟨c30, h29⟩
    · refine x_ifneT r70_108 c30 rfl ?_
      refine x_ic (v := 0) r70_111 rfl rfl ?_
      refine x_goto r70_112 ?_
      subst h29
      exact kj28
    · refine x_ifneF r70_108 c30 ?_
      refine x_ld (v := .int x1) r70_115 rfl rfl rfl ?_
      subst h29
      exact kj28
  rcases am_ifE h5 with ⟨c6, h5⟩ | ⟨c6, h5⟩
  · refine x_ifneT r70_9 c6 rfl ?_
    refine x_ld (v := .ref 106) r70_12 rfl rfl rfl ?_
    refine y_gf (cd := 111) (v := .ref 109) r70_13 rfl rfl rfl ?_
    refine x_ld (v := .int v1) r70_16 rfl rfl rfl ?_
    obtain ⟨g7, h5⟩ := am_gdE h5
    refine y_ial (n := 28) r70_17 rfl (by decide) g7 rfl rfl ?_
    refine x_goto r70_18 ?_
    cases h5
    exact kj4
  · refine x_ifneF r70_9 c6 ?_
    refine x_ld (v := .int v2) r70_21 rfl rfl rfl ?_
    rcases am_ifE h5 with ⟨c8, h5⟩ | ⟨c8, h5⟩
    · refine x_ifneT r70_22 c8 rfl ?_
      refine x_ld (v := .ref 106) r70_25 rfl rfl rfl ?_
      refine x_ld (v := .int v1) r70_26 rfl rfl rfl ?_
      refine x_ld (v := .ref 106) r70_27 rfl rfl rfl ?_
      refine x_call1 (as := [.ref 106]) (rest := [.int v1, .ref 106]) r70_28 rfl rfl rfl (by decide) (Nat.le_of_ble_eq_true rfl) (m59_ok rfl) (Nat.le_trans (by decide) hd) (Nat.zero_le _) (Nat.zero_le _) rfl ?_
      obtain ⟨q9, h10, h5⟩ := Option.bind_eq_some_iff.mp h5
      refine x_call1 (as := [.ref 106, .int v1, .int (m59 D)]) (rest := []) r70_31 rfl rfl rfl (by decide) (Nat.le_of_ble_eq_true rfl) (m54_ok h10) (Nat.le_trans (by decide) hd) (Nat.zero_le _) (Nat.zero_le _) rfl ?_
      refine x_goto r70_34 ?_
      cases h5
      exact kj4
    · refine x_ifneF r70_22 c8 ?_
      refine x_ld (v := .ref 106) r70_37 rfl rfl rfl ?_
      obtain ⟨q11, h12, h5⟩ := Option.bind_eq_some_iff.mp h5
      refine x_call1 (as := [.ref 106]) (rest := []) r70_38 rfl rfl rfl (by decide) (Nat.le_of_ble_eq_true rfl) (m61_ok h12) (Nat.le_trans (by decide) hd) (Nat.zero_le _) (Nat.zero_le _) rfl ?_
      cases h5
      exact kj4
theorem m70_ok {N : Nat} {D : am_D} {v1 : Int32} {v2 : Int32} {r : am_D} (h : m70 N D v1 v2 = some r) : am_Y xs L 70 4 0 0 [.ref 106, .int v1, .int v2] D (.inl none) r := am_Yof (mi := am_m70) (lc := [.ref 106, .int v1, .int v2, am_dead, am_dead, am_dead]) pg70 (Nat.le_of_ble_eq_true rfl) (am_rc1 (ci := 8) rfl rfl rfl rfl rfl) rfl (fun Q hQ => m70_w (Nat.le_refl _) h hQ)
theorem r71_0 : am_at 71 0 = some (.aload_n 0, 1, [0]) := by decide +kernel
theorem r71_1 : am_at 71 1 = some (.iload_n 2, 1, [2]) := by decide +kernel
theorem r71_2 : am_at 71 2 = some (.iload_n 3, 1, [3]) := by decide +kernel
theorem r71_3 : am_at 71 3 = some (.invokevirtual 111, 3, [70, 3, 1402, 0]) := by decide +kernel
theorem r71_6 : am_at 71 6 = some (.aload_n 0, 1, [0]) := by decide +kernel
theorem r71_7 : am_at 71 7 = some (.getfield 7, 3, [8, 1, 3, 1216]) := by decide +kernel
theorem r71_10 : am_at 71 10 = some (.bipush (25), 2, []) := by decide +kernel
theorem r71_12 : am_at 71 12 = some (.iload_n 2, 1, [2]) := by decide +kernel
theorem r71_13 : am_at 71 13 = some (.iadd, 1, []) := by decide +kernel
theorem r71_14 : am_at 71 14 = some (.iconst (4), 1, []) := by decide +kernel
theorem r71_15 : am_at 71 15 = some (.iastore, 1, []) := by decide +kernel
theorem r71_16 : am_at 71 16 = some (.aload_n 0, 1, [0]) := by decide +kernel
theorem r71_17 : am_at 71 17 = some (.getfield 7, 3, [8, 1, 3, 1216]) := by decide +kernel
theorem r71_20 : am_at 71 20 = some (.bipush (53), 2, []) := by decide +kernel
theorem r71_22 : am_at 71 22 = some (.iload_n 2, 1, [2]) := by decide +kernel
theorem r71_23 : am_at 71 23 = some (.iadd, 1, []) := by decide +kernel
theorem r71_24 : am_at 71 24 = some (.iload_n 1, 1, [1]) := by decide +kernel
theorem r71_25 : am_at 71 25 = some (.iastore, 1, []) := by decide +kernel
theorem r71_26 : am_at 71 26 = some (.aload_n 0, 1, [0]) := by decide +kernel
theorem r71_27 : am_at 71 27 = some (.getfield 7, 3, [8, 1, 3, 1216]) := by decide +kernel
theorem r71_30 : am_at 71 30 = some (.bipush (81), 2, []) := by decide +kernel
theorem r71_32 : am_at 71 32 = some (.iload_n 2, 1, [2]) := by decide +kernel
theorem r71_33 : am_at 71 33 = some (.iadd, 1, []) := by decide +kernel
theorem r71_34 : am_at 71 34 = some (.aload_n 0, 1, [0]) := by decide +kernel
theorem r71_35 : am_at 71 35 = some (.getfield 7, 3, [8, 1, 3, 1216]) := by decide +kernel
theorem r71_38 : am_at 71 38 = some (.bipush (12), 2, []) := by decide +kernel
theorem r71_40 : am_at 71 40 = some (.iaload, 1, []) := by decide +kernel
theorem r71_41 : am_at 71 41 = some (.iastore, 1, []) := by decide +kernel
theorem r71_42 : am_at 71 42 = some (.aload_n 0, 1, [0]) := by decide +kernel
theorem r71_43 : am_at 71 43 = some (.getfield 7, 3, [8, 1, 3, 1216]) := by decide +kernel
theorem r71_46 : am_at 71 46 = some (.bipush (9), 2, []) := by decide +kernel
theorem r71_48 : am_at 71 48 = some (.dup2, 1, []) := by decide +kernel
theorem r71_49 : am_at 71 49 = some (.iaload, 1, []) := by decide +kernel
theorem r71_50 : am_at 71 50 = some (.iconst (1), 1, []) := by decide +kernel
theorem r71_51 : am_at 71 51 = some (.iadd, 1, []) := by decide +kernel
theorem r71_52 : am_at 71 52 = some (.iastore, 1, []) := by decide +kernel
theorem r71_53 : am_at 71 53 = some (.aload_n 0, 1, [0]) := by decide +kernel
theorem r71_54 : am_at 71 54 = some (.getfield 7, 3, [8, 1, 3, 1216]) := by decide +kernel
theorem r71_57 : am_at 71 57 = some (.iconst (5), 1, []) := by decide +kernel
theorem r71_58 : am_at 71 58 = some (.iload_n 1, 1, [1]) := by decide +kernel
theorem r71_59 : am_at 71 59 = some (.iastore, 1, []) := by decide +kernel
theorem r71_60 : am_at 71 60 = some (.aload_n 0, 1, [0]) := by decide +kernel
theorem r71_61 : am_at 71 61 = some (.getfield 7, 3, [8, 1, 3, 1216]) := by decide +kernel
theorem r71_64 : am_at 71 64 = some (.iconst (4), 1, []) := by decide +kernel
theorem r71_65 : am_at 71 65 = some (.iconst (0), 1, []) := by decide +kernel
theorem r71_66 : am_at 71 66 = some (.iastore, 1, []) := by decide +kernel
theorem r71_67 : am_at 71 67 = some (.aload_n 0, 1, [0]) := by decide +kernel
theorem r71_68 : am_at 71 68 = some (.invokevirtual 115, 3, [64, 1, 1406, 0]) := by decide +kernel
theorem r71_71 : am_at 71 71 = some (.invokestatic 118, 3, [65, 1, 1414, 0]) := by decide +kernel
theorem r71_74 : am_at 71 74 = some (.istore 4, 2, [4]) := by decide +kernel
theorem r71_76 : am_at 71 76 = some (.aload_n 0, 1, [0]) := by decide +kernel
theorem r71_77 : am_at 71 77 = some (.iload_n 1, 1, [1]) := by decide +kernel
theorem r71_78 : am_at 71 78 = some (.invokevirtual 121, 3, [57, 2, 1319, 0]) := by decide +kernel
theorem r71_81 : am_at 71 81 = some (.ifCond .ne (40), 3, [121]) := by decide +kernel
theorem r71_84 : am_at 71 84 = some (.aload_n 0, 1, [0]) := by decide +kernel
theorem r71_85 : am_at 71 85 = some (.getfield 7, 3, [8, 1, 3, 1216]) := by decide +kernel
theorem r71_88 : am_at 71 88 = some (.iconst (0), 1, []) := by decide +kernel
theorem r71_89 : am_at 71 89 = some (.iconst (2), 1, []) := by decide +kernel
theorem r71_90 : am_at 71 90 = some (.iastore, 1, []) := by decide +kernel
theorem r71_91 : am_at 71 91 = some (.iload 4, 2, [4]) := by decide +kernel
theorem r71_93 : am_at 71 93 = some (.aload_n 0, 1, [0]) := by decide +kernel
theorem r71_94 : am_at 71 94 = some (.iconst (0), 1, []) := by decide +kernel
theorem r71_95 : am_at 71 95 = some (.invokevirtual 124, 3, [58, 2, 1417, 0]) := by decide +kernel
theorem r71_98 : am_at 71 98 = some (.aload_n 0, 1, [0]) := by decide +kernel
theorem r71_99 : am_at 71 99 = some (.iconst (1), 1, []) := by decide +kernel
theorem r71_100 : am_at 71 100 = some (.invokevirtual 124, 3, [58, 2, 1417, 0]) := by decide +kernel
theorem r71_103 : am_at 71 103 = some (.iadd, 1, []) := by decide +kernel
theorem r71_104 : am_at 71 104 = some (.aload_n 0, 1, [0]) := by decide +kernel
theorem r71_105 : am_at 71 105 = some (.iconst (2), 1, []) := by decide +kernel
theorem r71_106 : am_at 71 106 = some (.invokevirtual 124, 3, [58, 2, 1417, 0]) := by decide +kernel
theorem r71_109 : am_at 71 109 = some (.iadd, 1, []) := by decide +kernel
theorem r71_110 : am_at 71 110 = some (.aload_n 0, 1, [0]) := by decide +kernel
theorem r71_111 : am_at 71 111 = some (.iconst (3), 1, []) := by decide +kernel
theorem r71_112 : am_at 71 112 = some (.invokevirtual 124, 3, [58, 2, 1417, 0]) := by decide +kernel
theorem r71_115 : am_at 71 115 = some (.iadd, 1, []) := by decide +kernel
theorem r71_116 : am_at 71 116 = some (.iconst (5), 1, []) := by decide +kernel
theorem r71_117 : am_at 71 117 = some (.idiv, 1, []) := by decide +kernel
theorem r71_118 : am_at 71 118 = some (.iadd, 1, []) := by decide +kernel
theorem r71_119 : am_at 71 119 = some (.istore 4, 2, [4]) := by decide +kernel
theorem r71_121 : am_at 71 121 = some (.aload_n 0, 1, [0]) := by decide +kernel
theorem r71_122 : am_at 71 122 = some (.getfield 7, 3, [8, 1, 3, 1216]) := by decide +kernel
theorem r71_125 : am_at 71 125 = some (.bipush (6), 2, []) := by decide +kernel
theorem r71_127 : am_at 71 127 = some (.iload_n 1, 1, [1]) := by decide +kernel
theorem r71_128 : am_at 71 128 = some (.iconst (2), 1, []) := by decide +kernel
theorem r71_129 : am_at 71 129 = some (.irem, 1, []) := by decide +kernel
theorem r71_130 : am_at 71 130 = some (.iadd, 1, []) := by decide +kernel
theorem r71_131 : am_at 71 131 = some (.dup2, 1, []) := by decide +kernel
theorem r71_132 : am_at 71 132 = some (.iaload, 1, []) := by decide +kernel
theorem r71_133 : am_at 71 133 = some (.iload 4, 2, [4]) := by decide +kernel
theorem r71_135 : am_at 71 135 = some (.iadd, 1, []) := by decide +kernel
theorem r71_136 : am_at 71 136 = some (.iastore, 1, []) := by decide +kernel
theorem r71_137 : am_at 71 137 = some (.aload_n 0, 1, [0]) := by decide +kernel
theorem r71_138 : am_at 71 138 = some (.getfield 7, 3, [8, 1, 3, 1216]) := by decide +kernel
theorem r71_141 : am_at 71 141 = some (.iconst (1), 1, []) := by decide +kernel
theorem r71_142 : am_at 71 142 = some (.iload_n 1, 1, [1]) := by decide +kernel
theorem r71_143 : am_at 71 143 = some (.iconst (1), 1, []) := by decide +kernel
theorem r71_144 : am_at 71 144 = some (.iadd, 1, []) := by decide +kernel
theorem r71_145 : am_at 71 145 = some (.iconst (4), 1, []) := by decide +kernel
theorem r71_146 : am_at 71 146 = some (.irem, 1, []) := by decide +kernel
theorem r71_147 : am_at 71 147 = some (.iastore, 1, []) := by decide +kernel
theorem r71_148 : am_at 71 148 = some (.iload 4, 2, [4]) := by decide +kernel
theorem r71_150 : am_at 71 150 = some (.ireturn, 1, []) := by decide +kernel
theorem rt71 : am_rtt 71 = some (some .int) := by decide +kernel
set_option maxRecDepth 100000 in
theorem pg71 : am_pg[71]? = some am_m71 := rfl
theorem m71_w {d mc ms : Nat} {N : Nat} {D : am_D} {v1 : Int32} {v2 : Int32} {v3 : Int32} {Q : am_O → am_AH → Prop} (hd : 5 ≤ d) {r : Int32 × am_D} (h : m71 N D v1 v2 v3 = some r) (hQ : Q (.inl (some (.int r.1))) (am_mk r.2)) : am_X xs L 71 d mc ms 0 [.ref 106, .int v1, .int v2, .int v3, am_dead] [] (am_mk D) 0 0 Q := by
  unfold m71 at h
  refine x_ld (v := .ref 106) r71_0 rfl rfl rfl ?_
  refine x_ld (v := .int v2) r71_1 rfl rfl rfl ?_
  refine x_ld (v := .int v3) r71_2 rfl rfl rfl ?_
  obtain ⟨q1, h2, h⟩ := Option.bind_eq_some_iff.mp h
  refine x_call0 (as := [.ref 106, .int v2, .int v3]) (rest := []) r71_3 rfl rfl rfl (by decide) (Nat.le_of_ble_eq_true rfl) (m70_ok h2) (Nat.le_trans (by decide) hd) (Nat.zero_le _) (Nat.zero_le _) rfl ?_
  refine x_ld (v := .ref 106) r71_6 rfl rfl rfl ?_
  refine y_gf (cd := 109) (v := .ref 107) r71_7 rfl rfl rfl ?_
  refine x_bi (v := 25) r71_10 rfl rfl ?_
  refine x_ld (v := .int v2) r71_12 rfl rfl rfl ?_
  refine x_ar r71_13 rfl trivial rfl ?_
  refine x_ic (v := 4) r71_14 rfl rfl ?_
  obtain ⟨g5, h⟩ := am_gdE h
  obtain ⟨D3, e4, h⟩ := am_ltE h
  refine y_ias (n := 1320) r71_15 rfl (by decide) g5 rfl e4 rfl ?_
  refine x_ld (v := .ref 106) r71_16 rfl rfl rfl ?_
  refine y_gf (cd := 109) (v := .ref 107) r71_17 rfl rfl rfl ?_
  refine x_bi (v := 53) r71_20 rfl rfl ?_
  refine x_ld (v := .int v2) r71_22 rfl rfl rfl ?_
  refine x_ar r71_23 rfl trivial rfl ?_
  refine x_ld (v := .int v1) r71_24 rfl rfl rfl ?_
  obtain ⟨g8, h⟩ := am_gdE h
  obtain ⟨D6, e7, h⟩ := am_ltE h
  refine y_ias (n := 1320) r71_25 rfl (by decide) g8 rfl e7 rfl ?_
  refine x_ld (v := .ref 106) r71_26 rfl rfl rfl ?_
  refine y_gf (cd := 109) (v := .ref 107) r71_27 rfl rfl rfl ?_
  refine x_bi (v := 81) r71_30 rfl rfl ?_
  refine x_ld (v := .int v2) r71_32 rfl rfl rfl ?_
  refine x_ar r71_33 rfl trivial rfl ?_
  refine x_ld (v := .ref 106) r71_34 rfl rfl rfl ?_
  refine y_gf (cd := 109) (v := .ref 107) r71_35 rfl rfl rfl ?_
  refine x_bi (v := 12) r71_38 rfl rfl ?_
  refine y_ial (n := 1320) r71_40 rfl (by decide) (by decide) (e := 12) (by decide) rfl ?_
  obtain ⟨g11, h⟩ := am_gdE h
  obtain ⟨D9, e10, h⟩ := am_ltE h
  refine y_ias (n := 1320) r71_41 rfl (by decide) g11 rfl e10 rfl ?_
  refine x_ld (v := .ref 106) r71_42 rfl rfl rfl ?_
  refine y_gf (cd := 109) (v := .ref 107) r71_43 rfl rfl rfl ?_
  refine x_bi (v := 9) r71_46 rfl rfl ?_
  refine x_ar r71_48 rfl trivial rfl ?_
  refine y_ial (n := 1320) r71_49 rfl (by decide) (by decide) (e := 9) (by decide) rfl ?_
  refine x_ic (v := 1) r71_50 rfl rfl ?_
  refine x_ar r71_51 rfl trivial rfl ?_
  obtain ⟨D12, e13, h⟩ := am_ltE h
  refine y_ias (n := 1320) r71_52 rfl (by decide) (by decide) (e := 9) (by decide) e13 rfl ?_
  refine x_ld (v := .ref 106) r71_53 rfl rfl rfl ?_
  refine y_gf (cd := 109) (v := .ref 107) r71_54 rfl rfl rfl ?_
  refine x_ic (v := 5) r71_57 rfl rfl ?_
  refine x_ld (v := .int v1) r71_58 rfl rfl rfl ?_
  obtain ⟨D14, e15, h⟩ := am_ltE h
  refine y_ias (n := 1320) r71_59 rfl (by decide) (by decide) (e := 5) (by decide) e15 rfl ?_
  refine x_ld (v := .ref 106) r71_60 rfl rfl rfl ?_
  refine y_gf (cd := 109) (v := .ref 107) r71_61 rfl rfl rfl ?_
  refine x_ic (v := 4) r71_64 rfl rfl ?_
  refine x_ic (v := 0) r71_65 rfl rfl ?_
  obtain ⟨D16, e17, h⟩ := am_ltE h
  refine y_ias (n := 1320) r71_66 rfl (by decide) (by decide) (e := 4) (by decide) e17 rfl ?_
  refine x_ld (v := .ref 106) r71_67 rfl rfl rfl ?_
  obtain ⟨q18, h19, h⟩ := Option.bind_eq_some_iff.mp h
  refine x_call1 (as := [.ref 106]) (rest := []) r71_68 rfl rfl rfl (by decide) (Nat.le_of_ble_eq_true rfl) (m64_ok h19) (Nat.le_trans (by decide) hd) (Nat.zero_le _) (Nat.zero_le _) rfl ?_
  refine x_call1 (as := [.int q18]) (rest := []) r71_71 rfl rfl rfl (by decide) (Nat.le_of_ble_eq_true rfl) (m65_ok rfl) (Nat.le_trans (by decide) hd) (Nat.zero_le _) (Nat.zero_le _) rfl ?_
  obtain ⟨x20, e21, h⟩ := am_ltE h
  refine am_topI e21 ?_
  refine x_sto (lc' := [.ref 106, .int v1, .int v2, .int v3, .int x20]) r71_74 rfl rfl rfl rfl ?_
  refine x_ld (v := .ref 106) r71_76 rfl rfl rfl ?_
  refine x_ld (v := .int v1) r71_77 rfl rfl rfl ?_
  obtain ⟨q22, h23, h⟩ := Option.bind_eq_some_iff.mp h
  refine x_call1 (as := [.ref 106, .int v1]) (rest := []) r71_78 rfl rfl rfl (by decide) (Nat.le_of_ble_eq_true rfl) (m57_ok h23) (Nat.le_trans (by decide) hd) (Nat.zero_le _) (Nat.zero_le _) rfl ?_
  obtain ⟨q24, h26, h⟩ := Option.bind_eq_some_iff.mp h
  have kj25 : am_X xs L 71 d mc ms 121 [.ref 106, .int v1, .int v2, .int v3, .int q24.1] [] (am_mk q24.2) 0 0 Q := by
    refine x_ld (v := .ref 106) r71_121 rfl rfl rfl ?_
    refine y_gf (cd := 109) (v := .ref 107) r71_122 rfl rfl rfl ?_
    refine x_bi (v := 6) r71_125 rfl rfl ?_
    refine x_ld (v := .int v1) r71_127 rfl rfl rfl ?_
    refine x_ic (v := 2) r71_128 rfl rfl ?_
    refine x_ar r71_129 rfl (by decide) rfl ?_
    refine x_ar r71_130 rfl trivial rfl ?_
    refine x_ar r71_131 rfl trivial rfl ?_
    obtain ⟨g40, h⟩ := am_gdE h
    refine y_ial (n := 1320) r71_132 rfl (by decide) g40 rfl rfl ?_
    refine x_ld (v := .int q24.1) r71_133 rfl rfl rfl ?_
    refine x_ar r71_135 rfl trivial rfl ?_
    obtain ⟨g43, h⟩ := am_gdE h
    obtain ⟨D41, e42, h⟩ := am_ltE h
    refine y_ias (n := 1320) r71_136 rfl (by decide) g43 rfl e42 rfl ?_
    refine x_ld (v := .ref 106) r71_137 rfl rfl rfl ?_
    refine y_gf (cd := 109) (v := .ref 107) r71_138 rfl rfl rfl ?_
    refine x_ic (v := 1) r71_141 rfl rfl ?_
    refine x_ld (v := .int v1) r71_142 rfl rfl rfl ?_
    refine x_ic (v := 1) r71_143 rfl rfl ?_
    refine x_ar r71_144 rfl trivial rfl ?_
    refine x_ic (v := 4) r71_145 rfl rfl ?_
    refine x_ar r71_146 rfl (by decide) rfl ?_
    obtain ⟨D44, e45, h⟩ := am_ltE h
    refine y_ias (n := 1320) r71_147 rfl (by decide) (by decide) (e := 1) (by decide) e45 rfl ?_
    refine x_ld (v := .int q24.1) r71_148 rfl rfl rfl ?_
    cases h
    exact x_ret (ret := some .int) (C := True) (v := some (.int _)) r71_150 rt71 rfl rfl rfl rfl rfl rfl rfl rfl trivial hQ
  rcases am_ifE h26 with ⟨c27, h26⟩ | ⟨c27, h26⟩
  · refine x_ifneT r71_81 c27 rfl ?_
    refine x_ld (v := .ref 106) r71_84 rfl rfl rfl ?_
    refine y_gf (cd := 109) (v := .ref 107) r71_85 rfl rfl rfl ?_
    refine x_ic (v := 0) r71_88 rfl rfl ?_
    refine x_ic (v := 2) r71_89 rfl rfl ?_
    obtain ⟨D28, e29, h26⟩ := am_ltE h26
    refine y_ias (n := 1320) r71_90 rfl (by decide) (by decide) (e := 0) (by decide) e29 rfl ?_
    refine x_ld (v := .int x20) r71_91 rfl rfl rfl ?_
    refine x_ld (v := .ref 106) r71_93 rfl rfl rfl ?_
    refine x_ic (v := 0) r71_94 rfl rfl ?_
    obtain ⟨q30, h31, h26⟩ := Option.bind_eq_some_iff.mp h26
    refine x_call1 (as := [.ref 106, .int (0 : Int32)]) (rest := [.int x20]) r71_95 rfl rfl rfl (by decide) (Nat.le_of_ble_eq_true rfl) (m58_ok h31) (Nat.le_trans (by decide) hd) (Nat.zero_le _) (Nat.zero_le _) rfl ?_
    refine x_ld (v := .ref 106) r71_98 rfl rfl rfl ?_
    refine x_ic (v := 1) r71_99 rfl rfl ?_
    obtain ⟨q32, h33, h26⟩ := Option.bind_eq_some_iff.mp h26
    refine x_call1 (as := [.ref 106, .int (1 : Int32)]) (rest := [.int q30, .int x20]) r71_100 rfl rfl rfl (by decide) (Nat.le_of_ble_eq_true rfl) (m58_ok h33) (Nat.le_trans (by decide) hd) (Nat.zero_le _) (Nat.zero_le _) rfl ?_
    refine x_ar r71_103 rfl trivial rfl ?_
    refine x_ld (v := .ref 106) r71_104 rfl rfl rfl ?_
    refine x_ic (v := 2) r71_105 rfl rfl ?_
    obtain ⟨q34, h35, h26⟩ := Option.bind_eq_some_iff.mp h26
    refine x_call1 (as := [.ref 106, .int (2 : Int32)]) (rest := [.int (q30 + q32), .int x20]) r71_106 rfl rfl rfl (by decide) (Nat.le_of_ble_eq_true rfl) (m58_ok h35) (Nat.le_trans (by decide) hd) (Nat.zero_le _) (Nat.zero_le _) rfl ?_
    refine x_ar r71_109 rfl trivial rfl ?_
    refine x_ld (v := .ref 106) r71_110 rfl rfl rfl ?_
    refine x_ic (v := 3) r71_111 rfl rfl ?_
    obtain ⟨q36, h37, h26⟩ := Option.bind_eq_some_iff.mp h26
    refine x_call1 (as := [.ref 106, .int (3 : Int32)]) (rest := [.int ((q30 + q32) + q34), .int x20]) r71_112 rfl rfl rfl (by decide) (Nat.le_of_ble_eq_true rfl) (m58_ok h37) (Nat.le_trans (by decide) hd) (Nat.zero_le _) (Nat.zero_le _) rfl ?_
    refine x_ar r71_115 rfl trivial rfl ?_
    refine x_ic (v := 5) r71_116 rfl rfl ?_
    refine x_ar r71_117 rfl (by decide) rfl ?_
    refine x_ar r71_118 rfl trivial rfl ?_
    obtain ⟨x38, e39, h26⟩ := am_ltE h26
    refine am_topI e39 ?_
    refine x_sto (lc' := [.ref 106, .int v1, .int v2, .int v3, .int x38]) r71_119 rfl rfl rfl rfl ?_
    cases h26
    exact kj25
  · refine x_ifneF r71_81 c27 ?_
    cases h26
    exact kj25
theorem m71_ok {N : Nat} {D : am_D} {v1 : Int32} {v2 : Int32} {v3 : Int32} {r : Int32 × am_D} (h : m71 N D v1 v2 v3 = some r) : am_Y xs L 71 5 0 0 [.ref 106, .int v1, .int v2, .int v3] D (.inl (some (.int r.1))) r.2 := am_Yof (mi := am_m71) (lc := [.ref 106, .int v1, .int v2, .int v3, am_dead]) pg71 (Nat.le_of_ble_eq_true rfl) (am_rc1 (ci := 8) rfl rfl rfl rfl rfl) rfl (fun Q hQ => m71_w (Nat.le_refl _) h hQ)
theorem r72_0 : am_at 72 0 = some (.aload_n 0, 1, [0]) := by decide +kernel
theorem r72_1 : am_at 72 1 = some (.getfield 7, 3, [8, 1, 3, 1216]) := by decide +kernel
theorem r72_4 : am_at 72 4 = some (.bipush (13), 2, []) := by decide +kernel
theorem r72_6 : am_at 72 6 = some (.iload_n 1, 1, [1]) := by decide +kernel
theorem r72_7 : am_at 72 7 = some (.iadd, 1, []) := by decide +kernel
theorem r72_8 : am_at 72 8 = some (.iaload, 1, []) := by decide +kernel
theorem r72_9 : am_at 72 9 = some (.ifCond .le (28), 3, [37]) := by decide +kernel
theorem r72_12 : am_at 72 12 = some (.aload_n 0, 1, [0]) := by decide +kernel
theorem r72_13 : am_at 72 13 = some (.getfield 7, 3, [8, 1, 3, 1216]) := by decide +kernel
theorem r72_16 : am_at 72 16 = some (.bipush (17), 2, []) := by decide +kernel
theorem r72_18 : am_at 72 18 = some (.iload_n 1, 1, [1]) := by decide +kernel
theorem r72_19 : am_at 72 19 = some (.iadd, 1, []) := by decide +kernel
theorem r72_20 : am_at 72 20 = some (.dup2, 1, []) := by decide +kernel
theorem r72_21 : am_at 72 21 = some (.iaload, 1, []) := by decide +kernel
theorem r72_22 : am_at 72 22 = some (.iconst (1), 1, []) := by decide +kernel
theorem r72_23 : am_at 72 23 = some (.aload_n 0, 1, [0]) := by decide +kernel
theorem r72_24 : am_at 72 24 = some (.invokevirtual 84, 3, [59, 1, 1374, 0]) := by decide +kernel
theorem r72_27 : am_at 72 27 = some (.ishl, 1, []) := by decide +kernel
theorem r72_28 : am_at 72 28 = some (.iconst (1), 1, []) := by decide +kernel
theorem r72_29 : am_at 72 29 = some (.aload_n 0, 1, [0]) := by decide +kernel
theorem r72_30 : am_at 72 30 = some (.invokevirtual 88, 3, [61, 1, 1378, 0]) := by decide +kernel
theorem r72_33 : am_at 72 33 = some (.ishl, 1, []) := by decide +kernel
theorem r72_34 : am_at 72 34 = some (.ior, 1, []) := by decide +kernel
theorem r72_35 : am_at 72 35 = some (.ior, 1, []) := by decide +kernel
theorem r72_36 : am_at 72 36 = some (.iastore, 1, []) := by decide +kernel
theorem r72_37 : am_at 72 37 = some (.aload_n 0, 1, [0]) := by decide +kernel
theorem r72_38 : am_at 72 38 = some (.getfield 7, 3, [8, 1, 3, 1216]) := by decide +kernel
theorem r72_41 : am_at 72 41 = some (.bipush (21), 2, []) := by decide +kernel
theorem r72_43 : am_at 72 43 = some (.iload_n 1, 1, [1]) := by decide +kernel
theorem r72_44 : am_at 72 44 = some (.iadd, 1, []) := by decide +kernel
theorem r72_45 : am_at 72 45 = some (.dup2, 1, []) := by decide +kernel
theorem r72_46 : am_at 72 46 = some (.iaload, 1, []) := by decide +kernel
theorem r72_47 : am_at 72 47 = some (.iconst (1), 1, []) := by decide +kernel
theorem r72_48 : am_at 72 48 = some (.iadd, 1, []) := by decide +kernel
theorem r72_49 : am_at 72 49 = some (.iastore, 1, []) := by decide +kernel
theorem r72_50 : am_at 72 50 = some (.aload_n 0, 1, [0]) := by decide +kernel
theorem r72_51 : am_at 72 51 = some (.getfield 7, 3, [8, 1, 3, 1216]) := by decide +kernel
theorem r72_54 : am_at 72 54 = some (.bipush (10), 2, []) := by decide +kernel
theorem r72_56 : am_at 72 56 = some (.dup2, 1, []) := by decide +kernel
theorem r72_57 : am_at 72 57 = some (.iaload, 1, []) := by decide +kernel
theorem r72_58 : am_at 72 58 = some (.iconst (1), 1, []) := by decide +kernel
theorem r72_59 : am_at 72 59 = some (.iadd, 1, []) := by decide +kernel
theorem r72_60 : am_at 72 60 = some (.iastore, 1, []) := by decide +kernel
theorem r72_61 : am_at 72 61 = some (.aload_n 0, 1, [0]) := by decide +kernel
theorem r72_62 : am_at 72 62 = some (.getfield 7, 3, [8, 1, 3, 1216]) := by decide +kernel
theorem r72_65 : am_at 72 65 = some (.iconst (4), 1, []) := by decide +kernel
theorem r72_66 : am_at 72 66 = some (.dup2, 1, []) := by decide +kernel
theorem r72_67 : am_at 72 67 = some (.iaload, 1, []) := by decide +kernel
theorem r72_68 : am_at 72 68 = some (.iconst (1), 1, []) := by decide +kernel
theorem r72_69 : am_at 72 69 = some (.iadd, 1, []) := by decide +kernel
theorem r72_70 : am_at 72 70 = some (.iastore, 1, []) := by decide +kernel
theorem r72_71 : am_at 72 71 = some (.aload_n 0, 1, [0]) := by decide +kernel
theorem r72_72 : am_at 72 72 = some (.getfield 7, 3, [8, 1, 3, 1216]) := by decide +kernel
theorem r72_75 : am_at 72 75 = some (.iconst (1), 1, []) := by decide +kernel
theorem r72_76 : am_at 72 76 = some (.iload_n 1, 1, [1]) := by decide +kernel
theorem r72_77 : am_at 72 77 = some (.iconst (1), 1, []) := by decide +kernel
theorem r72_78 : am_at 72 78 = some (.iadd, 1, []) := by decide +kernel
theorem r72_79 : am_at 72 79 = some (.iconst (4), 1, []) := by decide +kernel
theorem r72_80 : am_at 72 80 = some (.irem, 1, []) := by decide +kernel
theorem r72_81 : am_at 72 81 = some (.iastore, 1, []) := by decide +kernel
theorem r72_82 : am_at 72 82 = some (.aload_n 0, 1, [0]) := by decide +kernel
theorem r72_83 : am_at 72 83 = some (.getfield 7, 3, [8, 1, 3, 1216]) := by decide +kernel
theorem r72_86 : am_at 72 86 = some (.iconst (4), 1, []) := by decide +kernel
theorem r72_87 : am_at 72 87 = some (.iaload, 1, []) := by decide +kernel
theorem r72_88 : am_at 72 88 = some (.iconst (4), 1, []) := by decide +kernel
theorem r72_89 : am_at 72 89 = some (.if_icmp .ne (77), 3, [166]) := by decide +kernel
theorem r72_92 : am_at 72 92 = some (.aload_n 0, 1, [0]) := by decide +kernel
theorem r72_93 : am_at 72 93 = some (.iconst (0), 1, []) := by decide +kernel
theorem r72_94 : am_at 72 94 = some (.invokevirtual 124, 3, [58, 2, 1417, 0]) := by decide +kernel
theorem r72_97 : am_at 72 97 = some (.aload_n 0, 1, [0]) := by decide +kernel
theorem r72_98 : am_at 72 98 = some (.iconst (2), 1, []) := by decide +kernel
theorem r72_99 : am_at 72 99 = some (.invokevirtual 124, 3, [58, 2, 1417, 0]) := by decide +kernel
theorem r72_102 : am_at 72 102 = some (.iadd, 1, []) := by decide +kernel
theorem r72_103 : am_at 72 103 = some (.aload_n 0, 1, [0]) := by decide +kernel
theorem r72_104 : am_at 72 104 = some (.iconst (1), 1, []) := by decide +kernel
theorem r72_105 : am_at 72 105 = some (.invokevirtual 124, 3, [58, 2, 1417, 0]) := by decide +kernel
theorem r72_108 : am_at 72 108 = some (.isub, 1, []) := by decide +kernel
theorem r72_109 : am_at 72 109 = some (.aload_n 0, 1, [0]) := by decide +kernel
theorem r72_110 : am_at 72 110 = some (.iconst (3), 1, []) := by decide +kernel
theorem r72_111 : am_at 72 111 = some (.invokevirtual 124, 3, [58, 2, 1417, 0]) := by decide +kernel
theorem r72_114 : am_at 72 114 = some (.isub, 1, []) := by decide +kernel
theorem r72_115 : am_at 72 115 = some (.istore_n 2, 1, [2]) := by decide +kernel
theorem r72_116 : am_at 72 116 = some (.aload_n 0, 1, [0]) := by decide +kernel
theorem r72_117 : am_at 72 117 = some (.getfield 7, 3, [8, 1, 3, 1216]) := by decide +kernel
theorem r72_120 : am_at 72 120 = some (.iconst (0), 1, []) := by decide +kernel
theorem r72_121 : am_at 72 121 = some (.iconst (2), 1, []) := by decide +kernel
theorem r72_122 : am_at 72 122 = some (.iastore, 1, []) := by decide +kernel
theorem r72_123 : am_at 72 123 = some (.aload_n 0, 1, [0]) := by decide +kernel
theorem r72_124 : am_at 72 124 = some (.getfield 7, 3, [8, 1, 3, 1216]) := by decide +kernel
theorem r72_127 : am_at 72 127 = some (.bipush (6), 2, []) := by decide +kernel
theorem r72_129 : am_at 72 129 = some (.dup2, 1, []) := by decide +kernel
theorem r72_130 : am_at 72 130 = some (.iaload, 1, []) := by decide +kernel
theorem r72_131 : am_at 72 131 = some (.iload_n 2, 1, [2]) := by decide +kernel
theorem r72_132 : am_at 72 132 = some (.ifCond .ge (10), 3, [142]) := by decide +kernel
theorem r72_135 : am_at 72 135 = some (.iload_n 2, 1, [2]) := by decide +kernel
theorem r72_136 : am_at 72 136 = some (.ineg, 1, []) := by decide +kernel
theorem r72_137 : am_at 72 137 = some (.iconst (5), 1, []) := by decide +kernel
theorem r72_138 : am_at 72 138 = some (.idiv, 1, []) := by decide +kernel
theorem r72_139 : am_at 72 139 = some (.goto (4), 3, [143]) := by decide +kernel
theorem r72_142 : am_at 72 142 = some (.iconst (0), 1, []) := by decide +kernel
theorem r72_143 : am_at 72 143 = some (.iadd, 1, []) := by decide +kernel
theorem r72_144 : am_at 72 144 = some (.iastore, 1, []) := by decide +kernel
theorem r72_145 : am_at 72 145 = some (.aload_n 0, 1, [0]) := by decide +kernel
theorem r72_146 : am_at 72 146 = some (.getfield 7, 3, [8, 1, 3, 1216]) := by decide +kernel
theorem r72_149 : am_at 72 149 = some (.bipush (7), 2, []) := by decide +kernel
theorem r72_151 : am_at 72 151 = some (.dup2, 1, []) := by decide +kernel
theorem r72_152 : am_at 72 152 = some (.iaload, 1, []) := by decide +kernel
theorem r72_153 : am_at 72 153 = some (.iload_n 2, 1, [2]) := by decide +kernel
theorem r72_154 : am_at 72 154 = some (.ifCond .le (9), 3, [163]) := by decide +kernel
theorem r72_157 : am_at 72 157 = some (.iload_n 2, 1, [2]) := by decide +kernel
theorem r72_158 : am_at 72 158 = some (.iconst (5), 1, []) := by decide +kernel
theorem r72_159 : am_at 72 159 = some (.idiv, 1, []) := by decide +kernel
theorem r72_160 : am_at 72 160 = some (.goto (4), 3, [164]) := by decide +kernel
theorem r72_163 : am_at 72 163 = some (.iconst (0), 1, []) := by decide +kernel
theorem r72_164 : am_at 72 164 = some (.iadd, 1, []) := by decide +kernel
theorem r72_165 : am_at 72 165 = some (.iastore, 1, []) := by decide +kernel
theorem r72_166 : am_at 72 166 = some (.aload_n 0, 1, [0]) := by decide +kernel
theorem r72_167 : am_at 72 167 = some (.getfield 7, 3, [8, 1, 3, 1216]) := by decide +kernel
theorem r72_170 : am_at 72 170 = some (.iconst (4), 1, []) := by decide +kernel
theorem r72_171 : am_at 72 171 = some (.iaload, 1, []) := by decide +kernel
theorem r72_172 : am_at 72 172 = some (.ireturn, 1, []) := by decide +kernel
theorem rt72 : am_rtt 72 = some (some .int) := by decide +kernel
set_option maxRecDepth 100000 in
theorem pg72 : am_pg[72]? = some am_m72 := rfl
theorem m72_w {d mc ms : Nat} {N : Nat} {D : am_D} {v1 : Int32} {Q : am_O → am_AH → Prop} (hd : 4 ≤ d) {r : Int32 × am_D} (h : m72 N D v1 = some r) (hQ : Q (.inl (some (.int r.1))) (am_mk r.2)) : am_X xs L 72 d mc ms 0 [.ref 106, .int v1, am_dead] [] (am_mk D) 0 0 Q := by
  unfold m72 at h
  refine x_ld (v := .ref 106) r72_0 rfl rfl rfl ?_
  refine y_gf (cd := 109) (v := .ref 107) r72_1 rfl rfl rfl ?_
  refine x_bi (v := 13) r72_4 rfl rfl ?_
  refine x_ld (v := .int v1) r72_6 rfl rfl rfl ?_
  refine x_ar r72_7 rfl trivial rfl ?_
  obtain ⟨g1, h⟩ := am_gdE h
  refine y_ial (n := 1320) r72_8 rfl (by decide) g1 rfl rfl ?_
  obtain ⟨q2, h4, h⟩ := Option.bind_eq_some_iff.mp h
  have kj3 : am_X xs L 72 d mc ms 37 [.ref 106, .int v1, am_dead] [] (am_mk q2) 0 0 Q := by
    refine x_ld (v := .ref 106) r72_37 rfl rfl rfl ?_
    refine y_gf (cd := 109) (v := .ref 107) r72_38 rfl rfl rfl ?_
    refine x_bi (v := 21) r72_41 rfl rfl ?_
    refine x_ld (v := .int v1) r72_43 rfl rfl rfl ?_
    refine x_ar r72_44 rfl trivial rfl ?_
    refine x_ar r72_45 rfl trivial rfl ?_
    obtain ⟨g12, h⟩ := am_gdE h
    refine y_ial (n := 1320) r72_46 rfl (by decide) g12 rfl rfl ?_
    refine x_ic (v := 1) r72_47 rfl rfl ?_
    refine x_ar r72_48 rfl trivial rfl ?_
    obtain ⟨g15, h⟩ := am_gdE h
    obtain ⟨D13, e14, h⟩ := am_ltE h
    refine y_ias (n := 1320) r72_49 rfl (by decide) g15 rfl e14 rfl ?_
    refine x_ld (v := .ref 106) r72_50 rfl rfl rfl ?_
    refine y_gf (cd := 109) (v := .ref 107) r72_51 rfl rfl rfl ?_
    refine x_bi (v := 10) r72_54 rfl rfl ?_
    refine x_ar r72_56 rfl trivial rfl ?_
    refine y_ial (n := 1320) r72_57 rfl (by decide) (by decide) (e := 10) (by decide) rfl ?_
    refine x_ic (v := 1) r72_58 rfl rfl ?_
    refine x_ar r72_59 rfl trivial rfl ?_
    obtain ⟨D16, e17, h⟩ := am_ltE h
    refine y_ias (n := 1320) r72_60 rfl (by decide) (by decide) (e := 10) (by decide) e17 rfl ?_
    refine x_ld (v := .ref 106) r72_61 rfl rfl rfl ?_
    refine y_gf (cd := 109) (v := .ref 107) r72_62 rfl rfl rfl ?_
    refine x_ic (v := 4) r72_65 rfl rfl ?_
    refine x_ar r72_66 rfl trivial rfl ?_
    refine y_ial (n := 1320) r72_67 rfl (by decide) (by decide) (e := 4) (by decide) rfl ?_
    refine x_ic (v := 1) r72_68 rfl rfl ?_
    refine x_ar r72_69 rfl trivial rfl ?_
    obtain ⟨D18, e19, h⟩ := am_ltE h
    refine y_ias (n := 1320) r72_70 rfl (by decide) (by decide) (e := 4) (by decide) e19 rfl ?_
    refine x_ld (v := .ref 106) r72_71 rfl rfl rfl ?_
    refine y_gf (cd := 109) (v := .ref 107) r72_72 rfl rfl rfl ?_
    refine x_ic (v := 1) r72_75 rfl rfl ?_
    refine x_ld (v := .int v1) r72_76 rfl rfl rfl ?_
    refine x_ic (v := 1) r72_77 rfl rfl ?_
    refine x_ar r72_78 rfl trivial rfl ?_
    refine x_ic (v := 4) r72_79 rfl rfl ?_
    refine x_ar r72_80 rfl (by decide) rfl ?_
    obtain ⟨D20, e21, h⟩ := am_ltE h
    refine y_ias (n := 1320) r72_81 rfl (by decide) (by decide) (e := 1) (by decide) e21 rfl ?_
    refine x_ld (v := .ref 106) r72_82 rfl rfl rfl ?_
    refine y_gf (cd := 109) (v := .ref 107) r72_83 rfl rfl rfl ?_
    refine x_ic (v := 4) r72_86 rfl rfl ?_
    refine y_ial (n := 1320) r72_87 rfl (by decide) (by decide) (e := 4) (by decide) rfl ?_
    refine x_ic (v := 4) r72_88 rfl rfl ?_
    obtain ⟨q22, h24, h⟩ := Option.bind_eq_some_iff.mp h
    have kj23 : am_X xs L 72 d mc ms 166 [.ref 106, .int v1, am_dead] [] (am_mk q22) 0 0 Q := by
      refine x_ld (v := .ref 106) r72_166 rfl rfl rfl ?_
      refine y_gf (cd := 109) (v := .ref 107) r72_167 rfl rfl rfl ?_
      refine x_ic (v := 4) r72_170 rfl rfl ?_
      refine y_ial (n := 1320) r72_171 rfl (by decide) (by decide) (e := 4) (by decide) rfl ?_
      cases h
      exact x_ret (ret := some .int) (C := True) (v := some (.int _)) r72_172 rt72 rfl rfl rfl rfl rfl rfl rfl rfl trivial hQ
    rcases am_ifE h24 with ⟨c25, h24⟩ | ⟨c25, h24⟩
    · refine x_icneT r72_89 c25 rfl ?_
      refine x_ld (v := .ref 106) r72_92 rfl rfl rfl ?_
      refine x_ic (v := 0) r72_93 rfl rfl ?_
      obtain ⟨q26, h27, h24⟩ := Option.bind_eq_some_iff.mp h24
      refine x_call1 (as := [.ref 106, .int (0 : Int32)]) (rest := []) r72_94 rfl rfl rfl (by decide) (Nat.le_of_ble_eq_true rfl) (m58_ok h27) (Nat.le_trans (by decide) hd) (Nat.zero_le _) (Nat.zero_le _) rfl ?_
      refine x_ld (v := .ref 106) r72_97 rfl rfl rfl ?_
      refine x_ic (v := 2) r72_98 rfl rfl ?_
      obtain ⟨q28, h29, h24⟩ := Option.bind_eq_some_iff.mp h24
      refine x_call1 (as := [.ref 106, .int (2 : Int32)]) (rest := [.int q26]) r72_99 rfl rfl rfl (by decide) (Nat.le_of_ble_eq_true rfl) (m58_ok h29) (Nat.le_trans (by decide) hd) (Nat.zero_le _) (Nat.zero_le _) rfl ?_
      refine x_ar r72_102 rfl trivial rfl ?_
      refine x_ld (v := .ref 106) r72_103 rfl rfl rfl ?_
      refine x_ic (v := 1) r72_104 rfl rfl ?_
      obtain ⟨q30, h31, h24⟩ := Option.bind_eq_some_iff.mp h24
      refine x_call1 (as := [.ref 106, .int (1 : Int32)]) (rest := [.int (q26 + q28)]) r72_105 rfl rfl rfl (by decide) (Nat.le_of_ble_eq_true rfl) (m58_ok h31) (Nat.le_trans (by decide) hd) (Nat.zero_le _) (Nat.zero_le _) rfl ?_
      refine x_ar r72_108 rfl trivial rfl ?_
      refine x_ld (v := .ref 106) r72_109 rfl rfl rfl ?_
      refine x_ic (v := 3) r72_110 rfl rfl ?_
      obtain ⟨q32, h33, h24⟩ := Option.bind_eq_some_iff.mp h24
      refine x_call1 (as := [.ref 106, .int (3 : Int32)]) (rest := [.int ((q26 + q28) - q30)]) r72_111 rfl rfl rfl (by decide) (Nat.le_of_ble_eq_true rfl) (m58_ok h33) (Nat.le_trans (by decide) hd) (Nat.zero_le _) (Nat.zero_le _) rfl ?_
      refine x_ar r72_114 rfl trivial rfl ?_
      obtain ⟨x34, e35, h24⟩ := am_ltE h24
      refine am_topI e35 ?_
      refine x_sto (lc' := [.ref 106, .int v1, .int x34]) r72_115 rfl rfl rfl rfl ?_
      refine x_ld (v := .ref 106) r72_116 rfl rfl rfl ?_
      refine y_gf (cd := 109) (v := .ref 107) r72_117 rfl rfl rfl ?_
      refine x_ic (v := 0) r72_120 rfl rfl ?_
      refine x_ic (v := 2) r72_121 rfl rfl ?_
      obtain ⟨D36, e37, h24⟩ := am_ltE h24
      refine y_ias (n := 1320) r72_122 rfl (by decide) (by decide) (e := 0) (by decide) e37 rfl ?_
      refine x_ld (v := .ref 106) r72_123 rfl rfl rfl ?_
      refine y_gf (cd := 109) (v := .ref 107) r72_124 rfl rfl rfl ?_
      refine x_bi (v := 6) r72_127 rfl rfl ?_
      refine x_ar r72_129 rfl trivial rfl ?_
      refine y_ial (n := 1320) r72_130 rfl (by decide) (by decide) (e := 6) (by decide) rfl ?_
      refine x_ld (v := .int x34) r72_131 rfl rfl rfl ?_
      obtain ⟨q38, h40, h24⟩ := am_ltE h24
      replace h40 := h40.symm
      have kj39 : am_X xs L 72 d mc ms 143 [.ref 106, .int v1, .int x34] [.int q38, .int (D36.1 107 6), .int (6 : Int32), .ref 107] (am_mk D36) 0 0 Q := by
        refine x_ar r72_143 rfl trivial rfl ?_
        obtain ⟨D42, e43, h24⟩ := am_ltE h24
        refine y_ias (n := 1320) r72_144 rfl (by decide) (by decide) (e := 6) (by decide) e43 rfl ?_
        refine x_ld (v := .ref 106) r72_145 rfl rfl rfl ?_
        refine y_gf (cd := 109) (v := .ref 107) r72_146 rfl rfl rfl ?_
        refine x_bi (v := 7) r72_149 rfl rfl ?_
        refine x_ar r72_151 rfl trivial rfl ?_
        refine y_ial (n := 1320) r72_152 rfl (by decide) (by decide) (e := 7) (by decide) rfl ?_
        refine x_ld (v := .int x34) r72_153 rfl rfl rfl ?_
        obtain ⟨q44, h46, h24⟩ := am_ltE h24
        replace h46 := h46.symm
        have kj45 : am_X xs L 72 d mc ms 164 [.ref 106, .int v1, .int x34] [.int q44, .int (D42.1 107 7), .int (7 : Int32), .ref 107] (am_mk D42) 0 0 Q := by
          refine x_ar r72_164 rfl trivial rfl ?_
          obtain ⟨D48, e49, h24⟩ := am_ltE h24
          refine y_ias (n := 1320) r72_165 rfl (by decide) (by decide) (e := 7) (by decide) e49 rfl ?_
          refine x_forget (lc0 := [.ref 106, .int v1, am_dead]) ⟨Or.inl rfl, Or.inl rfl, Or.inr ⟨rfl, rfl⟩, trivial⟩ ?_
          cases h24
          exact kj23
        rcases am_ifE h46 with ⟨c47, h46⟩ | ⟨c47, h46⟩
        · refine x_ifleT r72_154 c47 ?_
          refine x_ic (v := 0) r72_163 rfl rfl ?_
          subst h46
          exact kj45
        · refine x_ifleF r72_154 c47 rfl ?_
          refine x_ld (v := .int x34) r72_157 rfl rfl rfl ?_
          refine x_ic (v := 5) r72_158 rfl rfl ?_
          refine x_ar r72_159 rfl (by decide) rfl ?_
          refine x_goto r72_160 ?_
          subst h46
          exact kj45
      rcases am_ifE h40 with ⟨c41, h40⟩ | ⟨c41, h40⟩
      · refine x_ifgeT r72_132 c41 ?_
        refine x_ic (v := 0) r72_142 rfl rfl ?_
        subst h40
        exact kj39
      · refine x_ifgeF r72_132 c41 rfl ?_
        refine x_ld (v := .int x34) r72_135 rfl rfl rfl ?_
        refine x_ar r72_136 rfl trivial rfl ?_
        refine x_ic (v := 5) r72_137 rfl rfl ?_
        refine x_ar r72_138 rfl (by decide) rfl ?_
        refine x_goto r72_139 ?_
        subst h40
        exact kj39
    · refine x_icneF r72_89 c25 ?_
      cases h24
      exact kj23
  rcases am_ifE h4 with ⟨c5, h4⟩ | ⟨c5, h4⟩
  · refine x_ifleT r72_9 c5 ?_
    cases h4
    exact kj3
  · refine x_ifleF r72_9 c5 rfl ?_
    refine x_ld (v := .ref 106) r72_12 rfl rfl rfl ?_
    refine y_gf (cd := 109) (v := .ref 107) r72_13 rfl rfl rfl ?_
    refine x_bi (v := 17) r72_16 rfl rfl ?_
    refine x_ld (v := .int v1) r72_18 rfl rfl rfl ?_
    refine x_ar r72_19 rfl trivial rfl ?_
    refine x_ar r72_20 rfl trivial rfl ?_
    obtain ⟨g6, h4⟩ := am_gdE h4
    refine y_ial (n := 1320) r72_21 rfl (by decide) g6 rfl rfl ?_
    refine x_ic (v := 1) r72_22 rfl rfl ?_
    refine x_ld (v := .ref 106) r72_23 rfl rfl rfl ?_
    refine x_call1 (as := [.ref 106]) (rest := [.int (1 : Int32), .int (D.1 107 (((17 : Int32) + v1)).toNatClampNeg), .int ((17 : Int32) + v1), .ref 107]) r72_24 rfl rfl rfl (by decide) (Nat.le_of_ble_eq_true rfl) (m59_ok rfl) (Nat.le_trans (by decide) hd) (Nat.zero_le _) (Nat.zero_le _) rfl ?_
    refine x_ar r72_27 rfl trivial rfl ?_
    refine x_ic (v := 1) r72_28 rfl rfl ?_
    refine x_ld (v := .ref 106) r72_29 rfl rfl rfl ?_
    obtain ⟨q7, h8, h4⟩ := Option.bind_eq_some_iff.mp h4
    refine x_call1 (as := [.ref 106]) (rest := [.int (1 : Int32), .int ((1 : Int32) <<< ((m59 D) &&& 31)), .int (D.1 107 (((17 : Int32) + v1)).toNatClampNeg), .int ((17 : Int32) + v1), .ref 107]) r72_30 rfl rfl rfl (by decide) (Nat.le_of_ble_eq_true rfl) (m61_ok h8) (Nat.le_trans (by decide) hd) (Nat.zero_le _) (Nat.zero_le _) rfl ?_
    refine x_ar r72_33 rfl trivial rfl ?_
    refine x_ar r72_34 rfl trivial rfl ?_
    refine x_ar r72_35 rfl trivial rfl ?_
    obtain ⟨g11, h4⟩ := am_gdE h4
    obtain ⟨D9, e10, h4⟩ := am_ltE h4
    refine y_ias (n := 1320) r72_36 rfl (by decide) g11 rfl e10 rfl ?_
    cases h4
    exact kj3
theorem m72_ok {N : Nat} {D : am_D} {v1 : Int32} {r : Int32 × am_D} (h : m72 N D v1 = some r) : am_Y xs L 72 4 0 0 [.ref 106, .int v1] D (.inl (some (.int r.1))) r.2 := am_Yof (mi := am_m72) (lc := [.ref 106, .int v1, am_dead]) pg72 (Nat.le_of_ble_eq_true rfl) (am_rc1 (ci := 8) rfl rfl rfl rfl rfl) rfl (fun Q hQ => m72_w (Nat.le_refl _) h hQ)
theorem r73_0 : am_at 73 0 = some (.aload_n 0, 1, [0]) := by decide +kernel
theorem r73_1 : am_at 73 1 = some (.getfield 7, 3, [8, 1, 3, 1216]) := by decide +kernel
theorem r73_4 : am_at 73 4 = some (.iconst (2), 1, []) := by decide +kernel
theorem r73_5 : am_at 73 5 = some (.aload_n 0, 1, [0]) := by decide +kernel
theorem r73_6 : am_at 73 6 = some (.getfield 7, 3, [8, 1, 3, 1216]) := by decide +kernel
theorem r73_9 : am_at 73 9 = some (.iconst (2), 1, []) := by decide +kernel
theorem r73_10 : am_at 73 10 = some (.iaload, 1, []) := by decide +kernel
theorem r73_11 : am_at 73 11 = some (.iload_n 1, 1, [1]) := by decide +kernel
theorem r73_12 : am_at 73 12 = some (.iconst (1), 1, []) := by decide +kernel
theorem r73_13 : am_at 73 13 = some (.if_icmp .ne (7), 3, [20]) := by decide +kernel
theorem r73_16 : am_at 73 16 = some (.iconst (1), 1, []) := by decide +kernel
theorem r73_17 : am_at 73 17 = some (.goto (4), 3, [21]) := by decide +kernel
theorem r73_20 : am_at 73 20 = some (.iconst (3), 1, []) := by decide +kernel
theorem r73_21 : am_at 73 21 = some (.iadd, 1, []) := by decide +kernel
theorem r73_22 : am_at 73 22 = some (.iconst (4), 1, []) := by decide +kernel
theorem r73_23 : am_at 73 23 = some (.irem, 1, []) := by decide +kernel
theorem r73_24 : am_at 73 24 = some (.iastore, 1, []) := by decide +kernel
theorem r73_25 : am_at 73 25 = some (.aload_n 0, 1, [0]) := by decide +kernel
theorem r73_26 : am_at 73 26 = some (.getfield 7, 3, [8, 1, 3, 1216]) := by decide +kernel
theorem r73_29 : am_at 73 29 = some (.bipush (11), 2, []) := by decide +kernel
theorem r73_31 : am_at 73 31 = some (.dup2, 1, []) := by decide +kernel
theorem r73_32 : am_at 73 32 = some (.iaload, 1, []) := by decide +kernel
theorem r73_33 : am_at 73 33 = some (.iconst (1), 1, []) := by decide +kernel
theorem r73_34 : am_at 73 34 = some (.iadd, 1, []) := by decide +kernel
theorem r73_35 : am_at 73 35 = some (.iastore, 1, []) := by decide +kernel
theorem r73_36 : am_at 73 36 = some (.aload_n 0, 1, [0]) := by decide +kernel
theorem r73_37 : am_at 73 37 = some (.getfield 7, 3, [8, 1, 3, 1216]) := by decide +kernel
theorem r73_40 : am_at 73 40 = some (.iconst (2), 1, []) := by decide +kernel
theorem r73_41 : am_at 73 41 = some (.iaload, 1, []) := by decide +kernel
theorem r73_42 : am_at 73 42 = some (.ireturn, 1, []) := by decide +kernel
theorem rt73 : am_rtt 73 = some (some .int) := by decide +kernel
set_option maxRecDepth 100000 in
theorem pg73 : am_pg[73]? = some am_m73 := rfl
theorem m73_w {d mc ms : Nat} {D : am_D} {v1 : Int32} {Q : am_O → am_AH → Prop} (hd : 1 ≤ d) {r : Int32 × am_D} (h : m73 D v1 = r) (hQ : Q (.inl (some (.int r.1))) (am_mk r.2)) : am_X xs L 73 d mc ms 0 [.ref 106, .int v1] [] (am_mk D) 0 0 Q := by
  unfold m73 at h
  refine x_ld (v := .ref 106) r73_0 rfl rfl rfl ?_
  refine y_gf (cd := 109) (v := .ref 107) r73_1 rfl rfl rfl ?_
  refine x_ic (v := 2) r73_4 rfl rfl ?_
  refine x_ld (v := .ref 106) r73_5 rfl rfl rfl ?_
  refine y_gf (cd := 109) (v := .ref 107) r73_6 rfl rfl rfl ?_
  refine x_ic (v := 2) r73_9 rfl rfl ?_
  refine y_ial (n := 1320) r73_10 rfl (by decide) (by decide) (e := 2) (by decide) rfl ?_
  refine x_ld (v := .int v1) r73_11 rfl rfl rfl ?_
  refine x_ic (v := 1) r73_12 rfl rfl ?_
  obtain ⟨q1, h3, h⟩ := am_ltE h
  replace h3 := h3.symm
  have kj2 : am_X xs L 73 d mc ms 21 [.ref 106, .int v1] [.int q1, .int (D.1 107 2), .int (2 : Int32), .ref 107] (am_mk D) 0 0 Q := by
    refine x_ar r73_21 rfl trivial rfl ?_
    refine x_ic (v := 4) r73_22 rfl rfl ?_
    refine x_ar r73_23 rfl (by decide) rfl ?_
    obtain ⟨D5, e6, h⟩ := am_ltE h
    refine y_ias (n := 1320) r73_24 rfl (by decide) (by decide) (e := 2) (by decide) e6 rfl ?_
    refine x_ld (v := .ref 106) r73_25 rfl rfl rfl ?_
    refine y_gf (cd := 109) (v := .ref 107) r73_26 rfl rfl rfl ?_
    refine x_bi (v := 11) r73_29 rfl rfl ?_
    refine x_ar r73_31 rfl trivial rfl ?_
    refine y_ial (n := 1320) r73_32 rfl (by decide) (by decide) (e := 11) (by decide) rfl ?_
    refine x_ic (v := 1) r73_33 rfl rfl ?_
    refine x_ar r73_34 rfl trivial rfl ?_
    obtain ⟨D7, e8, h⟩ := am_ltE h
    refine y_ias (n := 1320) r73_35 rfl (by decide) (by decide) (e := 11) (by decide) e8 rfl ?_
    refine x_ld (v := .ref 106) r73_36 rfl rfl rfl ?_
    refine y_gf (cd := 109) (v := .ref 107) r73_37 rfl rfl rfl ?_
    refine x_ic (v := 2) r73_40 rfl rfl ?_
    refine y_ial (n := 1320) r73_41 rfl (by decide) (by decide) (e := 2) (by decide) rfl ?_
    subst h
    exact x_ret (ret := some .int) (C := True) (v := some (.int _)) r73_42 rt73 rfl rfl rfl rfl rfl rfl rfl rfl trivial hQ
  rcases am_ifE h3 with ⟨c4, h3⟩ | ⟨c4, h3⟩
  · refine x_icneT r73_13 c4 rfl ?_
    refine x_ic (v := 1) r73_16 rfl rfl ?_
    refine x_goto r73_17 ?_
    subst h3
    exact kj2
  · refine x_icneF r73_13 c4 ?_
    refine x_ic (v := 3) r73_20 rfl rfl ?_
    subst h3
    exact kj2
theorem m73_ok {D : am_D} {v1 : Int32} {r : Int32 × am_D} (h : m73 D v1 = r) : am_Y xs L 73 1 0 0 [.ref 106, .int v1] D (.inl (some (.int r.1))) r.2 := am_Yof (mi := am_m73) (lc := [.ref 106, .int v1]) pg73 (Nat.le_of_ble_eq_true rfl) (am_rc1 (ci := 8) rfl rfl rfl rfl rfl) rfl (fun Q hQ => m73_w (Nat.le_refl _) h hQ)
theorem r74_0 : am_at 74 0 = some (.aload_n 0, 1, [0]) := by decide +kernel
theorem r74_1 : am_at 74 1 = some (.getfield 7, 3, [8, 1, 3, 1216]) := by decide +kernel
theorem r74_4 : am_at 74 4 = some (.bipush (13), 2, []) := by decide +kernel
theorem r74_6 : am_at 74 6 = some (.aload_n 0, 1, [0]) := by decide +kernel
theorem r74_7 : am_at 74 7 = some (.getfield 7, 3, [8, 1, 3, 1216]) := by decide +kernel
theorem r74_10 : am_at 74 10 = some (.iconst (1), 1, []) := by decide +kernel
theorem r74_11 : am_at 74 11 = some (.iaload, 1, []) := by decide +kernel
theorem r74_12 : am_at 74 12 = some (.iadd, 1, []) := by decide +kernel
theorem r74_13 : am_at 74 13 = some (.iaload, 1, []) := by decide +kernel
theorem r74_14 : am_at 74 14 = some (.iload_n 1, 1, [1]) := by decide +kernel
theorem r74_15 : am_at 74 15 = some (.isub, 1, []) := by decide +kernel
theorem r74_16 : am_at 74 16 = some (.istore_n 2, 1, [2]) := by decide +kernel
theorem r74_17 : am_at 74 17 = some (.aload_n 0, 1, [0]) := by decide +kernel
theorem r74_18 : am_at 74 18 = some (.getfield 7, 3, [8, 1, 3, 1216]) := by decide +kernel
theorem r74_21 : am_at 74 21 = some (.bipush (13), 2, []) := by decide +kernel
theorem r74_23 : am_at 74 23 = some (.aload_n 0, 1, [0]) := by decide +kernel
theorem r74_24 : am_at 74 24 = some (.getfield 7, 3, [8, 1, 3, 1216]) := by decide +kernel
theorem r74_27 : am_at 74 27 = some (.iconst (1), 1, []) := by decide +kernel
theorem r74_28 : am_at 74 28 = some (.iaload, 1, []) := by decide +kernel
theorem r74_29 : am_at 74 29 = some (.iadd, 1, []) := by decide +kernel
theorem r74_30 : am_at 74 30 = some (.iload_n 2, 1, [2]) := by decide +kernel
theorem r74_31 : am_at 74 31 = some (.ifCond .ge (7), 3, [38]) := by decide +kernel
theorem r74_34 : am_at 74 34 = some (.iconst (0), 1, []) := by decide +kernel
theorem r74_35 : am_at 74 35 = some (.goto (4), 3, [39]) := by decide +kernel
theorem r74_38 : am_at 74 38 = some (.iload_n 2, 1, [2]) := by decide +kernel
theorem r74_39 : am_at 74 39 = some (.iastore, 1, []) := by decide +kernel
theorem r74_40 : am_at 74 40 = some (.aload_n 0, 1, [0]) := by decide +kernel
theorem r74_41 : am_at 74 41 = some (.getfield 7, 3, [8, 1, 3, 1216]) := by decide +kernel
theorem r74_44 : am_at 74 44 = some (.bipush (13), 2, []) := by decide +kernel
theorem r74_46 : am_at 74 46 = some (.aload_n 0, 1, [0]) := by decide +kernel
theorem r74_47 : am_at 74 47 = some (.getfield 7, 3, [8, 1, 3, 1216]) := by decide +kernel
theorem r74_50 : am_at 74 50 = some (.iconst (1), 1, []) := by decide +kernel
theorem r74_51 : am_at 74 51 = some (.iaload, 1, []) := by decide +kernel
theorem r74_52 : am_at 74 52 = some (.iadd, 1, []) := by decide +kernel
theorem r74_53 : am_at 74 53 = some (.iaload, 1, []) := by decide +kernel
theorem r74_54 : am_at 74 54 = some (.ireturn, 1, []) := by decide +kernel
theorem rt74 : am_rtt 74 = some (some .int) := by decide +kernel
set_option maxRecDepth 100000 in
theorem pg74 : am_pg[74]? = some am_m74 := rfl
theorem m74_w {d mc ms : Nat} {D : am_D} {v1 : Int32} {Q : am_O → am_AH → Prop} (hd : 1 ≤ d) {r : Int32 × am_D} (h : m74 D v1 = some r) (hQ : Q (.inl (some (.int r.1))) (am_mk r.2)) : am_X xs L 74 d mc ms 0 [.ref 106, .int v1, am_dead] [] (am_mk D) 0 0 Q := by
  unfold m74 at h
  refine x_ld (v := .ref 106) r74_0 rfl rfl rfl ?_
  refine y_gf (cd := 109) (v := .ref 107) r74_1 rfl rfl rfl ?_
  refine x_bi (v := 13) r74_4 rfl rfl ?_
  refine x_ld (v := .ref 106) r74_6 rfl rfl rfl ?_
  refine y_gf (cd := 109) (v := .ref 107) r74_7 rfl rfl rfl ?_
  refine x_ic (v := 1) r74_10 rfl rfl ?_
  refine y_ial (n := 1320) r74_11 rfl (by decide) (by decide) (e := 1) (by decide) rfl ?_
  refine x_ar r74_12 rfl trivial rfl ?_
  obtain ⟨g1, h⟩ := am_gdE h
  refine y_ial (n := 1320) r74_13 rfl (by decide) g1 rfl rfl ?_
  refine x_ld (v := .int v1) r74_14 rfl rfl rfl ?_
  refine x_ar r74_15 rfl trivial rfl ?_
  obtain ⟨x2, e3, h⟩ := am_ltE h
  refine am_topI e3 ?_
  refine x_sto (lc' := [.ref 106, .int v1, .int x2]) r74_16 rfl rfl rfl rfl ?_
  refine x_ld (v := .ref 106) r74_17 rfl rfl rfl ?_
  refine y_gf (cd := 109) (v := .ref 107) r74_18 rfl rfl rfl ?_
  refine x_bi (v := 13) r74_21 rfl rfl ?_
  refine x_ld (v := .ref 106) r74_23 rfl rfl rfl ?_
  refine y_gf (cd := 109) (v := .ref 107) r74_24 rfl rfl rfl ?_
  refine x_ic (v := 1) r74_27 rfl rfl ?_
  refine y_ial (n := 1320) r74_28 rfl (by decide) (by decide) (e := 1) (by decide) rfl ?_
  refine x_ar r74_29 rfl trivial rfl ?_
  refine x_ld (v := .int x2) r74_30 rfl rfl rfl ?_
  obtain ⟨q4, h6, h⟩ := am_ltE h
  replace h6 := h6.symm
  have kj5 : am_X xs L 74 d mc ms 39 [.ref 106, .int v1, .int x2] [.int q4, .int ((13 : Int32) + (D.1 107 1)), .ref 107] (am_mk D) 0 0 Q := by
    obtain ⟨g10, h⟩ := am_gdE h
    obtain ⟨D8, e9, h⟩ := am_ltE h
    refine y_ias (n := 1320) r74_39 rfl (by decide) g10 rfl e9 rfl ?_
    refine x_ld (v := .ref 106) r74_40 rfl rfl rfl ?_
    refine y_gf (cd := 109) (v := .ref 107) r74_41 rfl rfl rfl ?_
    refine x_bi (v := 13) r74_44 rfl rfl ?_
    refine x_ld (v := .ref 106) r74_46 rfl rfl rfl ?_
    refine y_gf (cd := 109) (v := .ref 107) r74_47 rfl rfl rfl ?_
    refine x_ic (v := 1) r74_50 rfl rfl ?_
    refine y_ial (n := 1320) r74_51 rfl (by decide) (by decide) (e := 1) (by decide) rfl ?_
    refine x_ar r74_52 rfl trivial rfl ?_
    obtain ⟨g11, h⟩ := am_gdE h
    refine y_ial (n := 1320) r74_53 rfl (by decide) g11 rfl rfl ?_
    cases h
    exact x_ret (ret := some .int) (C := True) (v := some (.int _)) r74_54 rt74 rfl rfl rfl rfl rfl rfl rfl rfl trivial hQ
  rcases am_ifE h6 with ⟨c7, h6⟩ | ⟨c7, h6⟩
  · refine x_ifgeT r74_31 c7 ?_
    refine x_ld (v := .int x2) r74_38 rfl rfl rfl ?_
    subst h6
    exact kj5
  · refine x_ifgeF r74_31 c7 rfl ?_
    refine x_ic (v := 0) r74_34 rfl rfl ?_
    refine x_goto r74_35 ?_
    subst h6
    exact kj5
theorem m74_ok {D : am_D} {v1 : Int32} {r : Int32 × am_D} (h : m74 D v1 = some r) : am_Y xs L 74 1 0 0 [.ref 106, .int v1] D (.inl (some (.int r.1))) r.2 := am_Yof (mi := am_m74) (lc := [.ref 106, .int v1, am_dead]) pg74 (Nat.le_of_ble_eq_true rfl) (am_rc1 (ci := 8) rfl rfl rfl rfl rfl) rfl (fun Q hQ => m74_w (Nat.le_refl _) h hQ)
theorem r75_0 : am_at 75 0 = some (.iconst (0), 1, []) := by decide +kernel
theorem r75_1 : am_at 75 1 = some (.istore_n 3, 1, [3]) := by decide +kernel
theorem r75_2 : am_at 75 2 = some (.iload_n 3, 1, [3]) := by decide +kernel
theorem r75_3 : am_at 75 3 = some (.sipush (165), 3, []) := by decide +kernel
theorem r75_6 : am_at 75 6 = some (.if_icmp .ge (33), 3, [39]) := by decide +kernel
theorem r75_9 : am_at 75 9 = some (.aload_n 0, 1, [0]) := by decide +kernel
theorem r75_10 : am_at 75 10 = some (.getfield 7, 3, [8, 1, 3, 1216]) := by decide +kernel
theorem r75_13 : am_at 75 13 = some (.sipush (165), 3, []) := by decide +kernel
theorem r75_16 : am_at 75 16 = some (.iload_n 2, 1, [2]) := by decide +kernel
theorem r75_17 : am_at 75 17 = some (.imul, 1, []) := by decide +kernel
theorem r75_18 : am_at 75 18 = some (.iload_n 3, 1, [3]) := by decide +kernel
theorem r75_19 : am_at 75 19 = some (.iadd, 1, []) := by decide +kernel
theorem r75_20 : am_at 75 20 = some (.aload_n 0, 1, [0]) := by decide +kernel
theorem r75_21 : am_at 75 21 = some (.getfield 7, 3, [8, 1, 3, 1216]) := by decide +kernel
theorem r75_24 : am_at 75 24 = some (.sipush (165), 3, []) := by decide +kernel
theorem r75_27 : am_at 75 27 = some (.iload_n 1, 1, [1]) := by decide +kernel
theorem r75_28 : am_at 75 28 = some (.imul, 1, []) := by decide +kernel
theorem r75_29 : am_at 75 29 = some (.iload_n 3, 1, [3]) := by decide +kernel
theorem r75_30 : am_at 75 30 = some (.iadd, 1, []) := by decide +kernel
theorem r75_31 : am_at 75 31 = some (.iaload, 1, []) := by decide +kernel
theorem r75_32 : am_at 75 32 = some (.iastore, 1, []) := by decide +kernel
theorem r75_33 : am_at 75 33 = some (.iinc 3 (1), 3, [3]) := by decide +kernel
theorem r75_36 : am_at 75 36 = some (.goto (-34), 3, [2]) := by decide +kernel
theorem r75_39 : am_at 75 39 = some (.return_, 1, []) := by decide +kernel
theorem rt75 : am_rtt 75 = some (none) := by decide +kernel
set_option maxRecDepth 100000 in
theorem pg75 : am_pg[75]? = some am_m75 := rfl
theorem m75_L2_w {d : Nat} {N : Nat} {v1 : Int32} {v2 : Int32} {mc ms : Nat} {Q : am_O → am_AH → Prop} (hd : 1 ≤ d) : ∀ (n : Nat) (D : am_D) (v3 : Int32) {q : am_D} (h : m75_L2 N v1 v2  n D v3 = some q) (k0 : am_X xs L 75 d mc ms 39 [.ref 106, am_dead, am_dead, am_dead] [] (am_mk q) 0 0 Q), am_X xs L 75 d mc ms 2 [.ref 106, .int v1, .int v2, .int v3] [] (am_mk D) 0 0 Q := by
  intro n
  induction n with
  | zero =>
    intro D v3 q h k0
    exact (nomatch (show none = some q from h))
  | succ n ih =>
    intro D v3 q h k0
    rw [m75_L2] at h
    refine x_ld (v := .int v3) r75_2 rfl rfl rfl ?_
    refine x_si (v := 165) r75_3 rfl rfl ?_
    rcases am_ifE h with ⟨c1, h⟩ | ⟨c1, h⟩
    · refine x_icgeT r75_6 c1 ?_
      refine x_forget (lc0 := [.ref 106, am_dead, am_dead, am_dead]) ⟨Or.inl rfl, Or.inr ⟨rfl, rfl⟩, Or.inr ⟨rfl, rfl⟩, Or.inr ⟨rfl, rfl⟩, trivial⟩ ?_
      cases h
      exact k0
    · refine x_icgeF r75_6 c1 rfl ?_
      refine x_ld (v := .ref 106) r75_9 rfl rfl rfl ?_
      refine y_gf (cd := 109) (v := .ref 107) r75_10 rfl rfl rfl ?_
      refine x_si (v := 165) r75_13 rfl rfl ?_
      refine x_ld (v := .int v2) r75_16 rfl rfl rfl ?_
      refine x_ar r75_17 rfl trivial rfl ?_
      refine x_ld (v := .int v3) r75_18 rfl rfl rfl ?_
      refine x_ar r75_19 rfl trivial rfl ?_
      refine x_ld (v := .ref 106) r75_20 rfl rfl rfl ?_
      refine y_gf (cd := 109) (v := .ref 107) r75_21 rfl rfl rfl ?_
      refine x_si (v := 165) r75_24 rfl rfl ?_
      refine x_ld (v := .int v1) r75_27 rfl rfl rfl ?_
      refine x_ar r75_28 rfl trivial rfl ?_
      refine x_ld (v := .int v3) r75_29 rfl rfl rfl ?_
      refine x_ar r75_30 rfl trivial rfl ?_
      obtain ⟨g2, h⟩ := am_gdE h
      refine y_ial (n := 1320) r75_31 rfl (by decide) g2 rfl rfl ?_
      obtain ⟨g5, h⟩ := am_gdE h
      obtain ⟨D3, e4, h⟩ := am_ltE h
      refine y_ias (n := 1320) r75_32 rfl (by decide) g5 rfl e4 rfl ?_
      obtain ⟨x6, e7, h⟩ := am_ltE h
      refine x_sto (lc' := [.ref 106, .int v1, .int v2, .int x6]) r75_33 rfl rfl (by subst e7; rfl) rfl ?_
      refine x_goto r75_36 ?_
      exact x_forget (lc0 := [.ref 106, .int v1, .int v2, .int x6]) ⟨Or.inl rfl, Or.inl rfl, Or.inl rfl, Or.inl rfl, trivial⟩ (ih D3 x6 h k0)
theorem m75_w {d mc ms : Nat} {N : Nat} {D : am_D} {v1 : Int32} {v2 : Int32} {Q : am_O → am_AH → Prop} (hd : 1 ≤ d) {r : am_D} (h : m75 N D v1 v2 = some r) (hQ : Q (.inl none) (am_mk r)) : am_X xs L 75 d mc ms 0 [.ref 106, .int v1, .int v2, am_dead] [] (am_mk D) 0 0 Q := by
  unfold m75 at h
  refine x_ic (v := 0) r75_0 rfl rfl ?_
  refine x_sto (lc' := [.ref 106, .int v1, .int v2, .int (0 : Int32)]) r75_1 rfl rfl rfl rfl ?_
  obtain ⟨q8, h9, h⟩ := Option.bind_eq_some_iff.mp h
  refine x_forget (lc0 := [.ref 106, .int v1, .int v2, .int (0 : Int32)]) ⟨Or.inl rfl, Or.inl rfl, Or.inl rfl, Or.inl rfl, trivial⟩ (m75_L2_w hd N D (0 : Int32) h9 ?_)
  cases h
  exact x_ret (ret := none) (C := True) (v := none) r75_39 rt75 rfl rfl rfl rfl rfl rfl rfl rfl trivial hQ
theorem m75_ok {N : Nat} {D : am_D} {v1 : Int32} {v2 : Int32} {r : am_D} (h : m75 N D v1 v2 = some r) : am_Y xs L 75 1 0 0 [.ref 106, .int v1, .int v2] D (.inl none) r := am_Yof (mi := am_m75) (lc := [.ref 106, .int v1, .int v2, am_dead]) pg75 (Nat.le_of_ble_eq_true rfl) (am_rc1 (ci := 8) rfl rfl rfl rfl rfl) rfl (fun Q hQ => m75_w (Nat.le_refl _) h hQ)
theorem r76_0 : am_at 76 0 = some (.iconst (1), 1, []) := by decide +kernel
theorem r76_1 : am_at 76 1 = some (.istore_n 1, 1, [1]) := by decide +kernel
theorem r76_2 : am_at 76 2 = some (.iload_n 1, 1, [1]) := by decide +kernel
theorem r76_3 : am_at 76 3 = some (.bipush (6), 2, []) := by decide +kernel
theorem r76_5 : am_at 76 5 = some (.if_icmp .ge (26), 3, [31]) := by decide +kernel
theorem r76_8 : am_at 76 8 = some (.aload_n 0, 1, [0]) := by decide +kernel
theorem r76_9 : am_at 76 9 = some (.getfield 127, 3, [8, 2, 0, 1217]) := by decide +kernel
theorem r76_12 : am_at 76 12 = some (.bipush (6), 2, []) := by decide +kernel
theorem r76_14 : am_at 76 14 = some (.if_icmp .ne (17), 3, [31]) := by decide +kernel
theorem r76_17 : am_at 76 17 = some (.aload_n 0, 1, [0]) := by decide +kernel
theorem r76_18 : am_at 76 18 = some (.iload_n 1, 1, [1]) := by decide +kernel
theorem r76_19 : am_at 76 19 = some (.iconst (1), 1, []) := by decide +kernel
theorem r76_20 : am_at 76 20 = some (.iadd, 1, []) := by decide +kernel
theorem r76_21 : am_at 76 21 = some (.iload_n 1, 1, [1]) := by decide +kernel
theorem r76_22 : am_at 76 22 = some (.invokevirtual 130, 3, [75, 3, 1331, 0]) := by decide +kernel
theorem r76_25 : am_at 76 25 = some (.iinc 1 (1), 3, [1]) := by decide +kernel
theorem r76_28 : am_at 76 28 = some (.goto (-26), 3, [2]) := by decide +kernel
theorem r76_31 : am_at 76 31 = some (.aload_n 0, 1, [0]) := by decide +kernel
theorem r76_32 : am_at 76 32 = some (.dup, 1, []) := by decide +kernel
theorem r76_33 : am_at 76 33 = some (.getfield 127, 3, [8, 2, 0, 1217]) := by decide +kernel
theorem r76_36 : am_at 76 36 = some (.aload_n 0, 1, [0]) := by decide +kernel
theorem r76_37 : am_at 76 37 = some (.getfield 127, 3, [8, 2, 0, 1217]) := by decide +kernel
theorem r76_40 : am_at 76 40 = some (.bipush (6), 2, []) := by decide +kernel
theorem r76_42 : am_at 76 42 = some (.if_icmp .ge (7), 3, [49]) := by decide +kernel
theorem r76_45 : am_at 76 45 = some (.iconst (1), 1, []) := by decide +kernel
theorem r76_46 : am_at 76 46 = some (.goto (4), 3, [50]) := by decide +kernel
theorem r76_49 : am_at 76 49 = some (.iconst (0), 1, []) := by decide +kernel
theorem r76_50 : am_at 76 50 = some (.iadd, 1, []) := by decide +kernel
theorem r76_51 : am_at 76 51 = some (.putfield 127, 3, [8, 2, 0, 1217]) := by decide +kernel
theorem r76_54 : am_at 76 54 = some (.aload_n 0, 1, [0]) := by decide +kernel
theorem r76_55 : am_at 76 55 = some (.iconst (0), 1, []) := by decide +kernel
theorem r76_56 : am_at 76 56 = some (.aload_n 0, 1, [0]) := by decide +kernel
theorem r76_57 : am_at 76 57 = some (.getfield 127, 3, [8, 2, 0, 1217]) := by decide +kernel
theorem r76_60 : am_at 76 60 = some (.invokevirtual 130, 3, [75, 3, 1331, 0]) := by decide +kernel
theorem r76_63 : am_at 76 63 = some (.return_, 1, []) := by decide +kernel
theorem rt76 : am_rtt 76 = some (none) := by decide +kernel
set_option maxRecDepth 100000 in
theorem pg76 : am_pg[76]? = some am_m76 := rfl
theorem m76_L2_w {d : Nat} {N : Nat} {mc ms : Nat} {Q : am_O → am_AH → Prop} (hd : 2 ≤ d) : ∀ (n : Nat) (D : am_D) (v1 : Int32) {q : am_D} (h : m76_L2 N  n D v1 = some q) (k0 : am_X xs L 76 d mc ms 31 [.ref 106, am_dead] [] (am_mk q) 0 0 Q), am_X xs L 76 d mc ms 2 [.ref 106, .int v1] [] (am_mk D) 0 0 Q := by
  intro n
  induction n with
  | zero =>
    intro D v1 q h k0
    exact (nomatch (show none = some q from h))
  | succ n ih =>
    intro D v1 q h k0
    rw [m76_L2] at h
    refine x_ld (v := .int v1) r76_2 rfl rfl rfl ?_
    refine x_bi (v := 6) r76_3 rfl rfl ?_
    rcases am_ifE h with ⟨c1, h⟩ | ⟨c1, h⟩
    · refine x_icgeT r76_5 c1 ?_
      refine x_forget (lc0 := [.ref 106, am_dead]) ⟨Or.inl rfl, Or.inr ⟨rfl, rfl⟩, trivial⟩ ?_
      cases h
      exact k0
    · refine x_icgeF r76_5 c1 rfl ?_
      refine x_ld (v := .ref 106) r76_8 rfl rfl rfl ?_
      refine y_gf (cd := 0) (v := .int (D.1 106 2)) r76_9 rfl rfl rfl ?_
      refine x_bi (v := 6) r76_12 rfl rfl ?_
      rcases am_ifE h with ⟨c2, h⟩ | ⟨c2, h⟩
      · refine x_icneT r76_14 c2 rfl ?_
        refine x_ld (v := .ref 106) r76_17 rfl rfl rfl ?_
        refine x_ld (v := .int v1) r76_18 rfl rfl rfl ?_
        refine x_ic (v := 1) r76_19 rfl rfl ?_
        refine x_ar r76_20 rfl trivial rfl ?_
        refine x_ld (v := .int v1) r76_21 rfl rfl rfl ?_
        obtain ⟨q3, h4, h⟩ := Option.bind_eq_some_iff.mp h
        refine x_call0 (as := [.ref 106, .int (v1 + (1 : Int32)), .int v1]) (rest := []) r76_22 rfl rfl rfl (by decide) (Nat.le_of_ble_eq_true rfl) (m75_ok h4) (Nat.le_trans (by decide) hd) (Nat.zero_le _) (Nat.zero_le _) rfl ?_
        obtain ⟨x5, e6, h⟩ := am_ltE h
        refine x_sto (lc' := [.ref 106, .int x5]) r76_25 rfl rfl (by subst e6; rfl) rfl ?_
        refine x_goto r76_28 ?_
        exact x_forget (lc0 := [.ref 106, .int x5]) ⟨Or.inl rfl, Or.inl rfl, trivial⟩ (ih q3 x5 h k0)
      · refine x_icneF r76_14 c2 ?_
        refine x_forget (lc0 := [.ref 106, am_dead]) ⟨Or.inl rfl, Or.inr ⟨rfl, rfl⟩, trivial⟩ ?_
        cases h
        exact k0
theorem m76_w {d mc ms : Nat} {N : Nat} {D : am_D} {Q : am_O → am_AH → Prop} (hd : 2 ≤ d) {r : am_D} (h : m76 N D = some r) (hQ : Q (.inl none) (am_mk r)) : am_X xs L 76 d mc ms 0 [.ref 106, am_dead] [] (am_mk D) 0 0 Q := by
  unfold m76 at h
  refine x_ic (v := 1) r76_0 rfl rfl ?_
  refine x_sto (lc' := [.ref 106, .int (1 : Int32)]) r76_1 rfl rfl rfl rfl ?_
  obtain ⟨q7, h8, h⟩ := Option.bind_eq_some_iff.mp h
  refine x_forget (lc0 := [.ref 106, .int (1 : Int32)]) ⟨Or.inl rfl, Or.inl rfl, trivial⟩ (m76_L2_w hd N D (1 : Int32) h8 ?_)
  refine x_ld (v := .ref 106) r76_31 rfl rfl rfl ?_
  refine x_ar r76_32 rfl trivial rfl ?_
  refine y_gf (cd := 0) (v := .int (q7.1 106 2)) r76_33 rfl rfl rfl ?_
  refine x_ld (v := .ref 106) r76_36 rfl rfl rfl ?_
  refine y_gf (cd := 0) (v := .int (q7.1 106 2)) r76_37 rfl rfl rfl ?_
  refine x_bi (v := 6) r76_40 rfl rfl ?_
  obtain ⟨q9, h11, h⟩ := am_ltE h
  replace h11 := h11.symm
  have kj10 : am_X xs L 76 d mc ms 50 [.ref 106, am_dead] [.int q9, .int (q7.1 106 2), .ref 106] (am_mk q7) 0 0 Q := by
    refine x_ar r76_50 rfl trivial rfl ?_
    obtain ⟨D13, e14, h⟩ := am_ltE h
    refine y_pf0 r76_51 rfl e14 rfl ?_
    refine x_ld (v := .ref 106) r76_54 rfl rfl rfl ?_
    refine x_ic (v := 0) r76_55 rfl rfl ?_
    refine x_ld (v := .ref 106) r76_56 rfl rfl rfl ?_
    refine y_gf (cd := 0) (v := .int (D13.1 106 2)) r76_57 rfl rfl rfl ?_
    obtain ⟨q15, h16, h⟩ := Option.bind_eq_some_iff.mp h
    refine x_call0 (as := [.ref 106, .int (0 : Int32), .int (D13.1 106 2)]) (rest := []) r76_60 rfl rfl rfl (by decide) (Nat.le_of_ble_eq_true rfl) (m75_ok h16) (Nat.le_trans (by decide) hd) (Nat.zero_le _) (Nat.zero_le _) rfl ?_
    cases h
    exact x_ret (ret := none) (C := True) (v := none) r76_63 rt76 rfl rfl rfl rfl rfl rfl rfl rfl trivial hQ
  rcases am_ifE h11 with ⟨c12, h11⟩ | ⟨c12, h11⟩
  · refine x_icgeT r76_42 c12 ?_
    refine x_ic (v := 0) r76_49 rfl rfl ?_
    subst h11
    exact kj10
  · refine x_icgeF r76_42 c12 rfl ?_
    refine x_ic (v := 1) r76_45 rfl rfl ?_
    refine x_goto r76_46 ?_
    subst h11
    exact kj10
theorem m76_ok {N : Nat} {D : am_D} {r : am_D} (h : m76 N D = some r) : am_Y xs L 76 2 0 0 [.ref 106] D (.inl none) r := am_Yof (mi := am_m76) (lc := [.ref 106, am_dead]) pg76 (Nat.le_of_ble_eq_true rfl) (am_rc1 (ci := 8) rfl rfl rfl rfl rfl) rfl (fun Q hQ => m76_w (Nat.le_refl _) h hQ)
theorem r77_0 : am_at 77 0 = some (.aload_n 0, 1, [0]) := by decide +kernel
theorem r77_1 : am_at 77 1 = some (.getfield 7, 3, [8, 1, 3, 1216]) := by decide +kernel
theorem r77_4 : am_at 77 4 = some (.iconst (0), 1, []) := by decide +kernel
theorem r77_5 : am_at 77 5 = some (.iaload, 1, []) := by decide +kernel
theorem r77_6 : am_at 77 6 = some (.ifCond .ne (26), 3, [32]) := by decide +kernel
theorem r77_9 : am_at 77 9 = some (.aload_n 0, 1, [0]) := by decide +kernel
theorem r77_10 : am_at 77 10 = some (.iconst (5), 1, []) := by decide +kernel
theorem r77_11 : am_at 77 11 = some (.iload_n 2, 1, [2]) := by decide +kernel
theorem r77_12 : am_at 77 12 = some (.invokevirtual 69, 3, [56, 3, 1315, 0]) := by decide +kernel
theorem r77_15 : am_at 77 15 = some (.ifCond .eq (17), 3, [32]) := by decide +kernel
theorem r77_18 : am_at 77 18 = some (.aload_n 0, 1, [0]) := by decide +kernel
theorem r77_19 : am_at 77 19 = some (.iload_n 1, 1, [1]) := by decide +kernel
theorem r77_20 : am_at 77 20 = some (.invokevirtual 121, 3, [57, 2, 1319, 0]) := by decide +kernel
theorem r77_23 : am_at 77 23 = some (.bipush (7), 2, []) := by decide +kernel
theorem r77_25 : am_at 77 25 = some (.if_icmp .ge (7), 3, [32]) := by decide +kernel
theorem r77_28 : am_at 77 28 = some (.iconst (1), 1, []) := by decide +kernel
theorem r77_29 : am_at 77 29 = some (.goto (4), 3, [33]) := by decide +kernel
theorem r77_32 : am_at 77 32 = some (.iconst (0), 1, []) := by decide +kernel
theorem r77_33 : am_at 77 33 = some (.ireturn, 1, []) := by decide +kernel
theorem rt77 : am_rtt 77 = some (some .boolean) := by decide +kernel
set_option maxRecDepth 100000 in
theorem pg77 : am_pg[77]? = some am_m77 := rfl
theorem m77_w {d mc ms : Nat} {N : Nat} {D : am_D} {v1 : Int32} {v2 : Int32} {Q : am_O → am_AH → Prop} (hd : 2 ≤ d) {r : Int32} (h : m77 N D v1 v2 = some r) (hQ : Q (.inl (some (.int r))) (am_mk D)) : am_X xs L 77 d mc ms 0 [.ref 106, .int v1, .int v2] [] (am_mk D) 0 0 Q := by
  unfold m77 at h
  refine x_ld (v := .ref 106) r77_0 rfl rfl rfl ?_
  refine y_gf (cd := 109) (v := .ref 107) r77_1 rfl rfl rfl ?_
  refine x_ic (v := 0) r77_4 rfl rfl ?_
  refine y_ial (n := 1320) r77_5 rfl (by decide) (by decide) (e := 0) (by decide) rfl ?_
  rcases am_ifE h with ⟨c1, h⟩ | ⟨c1, h⟩
  · refine x_ifneT r77_6 c1 rfl ?_
    refine x_ld (v := .ref 106) r77_9 rfl rfl rfl ?_
    refine x_ic (v := 5) r77_10 rfl rfl ?_
    refine x_ld (v := .int v2) r77_11 rfl rfl rfl ?_
    obtain ⟨q2, h3, h⟩ := Option.bind_eq_some_iff.mp h
    refine x_call1 (as := [.ref 106, .int (5 : Int32), .int v2]) (rest := []) r77_12 rfl rfl rfl (by decide) (Nat.le_of_ble_eq_true rfl) (m56_ok h3) (Nat.le_trans (by decide) hd) (Nat.zero_le _) (Nat.zero_le _) rfl ?_
    rcases am_ifE h with ⟨c4, h⟩ | ⟨c4, h⟩
    · refine x_ifeqT r77_15 c4 ?_
      refine x_ic (v := 0) r77_32 rfl rfl ?_
      cases h
      exact x_ret (ret := some .boolean) (C := narrow .boolean (.int (0 : Int32)) = .int (0 : Int32)) (v := some (.int (0 : Int32))) r77_33 rt77 rfl rfl rfl rfl rfl rfl rfl rfl (by decide) hQ
    · refine x_ifeqF r77_15 c4 rfl ?_
      refine x_ld (v := .ref 106) r77_18 rfl rfl rfl ?_
      refine x_ld (v := .int v1) r77_19 rfl rfl rfl ?_
      obtain ⟨q5, h6, h⟩ := Option.bind_eq_some_iff.mp h
      refine x_call1 (as := [.ref 106, .int v1]) (rest := []) r77_20 rfl rfl rfl (by decide) (Nat.le_of_ble_eq_true rfl) (m57_ok h6) (Nat.le_trans (by decide) hd) (Nat.zero_le _) (Nat.zero_le _) rfl ?_
      refine x_bi (v := 7) r77_23 rfl rfl ?_
      rcases am_ifE h with ⟨c7, h⟩ | ⟨c7, h⟩
      · refine x_icgeT r77_25 c7 ?_
        refine x_ic (v := 0) r77_32 rfl rfl ?_
        cases h
        exact x_ret (ret := some .boolean) (C := narrow .boolean (.int (0 : Int32)) = .int (0 : Int32)) (v := some (.int (0 : Int32))) r77_33 rt77 rfl rfl rfl rfl rfl rfl rfl rfl (by decide) hQ
      · refine x_icgeF r77_25 c7 rfl ?_
        refine x_ic (v := 1) r77_28 rfl rfl ?_
        refine x_goto r77_29 ?_
        cases h
        exact x_ret (ret := some .boolean) (C := narrow .boolean (.int (1 : Int32)) = .int (1 : Int32)) (v := some (.int (1 : Int32))) r77_33 rt77 rfl rfl rfl rfl rfl rfl rfl rfl (by decide) hQ
  · refine x_ifneF r77_6 c1 ?_
    refine x_ic (v := 0) r77_32 rfl rfl ?_
    cases h
    exact x_ret (ret := some .boolean) (C := narrow .boolean (.int (0 : Int32)) = .int (0 : Int32)) (v := some (.int (0 : Int32))) r77_33 rt77 rfl rfl rfl rfl rfl rfl rfl rfl (by decide) hQ
theorem m77_ok {N : Nat} {D : am_D} {v1 : Int32} {v2 : Int32} {r : Int32} (h : m77 N D v1 v2 = some r) : am_Y xs L 77 2 0 0 [.ref 106, .int v1, .int v2] D (.inl (some (.int r))) D := am_Yof (mi := am_m77) (lc := [.ref 106, .int v1, .int v2]) pg77 (Nat.le_of_ble_eq_true rfl) (am_rc1 (ci := 8) rfl rfl rfl rfl rfl) rfl (fun Q hQ => m77_w (Nat.le_refl _) h hQ)
theorem r78_0 : am_at 78 0 = some (.iload_n 1, 1, [1]) := by decide +kernel
theorem r78_1 : am_at 78 1 = some (.invokestatic 133, 3, [48, 1, 1302, 0]) := by decide +kernel
theorem r78_4 : am_at 78 4 = some (.ifCond .eq (14), 3, [18]) := by decide +kernel
theorem r78_7 : am_at 78 7 = some (.iload_n 2, 1, [2]) := by decide +kernel
theorem r78_8 : am_at 78 8 = some (.invokestatic 136, 3, [49, 1, 1308, 0]) := by decide +kernel
theorem r78_11 : am_at 78 11 = some (.ifCond .eq (7), 3, [18]) := by decide +kernel
theorem r78_14 : am_at 78 14 = some (.iconst (1), 1, []) := by decide +kernel
theorem r78_15 : am_at 78 15 = some (.goto (4), 3, [19]) := by decide +kernel
theorem r78_18 : am_at 78 18 = some (.iconst (0), 1, []) := by decide +kernel
theorem r78_19 : am_at 78 19 = some (.istore_n 3, 1, [3]) := by decide +kernel
theorem r78_20 : am_at 78 20 = some (.aload_n 0, 1, [0]) := by decide +kernel
theorem r78_21 : am_at 78 21 = some (.iload_n 3, 1, [3]) := by decide +kernel
theorem r78_22 : am_at 78 22 = some (.ifCond .ne (7), 3, [29]) := by decide +kernel
theorem r78_25 : am_at 78 25 = some (.iconst (1), 1, []) := by decide +kernel
theorem r78_26 : am_at 78 26 = some (.goto (17), 3, [43]) := by decide +kernel
theorem r78_29 : am_at 78 29 = some (.aload_n 0, 1, [0]) := by decide +kernel
theorem r78_30 : am_at 78 30 = some (.iload_n 1, 1, [1]) := by decide +kernel
theorem r78_31 : am_at 78 31 = some (.iload_n 2, 1, [2]) := by decide +kernel
theorem r78_32 : am_at 78 32 = some (.invokevirtual 139, 3, [77, 3, 1311, 0]) := by decide +kernel
theorem r78_35 : am_at 78 35 = some (.ifCond .ne (7), 3, [42]) := by decide +kernel
theorem r78_38 : am_at 78 38 = some (.iconst (2), 1, []) := by decide +kernel
theorem r78_39 : am_at 78 39 = some (.goto (4), 3, [43]) := by decide +kernel
theorem r78_42 : am_at 78 42 = some (.iconst (0), 1, []) := by decide +kernel
theorem r78_43 : am_at 78 43 = some (.invokevirtual 142, 3, [47, 2, 1323, 0]) := by decide +kernel
theorem r78_46 : am_at 78 46 = some (.ifCond .ne (5), 3, [51]) := by decide +kernel
theorem r78_49 : am_at 78 49 = some (.iconst (0), 1, []) := by decide +kernel
theorem r78_50 : am_at 78 50 = some (.ireturn, 1, []) := by decide +kernel
theorem r78_51 : am_at 78 51 = some (.aload_n 0, 1, [0]) := by decide +kernel
theorem r78_52 : am_at 78 52 = some (.invokevirtual 145, 3, [76, 1, 1327, 0]) := by decide +kernel
theorem r78_55 : am_at 78 55 = some (.aload_n 0, 1, [0]) := by decide +kernel
theorem r78_56 : am_at 78 56 = some (.getfield 7, 3, [8, 1, 3, 1216]) := by decide +kernel
theorem r78_59 : am_at 78 59 = some (.bipush (25), 2, []) := by decide +kernel
theorem r78_61 : am_at 78 61 = some (.iload_n 2, 1, [2]) := by decide +kernel
theorem r78_62 : am_at 78 62 = some (.iadd, 1, []) := by decide +kernel
theorem r78_63 : am_at 78 63 = some (.iload_n 1, 1, [1]) := by decide +kernel
theorem r78_64 : am_at 78 64 = some (.iastore, 1, []) := by decide +kernel
theorem r78_65 : am_at 78 65 = some (.aload_n 0, 1, [0]) := by decide +kernel
theorem r78_66 : am_at 78 66 = some (.iload_n 1, 1, [1]) := by decide +kernel
theorem r78_67 : am_at 78 67 = some (.invokevirtual 121, 3, [57, 2, 1319, 0]) := by decide +kernel
theorem r78_70 : am_at 78 70 = some (.ireturn, 1, []) := by decide +kernel
theorem rt78 : am_rtt 78 = some (some .int) := by decide +kernel
set_option maxRecDepth 100000 in
theorem pg78 : am_pg[78]? = some am_m78 := rfl
theorem m78_w {d mc ms : Nat} {N : Nat} {D : am_D} {v1 : Int32} {v2 : Int32} {Q : am_O → am_AH → Prop} (hd : 3 ≤ d) {r : Int32 × am_D} (h : m78 N D v1 v2 = some r) (hQ : Q (.inl (some (.int r.1))) (am_mk r.2)) : am_X xs L 78 d mc ms 0 [.ref 106, .int v1, .int v2, am_dead] [] (am_mk D) 0 0 Q := by
  unfold m78 at h
  refine x_ld (v := .int v1) r78_0 rfl rfl rfl ?_
  refine x_call1 (as := [.int v1]) (rest := []) r78_1 rfl rfl rfl (by decide) (Nat.le_of_ble_eq_true rfl) (m48_ok rfl) (Nat.le_trans (by decide) hd) (Nat.zero_le _) (Nat.zero_le _) rfl ?_
  obtain ⟨q1, h3, h⟩ := am_ltE h
  replace h3 := h3.symm
  have kj2 : am_X xs L 78 d mc ms 19 [.ref 106, .int v1, .int v2, am_dead] [.int q1] (am_mk D) 0 0 Q := by
    refine x_sto (lc' := [.ref 106, .int v1, .int v2, .int q1]) r78_19 rfl rfl rfl rfl ?_
    refine x_ld (v := .ref 106) r78_20 rfl rfl rfl ?_
    refine x_ld (v := .int q1) r78_21 rfl rfl rfl ?_
    obtain ⟨q6, h8, h⟩ := Option.bind_eq_some_iff.mp h
    have kj7 : am_X xs L 78 d mc ms 43 [.ref 106, .int v1, .int v2, .int q1] [.int q6, .ref 106] (am_mk D) 0 0 Q := by
      obtain ⟨q13, h14, h⟩ := am_ltE h
      replace h14 := h14.symm
      refine x_call1 (as := [.ref 106, .int q6]) (rest := []) r78_43 rfl rfl rfl (by decide) (Nat.le_of_ble_eq_true rfl) (m47_ok h14) (Nat.le_trans (by decide) hd) (Nat.zero_le _) (Nat.zero_le _) rfl ?_
      rcases am_ifE h with ⟨c15, h⟩ | ⟨c15, h⟩
      · refine x_ifneT r78_46 c15 rfl ?_
        refine x_ic (v := 0) r78_49 rfl rfl ?_
        cases h
        exact x_ret (ret := some .int) (C := True) (v := some (.int _)) r78_50 rt78 rfl rfl rfl rfl rfl rfl rfl rfl trivial hQ
      · refine x_ifneF r78_46 c15 ?_
        refine x_ld (v := .ref 106) r78_51 rfl rfl rfl ?_
        obtain ⟨q16, h17, h⟩ := Option.bind_eq_some_iff.mp h
        refine x_call0 (as := [.ref 106]) (rest := []) r78_52 rfl rfl rfl (by decide) (Nat.le_of_ble_eq_true rfl) (m76_ok h17) (Nat.le_trans (by decide) hd) (Nat.zero_le _) (Nat.zero_le _) rfl ?_
        refine x_ld (v := .ref 106) r78_55 rfl rfl rfl ?_
        refine y_gf (cd := 109) (v := .ref 107) r78_56 rfl rfl rfl ?_
        refine x_bi (v := 25) r78_59 rfl rfl ?_
        refine x_ld (v := .int v2) r78_61 rfl rfl rfl ?_
        refine x_ar r78_62 rfl trivial rfl ?_
        refine x_ld (v := .int v1) r78_63 rfl rfl rfl ?_
        obtain ⟨g20, h⟩ := am_gdE h
        obtain ⟨D18, e19, h⟩ := am_ltE h
        refine y_ias (n := 1320) r78_64 rfl (by decide) g20 rfl e19 rfl ?_
        refine x_ld (v := .ref 106) r78_65 rfl rfl rfl ?_
        refine x_ld (v := .int v1) r78_66 rfl rfl rfl ?_
        obtain ⟨q21, h22, h⟩ := Option.bind_eq_some_iff.mp h
        refine x_call1 (as := [.ref 106, .int v1]) (rest := []) r78_67 rfl rfl rfl (by decide) (Nat.le_of_ble_eq_true rfl) (m57_ok h22) (Nat.le_trans (by decide) hd) (Nat.zero_le _) (Nat.zero_le _) rfl ?_
        cases h
        exact x_ret (ret := some .int) (C := True) (v := some (.int _)) r78_70 rt78 rfl rfl rfl rfl rfl rfl rfl rfl trivial hQ
    rcases am_ifE h8 with ⟨c9, h8⟩ | ⟨c9, h8⟩
    · refine x_ifneT r78_22 c9 rfl ?_
      refine x_ic (v := 1) r78_25 rfl rfl ?_
      refine x_goto r78_26 ?_
      cases h8
      exact kj7
    · refine x_ifneF r78_22 c9 ?_
      refine x_ld (v := .ref 106) r78_29 rfl rfl rfl ?_
      refine x_ld (v := .int v1) r78_30 rfl rfl rfl ?_
      refine x_ld (v := .int v2) r78_31 rfl rfl rfl ?_
      obtain ⟨q10, h11, h8⟩ := Option.bind_eq_some_iff.mp h8
      refine x_call1 (as := [.ref 106, .int v1, .int v2]) (rest := [.ref 106]) r78_32 rfl rfl rfl (by decide) (Nat.le_of_ble_eq_true rfl) (m77_ok h11) (Nat.le_trans (by decide) hd) (Nat.zero_le _) (Nat.zero_le _) rfl ?_
      rcases am_ifE h8 with ⟨c12, h8⟩ | ⟨c12, h8⟩
      · refine x_ifneT r78_35 c12 rfl ?_
        refine x_ic (v := 2) r78_38 rfl rfl ?_
        refine x_goto r78_39 ?_
        cases h8
        exact kj7
      · refine x_ifneF r78_35 c12 ?_
        refine x_ic (v := 0) r78_42 rfl rfl ?_
        cases h8
        exact kj7
  rcases am_ifE h3 with ⟨c4, h3⟩ | ⟨c4, h3⟩
  · refine x_ifeqT r78_4 c4 ?_
    refine x_ic (v := 0) r78_18 rfl rfl ?_
    subst h3
    exact kj2
  · refine x_ifeqF r78_4 c4 rfl ?_
    refine x_ld (v := .int v2) r78_7 rfl rfl rfl ?_
    refine x_call1 (as := [.int v2]) (rest := []) r78_8 rfl rfl rfl (by decide) (Nat.le_of_ble_eq_true rfl) (m49_ok rfl) (Nat.le_trans (by decide) hd) (Nat.zero_le _) (Nat.zero_le _) rfl ?_
    rcases am_ifE h3 with ⟨c5, h3⟩ | ⟨c5, h3⟩
    · refine x_ifeqT r78_11 c5 ?_
      refine x_ic (v := 0) r78_18 rfl rfl ?_
      subst h3
      exact kj2
    · refine x_ifeqF r78_11 c5 rfl ?_
      refine x_ic (v := 1) r78_14 rfl rfl ?_
      refine x_goto r78_15 ?_
      subst h3
      exact kj2
theorem m78_ok {N : Nat} {D : am_D} {v1 : Int32} {v2 : Int32} {r : Int32 × am_D} (h : m78 N D v1 v2 = some r) : am_Y xs L 78 3 0 0 [.ref 106, .int v1, .int v2] D (.inl (some (.int r.1))) r.2 := am_Yof (mi := am_m78) (lc := [.ref 106, .int v1, .int v2, am_dead]) pg78 (Nat.le_of_ble_eq_true rfl) (am_rc1 (ci := 8) rfl rfl rfl rfl rfl) rfl (fun Q hQ => m78_w (Nat.le_refl _) h hQ)
end XE
