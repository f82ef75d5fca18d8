/-! methods as functions, with their walks (by wip/tools/decomp.py): 236 238 246 247 258 260 263 266 267 268 269 273 274 276 2 3 18 20 21 -/
section XE
variable {xs : Nat → Int32} {L : Nat}
theorem r236_0 : am_at 236 0 = some (.aload_n 0, 1, [0]) := by decide +kernel
theorem r236_1 : am_at 236 1 = some (.iload_n 1, 1, [1]) := by decide +kernel
theorem r236_2 : am_at 236 2 = some (.invokevirtual 33, 3, [235, 2, 1074, 0]) := by decide +kernel
theorem r236_5 : am_at 236 5 = some (.aload_n 0, 1, [0]) := by decide +kernel
theorem r236_6 : am_at 236 6 = some (.iload_n 1, 1, [1]) := by decide +kernel
theorem r236_7 : am_at 236 7 = some (.iconst (1), 1, []) := by decide +kernel
theorem r236_8 : am_at 236 8 = some (.iadd, 1, []) := by decide +kernel
theorem r236_9 : am_at 236 9 = some (.invokevirtual 33, 3, [235, 2, 1074, 0]) := by decide +kernel
theorem r236_12 : am_at 236 12 = some (.invokestatic 36, 3, [254, 2, 1078, 0]) := by decide +kernel
theorem r236_15 : am_at 236 15 = some (.ireturn, 1, []) := by decide +kernel
theorem rt236 : am_rtt 236 = some (some .int) := by decide +kernel
set_option maxRecDepth 100000 in
theorem pg236 : am_pg[236]? = some am_m236 := rfl
theorem m236_w {d mc ms : Nat} {D : am_D} {v1 : Int32} {Q : am_O → am_AH → Prop} (hd : 4 ≤ d) {r : Int32} (h : m236 D v1 = r) (hQ : Q (.inl (some (.int r))) (am_mk D)) : am_X xs L 236 d mc ms 0 [.ref 91, .int v1] [] (am_mk D) 0 0 Q := by
  unfold m236 at h
  refine x_ld (v := .ref 91) r236_0 rfl rfl rfl ?_
  refine x_ld (v := .int v1) r236_1 rfl rfl rfl ?_
  refine x_call1 (as := [.ref 91, .int v1]) (rest := []) r236_2 rfl rfl rfl (by decide) (Nat.le_of_ble_eq_true rfl) (m235_ok rfl) (Nat.le_trans (by decide) hd) (Nat.zero_le _) (Nat.zero_le _) rfl ?_
  refine x_ld (v := .ref 91) r236_5 rfl rfl rfl ?_
  refine x_ld (v := .int v1) r236_6 rfl rfl rfl ?_
  refine x_ic (v := 1) r236_7 rfl rfl ?_
  refine x_ar r236_8 rfl trivial rfl ?_
  refine x_call1 (as := [.ref 91, .int (v1 + (1 : Int32))]) (rest := [.int (m235 D v1)]) r236_9 rfl rfl rfl (by decide) (Nat.le_of_ble_eq_true rfl) (m235_ok rfl) (Nat.le_trans (by decide) hd) (Nat.zero_le _) (Nat.zero_le _) rfl ?_
  refine x_call1 (as := [.int (m235 D v1), .int (m235 D (v1 + (1 : Int32)))]) (rest := []) r236_12 rfl rfl rfl (by decide) (Nat.le_of_ble_eq_true rfl) (m254_ok rfl) (Nat.le_trans (by decide) hd) (Nat.zero_le _) (Nat.zero_le _) rfl ?_
  subst h
  exact x_ret (ret := some .int) (C := True) (v := some (.int _)) r236_15 rt236 rfl rfl rfl rfl rfl rfl rfl rfl trivial hQ
theorem m236_ok {D : am_D} {v1 : Int32} {r : Int32} (h : m236 D v1 = r) : am_Y xs L 236 4 0 0 [.ref 91, .int v1] D (.inl (some (.int r))) D := am_Yof (mi := am_m236) (lc := [.ref 91, .int v1]) pg236 (Nat.le_of_ble_eq_true rfl) (am_rc1 (ci := 5) rfl rfl rfl rfl rfl) rfl (fun Q hQ => m236_w (Nat.le_refl _) h hQ)
theorem r238_0 : am_at 238 0 = some (.aload_n 0, 1, [0]) := by decide +kernel
theorem r238_1 : am_at 238 1 = some (.iload_n 1, 1, [1]) := by decide +kernel
theorem r238_2 : am_at 238 2 = some (.iconst (1), 1, []) := by decide +kernel
theorem r238_3 : am_at 238 3 = some (.iadd, 1, []) := by decide +kernel
theorem r238_4 : am_at 238 4 = some (.invokevirtual 29, 3, [234, 2, 1032, 0]) := by decide +kernel
theorem r238_7 : am_at 238 7 = some (.bipush (48), 2, []) := by decide +kernel
theorem r238_9 : am_at 238 9 = some (.bipush (57), 2, []) := by decide +kernel
theorem r238_11 : am_at 238 11 = some (.invokestatic 42, 3, [248, 3, 1042, 0]) := by decide +kernel
theorem r238_14 : am_at 238 14 = some (.istore_n 2, 1, [2]) := by decide +kernel
theorem r238_15 : am_at 238 15 = some (.iload_n 2, 1, [2]) := by decide +kernel
theorem r238_16 : am_at 238 16 = some (.ifCond .eq (22), 3, [38]) := by decide +kernel
theorem r238_19 : am_at 238 19 = some (.bipush (10), 2, []) := by decide +kernel
theorem r238_21 : am_at 238 21 = some (.aload_n 0, 1, [0]) := by decide +kernel
theorem r238_22 : am_at 238 22 = some (.iload_n 1, 1, [1]) := by decide +kernel
theorem r238_23 : am_at 238 23 = some (.invokevirtual 33, 3, [235, 2, 1074, 0]) := by decide +kernel
theorem r238_26 : am_at 238 26 = some (.imul, 1, []) := by decide +kernel
theorem r238_27 : am_at 238 27 = some (.aload_n 0, 1, [0]) := by decide +kernel
theorem r238_28 : am_at 238 28 = some (.iload_n 1, 1, [1]) := by decide +kernel
theorem r238_29 : am_at 238 29 = some (.iconst (1), 1, []) := by decide +kernel
theorem r238_30 : am_at 238 30 = some (.iadd, 1, []) := by decide +kernel
theorem r238_31 : am_at 238 31 = some (.invokevirtual 33, 3, [235, 2, 1074, 0]) := by decide +kernel
theorem r238_34 : am_at 238 34 = some (.iadd, 1, []) := by decide +kernel
theorem r238_35 : am_at 238 35 = some (.goto (8), 3, [43]) := by decide +kernel
theorem r238_38 : am_at 238 38 = some (.aload_n 0, 1, [0]) := by decide +kernel
theorem r238_39 : am_at 238 39 = some (.iload_n 1, 1, [1]) := by decide +kernel
theorem r238_40 : am_at 238 40 = some (.invokevirtual 33, 3, [235, 2, 1074, 0]) := by decide +kernel
theorem r238_43 : am_at 238 43 = some (.ireturn, 1, []) := by decide +kernel
theorem rt238 : am_rtt 238 = some (some .int) := by decide +kernel
set_option maxRecDepth 100000 in
theorem pg238 : am_pg[238]? = some am_m238 := rfl
theorem m238_w {d mc ms : Nat} {D : am_D} {v1 : Int32} {Q : am_O → am_AH → Prop} (hd : 4 ≤ d) {r : Int32} (h : m238 D v1 = r) (hQ : Q (.inl (some (.int r))) (am_mk D)) : am_X xs L 238 d mc ms 0 [.ref 91, .int v1, am_dead] [] (am_mk D) 0 0 Q := by
  unfold m238 at h
  refine x_ld (v := .ref 91) r238_0 rfl rfl rfl ?_
  refine x_ld (v := .int v1) r238_1 rfl rfl rfl ?_
  refine x_ic (v := 1) r238_2 rfl rfl ?_
  refine x_ar r238_3 rfl trivial rfl ?_
  refine x_call1 (as := [.ref 91, .int (v1 + (1 : Int32))]) (rest := []) r238_4 rfl rfl rfl (by decide) (Nat.le_of_ble_eq_true rfl) (m234_ok rfl) (Nat.le_trans (by decide) hd) (Nat.zero_le _) (Nat.zero_le _) rfl ?_
  refine x_bi (v := 48) r238_7 rfl rfl ?_
  refine x_bi (v := 57) r238_9 rfl rfl ?_
  refine x_call1 (as := [.int (m234 D (v1 + (1 : Int32))), .int (48 : Int32), .int (57 : Int32)]) (rest := []) r238_11 rfl rfl rfl (by decide) (Nat.le_of_ble_eq_true rfl) (m248_ok rfl) (Nat.le_trans (by decide) hd) (Nat.zero_le _) (Nat.zero_le _) rfl ?_
  obtain ⟨x1, e2, h⟩ := am_ltE h
  refine am_topI e2 ?_
  refine x_sto (lc' := [.ref 91, .int v1, .int x1]) r238_14 rfl rfl rfl rfl ?_
  refine x_ld (v := .int x1) r238_15 rfl rfl rfl ?_
  rcases am_ifE h with ⟨c3, h⟩ | ⟨c3, h⟩
  · refine x_ifeqT r238_16 c3 ?_
    refine x_ld (v := .ref 91) r238_38 rfl rfl rfl ?_
    refine x_ld (v := .int v1) r238_39 rfl rfl rfl ?_
    refine x_call1 (as := [.ref 91, .int v1]) (rest := []) r238_40 rfl rfl rfl (by decide) (Nat.le_of_ble_eq_true rfl) (m235_ok rfl) (Nat.le_trans (by decide) hd) (Nat.zero_le _) (Nat.zero_le _) rfl ?_
    subst h
    exact x_ret (ret := some .int) (C := True) (v := some (.int _)) r238_43 rt238 rfl rfl rfl rfl rfl rfl rfl rfl trivial hQ
  · refine x_ifeqF r238_16 c3 rfl ?_
    refine x_bi (v := 10) r238_19 rfl rfl ?_
    refine x_ld (v := .ref 91) r238_21 rfl rfl rfl ?_
    refine x_ld (v := .int v1) r238_22 rfl rfl rfl ?_
    refine x_call1 (as := [.ref 91, .int v1]) (rest := [.int (10 : Int32)]) r238_23 rfl rfl rfl (by decide) (Nat.le_of_ble_eq_true rfl) (m235_ok rfl) (Nat.le_trans (by decide) hd) (Nat.zero_le _) (Nat.zero_le _) rfl ?_
    refine x_ar r238_26 rfl trivial rfl ?_
    refine x_ld (v := .ref 91) r238_27 rfl rfl rfl ?_
    refine x_ld (v := .int v1) r238_28 rfl rfl rfl ?_
    refine x_ic (v := 1) r238_29 rfl rfl ?_
    refine x_ar r238_30 rfl trivial rfl ?_
    refine x_call1 (as := [.ref 91, .int (v1 + (1 : Int32))]) (rest := [.int ((10 : Int32) * (m235 D v1))]) r238_31 rfl rfl rfl (by decide) (Nat.le_of_ble_eq_true rfl) (m235_ok rfl) (Nat.le_trans (by decide) hd) (Nat.zero_le _) (Nat.zero_le _) rfl ?_
    refine x_ar r238_34 rfl trivial rfl ?_
    refine x_goto r238_35 ?_
    subst h
    exact x_ret (ret := some .int) (C := True) (v := some (.int _)) r238_43 rt238 rfl rfl rfl rfl rfl rfl rfl rfl trivial hQ
theorem m238_ok {D : am_D} {v1 : Int32} {r : Int32} (h : m238 D v1 = r) : am_Y xs L 238 4 0 0 [.ref 91, .int v1] D (.inl (some (.int r))) D := am_Yof (mi := am_m238) (lc := [.ref 91, .int v1, am_dead]) pg238 (Nat.le_of_ble_eq_true rfl) (am_rc1 (ci := 5) rfl rfl rfl rfl rfl) rfl (fun Q hQ => m238_w (Nat.le_refl _) h hQ)
theorem r246_0 : am_at 246 0 = some (.iload_n 0, 1, [0]) := by decide +kernel
theorem r246_1 : am_at 246 1 = some (.bipush (48), 2, []) := by decide +kernel
theorem r246_3 : am_at 246 3 = some (.bipush (54), 2, []) := by decide +kernel
theorem r246_5 : am_at 246 5 = some (.invokestatic 42, 3, [248, 3, 1042, 0]) := by decide +kernel
theorem r246_8 : am_at 246 8 = some (.ifCond .eq (13), 3, [21]) := by decide +kernel
theorem r246_11 : am_at 246 11 = some (.bipush (10), 2, []) := by decide +kernel
theorem r246_13 : am_at 246 13 = some (.iload_n 0, 1, [0]) := by decide +kernel
theorem r246_14 : am_at 246 14 = some (.iadd, 1, []) := by decide +kernel
theorem r246_15 : am_at 246 15 = some (.bipush (48), 2, []) := by decide +kernel
theorem r246_17 : am_at 246 17 = some (.isub, 1, []) := by decide +kernel
theorem r246_18 : am_at 246 18 = some (.goto (4), 3, [22]) := by decide +kernel
theorem r246_21 : am_at 246 21 = some (.iconst (-1), 1, []) := by decide +kernel
theorem r246_22 : am_at 246 22 = some (.ireturn, 1, []) := by decide +kernel
theorem rt246 : am_rtt 246 = some (some .int) := by decide +kernel
set_option maxRecDepth 100000 in
theorem pg246 : am_pg[246]? = some am_m246 := rfl
theorem m246_w {d mc ms : Nat} {D : am_D} {v0 : Int32} {Q : am_O → am_AH → Prop} (hd : 2 ≤ d) {r : Int32} (h : m246 v0 = r) (hQ : Q (.inl (some (.int r))) (am_mk D)) : am_X xs L 246 d mc ms 0 [.int v0] [] (am_mk D) 0 0 Q := by
  unfold m246 at h
  refine x_ld (v := .int v0) r246_0 rfl rfl rfl ?_
  refine x_bi (v := 48) r246_1 rfl rfl ?_
  refine x_bi (v := 54) r246_3 rfl rfl ?_
  refine x_call1 (as := [.int v0, .int (48 : Int32), .int (54 : Int32)]) (rest := []) r246_5 rfl rfl rfl (by decide) (Nat.le_of_ble_eq_true rfl) (m248_ok rfl) (Nat.le_trans (by decide) hd) (Nat.zero_le _) (Nat.zero_le _) rfl ?_
  rcases am_ifE h with ⟨c1, h⟩ | ⟨c1, h⟩
  · refine x_ifeqT r246_8 c1 ?_
    refine x_ic (v := -1) r246_21 rfl rfl ?_
    subst h
    exact x_ret (ret := some .int) (C := True) (v := some (.int _)) r246_22 rt246 rfl rfl rfl rfl rfl rfl rfl rfl trivial hQ
  · refine x_ifeqF r246_8 c1 rfl ?_
    refine x_bi (v := 10) r246_11 rfl rfl ?_
    refine x_ld (v := .int v0) r246_13 rfl rfl rfl ?_
    refine x_ar r246_14 rfl trivial rfl ?_
    refine x_bi (v := 48) r246_15 rfl rfl ?_
    refine x_ar r246_17 rfl trivial rfl ?_
    refine x_goto r246_18 ?_
    subst h
    exact x_ret (ret := some .int) (C := True) (v := some (.int _)) r246_22 rt246 rfl rfl rfl rfl rfl rfl rfl rfl trivial hQ
theorem m246_ok {D : am_D} {v0 : Int32} {r : Int32} (h : m246 v0 = r) : am_Y xs L 246 2 0 0 [.int v0] D (.inl (some (.int r))) D := am_Yof (mi := am_m246) (lc := [.int v0]) pg246 (Nat.le_of_ble_eq_true rfl) (am_rc0 rfl) rfl (fun Q hQ => m246_w (Nat.le_refl _) h hQ)
theorem r247_0 : am_at 247 0 = some (.iload_n 1, 1, [1]) := by decide +kernel
theorem r247_1 : am_at 247 1 = some (.bipush (48), 2, []) := by decide +kernel
theorem r247_3 : am_at 247 3 = some (.iload_n 0, 1, [0]) := by decide +kernel
theorem r247_4 : am_at 247 4 = some (.iadd, 1, []) := by decide +kernel
theorem r247_5 : am_at 247 5 = some (.bipush (10), 2, []) := by decide +kernel
theorem r247_7 : am_at 247 7 = some (.isub, 1, []) := by decide +kernel
theorem r247_8 : am_at 247 8 = some (.bipush (54), 2, []) := by decide +kernel
theorem r247_10 : am_at 247 10 = some (.invokestatic 42, 3, [248, 3, 1042, 0]) := by decide +kernel
theorem r247_13 : am_at 247 13 = some (.ireturn, 1, []) := by decide +kernel
theorem rt247 : am_rtt 247 = some (some .boolean) := by decide +kernel
set_option maxRecDepth 100000 in
theorem pg247 : am_pg[247]? = some am_m247 := rfl
theorem m247_w {d mc ms : Nat} {D : am_D} {v0 : Int32} {v1 : Int32} {Q : am_O → am_AH → Prop} (hd : 2 ≤ d) {r : Int32} (h : m247 v0 v1 = r) (hQ : Q (.inl (some (.int r))) (am_mk D)) : am_X xs L 247 d mc ms 0 [.int v0, .int v1] [] (am_mk D) 0 0 Q := by
  unfold m247 at h
  refine x_ld (v := .int v1) r247_0 rfl rfl rfl ?_
  refine x_bi (v := 48) r247_1 rfl rfl ?_
  refine x_ld (v := .int v0) r247_3 rfl rfl rfl ?_
  refine x_ar r247_4 rfl trivial rfl ?_
  refine x_bi (v := 10) r247_5 rfl rfl ?_
  refine x_ar r247_7 rfl trivial rfl ?_
  refine x_bi (v := 54) r247_8 rfl rfl ?_
  refine x_call1 (as := [.int v1, .int (((48 : Int32) + v0) - (10 : Int32)), .int (54 : Int32)]) (rest := []) r247_10 rfl rfl rfl (by decide) (Nat.le_of_ble_eq_true rfl) (m248_ok rfl) (Nat.le_trans (by decide) hd) (Nat.zero_le _) (Nat.zero_le _) rfl ?_
  subst h
  exact x_ret (ret := some .boolean) (C := narrow .boolean (.int _) = .int _) (v := some (.int _)) r247_13 rt247 rfl rfl rfl rfl rfl rfl rfl rfl (congrArg Value.int (m248_b ..)) hQ
theorem m247_ok {D : am_D} {v0 : Int32} {v1 : Int32} {r : Int32} (h : m247 v0 v1 = r) : am_Y xs L 247 2 0 0 [.int v0, .int v1] D (.inl (some (.int r))) D := am_Yof (mi := am_m247) (lc := [.int v0, .int v1]) pg247 (Nat.le_of_ble_eq_true rfl) (am_rc0 rfl) rfl (fun Q hQ => m247_w (Nat.le_refl _) h hQ)
theorem m247_b (v0 : Int32) (v1 : Int32) : m247 v0 v1 &&& 1 = m247 v0 v1 := by
  unfold m247
  exact m248_b ..
theorem r258_0 : am_at 258 0 = some (.iconst (0), 1, []) := by decide +kernel
theorem r258_1 : am_at 258 1 = some (.istore_n 3, 1, [3]) := by decide +kernel
theorem r258_2 : am_at 258 2 = some (.iconst (0), 1, []) := by decide +kernel
theorem r258_3 : am_at 258 3 = some (.istore 4, 2, [4]) := by decide +kernel
theorem r258_5 : am_at 258 5 = some (.iload 4, 2, [4]) := by decide +kernel
theorem r258_7 : am_at 258 7 = some (.bipush (28), 2, []) := by decide +kernel
theorem r258_9 : am_at 258 9 = some (.if_icmp .ge (38), 3, [47]) := by decide +kernel
theorem r258_12 : am_at 258 12 = some (.iload_n 3, 1, [3]) := by decide +kernel
theorem r258_13 : am_at 258 13 = some (.bipush (7), 2, []) := by decide +kernel
theorem r258_15 : am_at 258 15 = some (.if_icmp .ge (32), 3, [47]) := by decide +kernel
theorem r258_18 : am_at 258 18 = some (.aload_n 1, 1, [1]) := by decide +kernel
theorem r258_19 : am_at 258 19 = some (.iload 4, 2, [4]) := by decide +kernel
theorem r258_21 : am_at 258 21 = some (.invokevirtual 15, 3, [203, 2, 619, 0]) := by decide +kernel
theorem r258_24 : am_at 258 24 = some (.iload_n 2, 1, [2]) := by decide +kernel
theorem r258_25 : am_at 258 25 = some (.if_icmp .ne (16), 3, [41]) := by decide +kernel
theorem r258_28 : am_at 258 28 = some (.aload_n 0, 1, [0]) := by decide +kernel
theorem r258_29 : am_at 258 29 = some (.getfield 9, 3, [6, 0, 3, 328]) := by decide +kernel
theorem r258_32 : am_at 258 32 = some (.iload_n 3, 1, [3]) := by decide +kernel
theorem r258_33 : am_at 258 33 = some (.iload 4, 2, [4]) := by decide +kernel
theorem r258_35 : am_at 258 35 = some (.invokestatic 21, 3, [181, 3, 620, 0]) := by decide +kernel
theorem r258_38 : am_at 258 38 = some (.iinc 3 (1), 3, [3]) := by decide +kernel
theorem r258_41 : am_at 258 41 = some (.iinc 4 (1), 3, [4]) := by decide +kernel
theorem r258_44 : am_at 258 44 = some (.goto (-39), 3, [5]) := by decide +kernel
theorem r258_47 : am_at 258 47 = some (.iconst (0), 1, []) := by decide +kernel
theorem r258_48 : am_at 258 48 = some (.istore 4, 2, [4]) := by decide +kernel
theorem r258_50 : am_at 258 50 = some (.iconst (0), 1, []) := by decide +kernel
theorem r258_51 : am_at 258 51 = some (.istore 5, 2, [5]) := by decide +kernel
theorem r258_53 : am_at 258 53 = some (.iload 5, 2, [5]) := by decide +kernel
theorem r258_55 : am_at 258 55 = some (.bipush (7), 2, []) := by decide +kernel
theorem r258_57 : am_at 258 57 = some (.if_icmp .ge (37), 3, [94]) := by decide +kernel
theorem r258_60 : am_at 258 60 = some (.iload 4, 2, [4]) := by decide +kernel
theorem r258_62 : am_at 258 62 = some (.iload_n 3, 1, [3]) := by decide +kernel
theorem r258_63 : am_at 258 63 = some (.if_icmp .ge (31), 3, [94]) := by decide +kernel
theorem r258_66 : am_at 258 66 = some (.iload 4, 2, [4]) := by decide +kernel
theorem r258_68 : am_at 258 68 = some (.aload_n 0, 1, [0]) := by decide +kernel
theorem r258_69 : am_at 258 69 = some (.getfield 9, 3, [6, 0, 3, 328]) := by decide +kernel
theorem r258_72 : am_at 258 72 = some (.iload 5, 2, [5]) := by decide +kernel
theorem r258_74 : am_at 258 74 = some (.iconst (1), 1, []) := by decide +kernel
theorem r258_75 : am_at 258 75 = some (.iload_n 3, 1, [3]) := by decide +kernel
theorem r258_76 : am_at 258 76 = some (.ishl, 1, []) := by decide +kernel
theorem r258_77 : am_at 258 77 = some (.iconst (1), 1, []) := by decide +kernel
theorem r258_78 : am_at 258 78 = some (.isub, 1, []) := by decide +kernel
theorem r258_79 : am_at 258 79 = some (.iload_n 3, 1, [3]) := by decide +kernel
theorem r258_80 : am_at 258 80 = some (.invokestatic 27, 3, [259, 4, 623, 0]) := by decide +kernel
theorem r258_83 : am_at 258 83 = some (.invokestatic 31, 3, [1000, 0, 629]) := by decide +kernel
theorem r258_86 : am_at 258 86 = some (.istore 4, 2, [4]) := by decide +kernel
theorem r258_88 : am_at 258 88 = some (.iinc 5 (1), 3, [5]) := by decide +kernel
theorem r258_91 : am_at 258 91 = some (.goto (-38), 3, [53]) := by decide +kernel
theorem r258_94 : am_at 258 94 = some (.iload 4, 2, [4]) := by decide +kernel
theorem r258_96 : am_at 258 96 = some (.ireturn, 1, []) := by decide +kernel
theorem rt258 : am_rtt 258 = some (some .int) := by decide +kernel
set_option maxRecDepth 100000 in
theorem pg258 : am_pg[258]? = some am_m258 := rfl
theorem m258_L5_w {d : Nat} {N : Nat} {v2 : Int32} {mc ms : Nat} {Q : am_O → am_AH → Prop} (hd : 14 ≤ d) : ∀ (n : Nat) (D : am_D) (v3 : Int32) (v4 : Int32) {q : Int32 × am_D} (h : m258_L5 N v2  n D v3 v4 = some q) (k0 : am_X xs L 258 d mc ms 47 [.ref 104, .ref 1, am_dead, .int q.1, am_dead, am_dead] [] (am_mk q.2) 0 0 Q), am_X xs L 258 d mc ms 5 [.ref 104, .ref 1, .int v2, .int v3, .int v4, am_dead] [] (am_mk D) 0 0 Q := by
  intro n
  induction n with
  | zero =>
    intro D v3 v4 q h k0
    exact (nomatch (show none = some q from h))
  | succ n ih =>
    intro D v3 v4 q h k0
    rw [m258_L5] at h
    refine x_ld (v := .int v4) r258_5 rfl rfl rfl ?_
    refine x_bi (v := 28) r258_7 rfl rfl ?_
    rcases am_ifE h with ⟨c1, h⟩ | ⟨c1, h⟩
    · refine x_icgeT r258_9 c1 ?_
      refine x_forget (lc0 := [.ref 104, .ref 1, am_dead, .int v3, am_dead, am_dead]) ⟨Or.inl rfl, Or.inl rfl, Or.inr ⟨rfl, rfl⟩, Or.inl rfl, Or.inr ⟨rfl, rfl⟩, Or.inl rfl, trivial⟩ ?_
      cases h
      exact k0
    · refine x_icgeF r258_9 c1 rfl ?_
      refine x_ld (v := .int v3) r258_12 rfl rfl rfl ?_
      refine x_bi (v := 7) r258_13 rfl rfl ?_
      rcases am_ifE h with ⟨c2, h⟩ | ⟨c2, h⟩
      · refine x_icgeT r258_15 c2 ?_
        refine x_forget (lc0 := [.ref 104, .ref 1, am_dead, .int v3, am_dead, am_dead]) ⟨Or.inl rfl, Or.inl rfl, Or.inr ⟨rfl, rfl⟩, Or.inl rfl, Or.inr ⟨rfl, rfl⟩, Or.inl rfl, trivial⟩ ?_
        cases h
        exact k0
      · refine x_icgeF r258_15 c2 rfl ?_
        refine x_ld (v := .ref 1) r258_18 rfl rfl rfl ?_
        refine x_ld (v := .int v4) r258_19 rfl rfl rfl ?_
        refine x_call1 (as := [.ref 1, .int v4]) (rest := []) r258_21 rfl rfl rfl (by decide) (Nat.le_of_ble_eq_true rfl) (m203_ok rfl) (Nat.le_trans (by decide) hd) (Nat.zero_le _) (Nat.zero_le _) rfl ?_
        refine x_ld (v := .int v2) r258_24 rfl rfl rfl ?_
        obtain ⟨q3, h5, h⟩ := am_ltE h
        replace h5 := h5.symm
        have kj4 : am_X xs L 258 d mc ms 41 [.ref 104, .ref 1, .int v2, .int q3.1, .int v4, am_dead] [] (am_mk q3.2) 0 0 Q := by
          obtain ⟨x11, e12, h⟩ := am_ltE h
          refine x_sto (lc' := [.ref 104, .ref 1, .int v2, .int q3.1, .int x11, am_dead]) r258_41 rfl rfl (by subst e12; rfl) rfl ?_
          refine x_goto r258_44 ?_
          exact x_forget (lc0 := [.ref 104, .ref 1, .int v2, .int q3.1, .int x11, am_dead]) ⟨Or.inl rfl, Or.inl rfl, Or.inl rfl, Or.inl rfl, Or.inl rfl, Or.inl rfl, trivial⟩ (ih q3.2 q3.1 x11 h k0)
        rcases am_ifE h5 with ⟨c6, h5⟩ | ⟨c6, h5⟩
        · refine x_icneT r258_25 c6 rfl ?_
          refine x_ld (v := .ref 104) r258_28 rfl rfl rfl ?_
          refine y_gf (cd := 107) (v := .ref 105) r258_29 rfl rfl rfl ?_
          refine x_ld (v := .int v3) r258_32 rfl rfl rfl ?_
          refine x_ld (v := .int v4) r258_33 rfl rfl rfl ?_
          obtain ⟨D7, e8, h5⟩ := am_ltE h5
          refine x_call0 (as := [.ref 105, .int v3, .int v4]) (rest := []) r258_35 rfl rfl rfl (by decide) (Nat.le_of_ble_eq_true rfl) (am_rows_put (n := 7) rfl (by decide) e8) (Nat.le_trans (by decide) hd) (Nat.zero_le _) (Nat.zero_le _) rfl ?_
          obtain ⟨x9, e10, h5⟩ := am_ltE h5
          refine x_sto (lc' := [.ref 104, .ref 1, .int v2, .int x9, .int v4, am_dead]) r258_38 rfl rfl (by subst e10; rfl) rfl ?_
          subst h5
          exact kj4
        · refine x_icneF r258_25 c6 ?_
          subst h5
          exact kj4
theorem m258_L53_w {d : Nat} {N : Nat} {D : am_D} {v3 : Int32} {mc ms : Nat} {Q : am_O → am_AH → Prop} (hd : 14 ≤ d) : ∀ (n : Nat) (v4 : Int32) (v5 : Int32) {q : Int32} (h : m258_L53 N D v3  n v4 v5 = some q) (k0 : am_X xs L 258 d mc ms 94 [.ref 104, .ref 1, am_dead, am_dead, .int q, am_dead] [] (am_mk D) 0 0 Q), am_X xs L 258 d mc ms 53 [.ref 104, .ref 1, am_dead, .int v3, .int v4, .int v5] [] (am_mk D) 0 0 Q := by
  intro n
  induction n with
  | zero =>
    intro v4 v5 q h k0
    exact (nomatch (show none = some q from h))
  | succ n ih =>
    intro v4 v5 q h k0
    rw [m258_L53] at h
    refine x_ld (v := .int v5) r258_53 rfl rfl rfl ?_
    refine x_bi (v := 7) r258_55 rfl rfl ?_
    rcases am_ifE h with ⟨c15, h⟩ | ⟨c15, h⟩
    · refine x_icgeT r258_57 c15 ?_
      refine x_forget (lc0 := [.ref 104, .ref 1, am_dead, am_dead, .int v4, am_dead]) ⟨Or.inl rfl, Or.inl rfl, Or.inl rfl, Or.inr ⟨rfl, rfl⟩, Or.inl rfl, Or.inr ⟨rfl, rfl⟩, trivial⟩ ?_
      cases h
      exact k0
    · refine x_icgeF r258_57 c15 rfl ?_
      refine x_ld (v := .int v4) r258_60 rfl rfl rfl ?_
      refine x_ld (v := .int v3) r258_62 rfl rfl rfl ?_
      rcases am_ifE h with ⟨c16, h⟩ | ⟨c16, h⟩
      · refine x_icgeT r258_63 c16 ?_
        refine x_forget (lc0 := [.ref 104, .ref 1, am_dead, am_dead, .int v4, am_dead]) ⟨Or.inl rfl, Or.inl rfl, Or.inl rfl, Or.inr ⟨rfl, rfl⟩, Or.inl rfl, Or.inr ⟨rfl, rfl⟩, trivial⟩ ?_
        cases h
        exact k0
      · refine x_icgeF r258_63 c16 rfl ?_
        refine x_ld (v := .int v4) r258_66 rfl rfl rfl ?_
        refine x_ld (v := .ref 104) r258_68 rfl rfl rfl ?_
        refine y_gf (cd := 107) (v := .ref 105) r258_69 rfl rfl rfl ?_
        refine x_ld (v := .int v5) r258_72 rfl rfl rfl ?_
        refine x_ic (v := 1) r258_74 rfl rfl ?_
        refine x_ld (v := .int v3) r258_75 rfl rfl rfl ?_
        refine x_ar r258_76 rfl trivial rfl ?_
        refine x_ic (v := 1) r258_77 rfl rfl ?_
        refine x_ar r258_78 rfl trivial rfl ?_
        refine x_ld (v := .int v3) r258_79 rfl rfl rfl ?_
        obtain ⟨q17, h18, h⟩ := Option.bind_eq_some_iff.mp h
        refine x_call1 (as := [.ref 105, .int v5, .int (((1 : Int32) <<< (v3 &&& 31)) - (1 : Int32)), .int v3]) (rest := [.int v4]) r258_80 rfl rfl rfl (by decide) (Nat.le_of_ble_eq_true rfl) (m259_ok h18) (Nat.le_trans (by decide) hd) (Nat.zero_le _) (Nat.zero_le _) rfl ?_
        refine x_sp r258_83 rfl rfl rfl rfl rfl rfl trivial rfl ?_
        obtain ⟨x19, e20, h⟩ := am_ltE h
        refine am_topI e20 ?_
        refine x_sto (lc' := [.ref 104, .ref 1, am_dead, .int v3, .int x19, .int v5]) r258_86 rfl rfl rfl rfl ?_
        obtain ⟨x21, e22, h⟩ := am_ltE h
        refine x_sto (lc' := [.ref 104, .ref 1, am_dead, .int v3, .int x19, .int x21]) r258_88 rfl rfl (by subst e22; rfl) rfl ?_
        refine x_goto r258_91 ?_
        exact x_forget (lc0 := [.ref 104, .ref 1, am_dead, .int v3, .int x19, .int x21]) ⟨Or.inl rfl, Or.inl rfl, Or.inl rfl, Or.inl rfl, Or.inl rfl, Or.inl rfl, trivial⟩ (ih x19 x21 h k0)
theorem m258_w {d mc ms : Nat} {N : Nat} {D : am_D} {v2 : Int32} {Q : am_O → am_AH → Prop} (hd : 14 ≤ d) {r : Int32 × am_D} (h : m258 N D v2 = some r) (hQ : Q (.inl (some (.int r.1))) (am_mk r.2)) : am_X xs L 258 d mc ms 0 [.ref 104, .ref 1, .int v2, am_dead, am_dead, am_dead] [] (am_mk D) 0 0 Q := by
  unfold m258 at h
  refine x_ic (v := 0) r258_0 rfl rfl ?_
  refine x_sto (lc' := [.ref 104, .ref 1, .int v2, .int (0 : Int32), am_dead, am_dead]) r258_1 rfl rfl rfl rfl ?_
  refine x_ic (v := 0) r258_2 rfl rfl ?_
  refine x_sto (lc' := [.ref 104, .ref 1, .int v2, .int (0 : Int32), .int (0 : Int32), am_dead]) r258_3 rfl rfl rfl rfl ?_
  obtain ⟨q13, h14, h⟩ := Option.bind_eq_some_iff.mp h
  refine x_forget (lc0 := [.ref 104, .ref 1, .int v2, .int (0 : Int32), .int (0 : Int32), am_dead]) ⟨Or.inl rfl, Or.inl rfl, Or.inl rfl, Or.inl rfl, Or.inl rfl, Or.inl rfl, trivial⟩ (m258_L5_w hd N D (0 : Int32) (0 : Int32) h14 ?_)
  refine x_ic (v := 0) r258_47 rfl rfl ?_
  refine x_sto (lc' := [.ref 104, .ref 1, am_dead, .int q13.1, .int (0 : Int32), am_dead]) r258_48 rfl rfl rfl rfl ?_
  refine x_ic (v := 0) r258_50 rfl rfl ?_
  refine x_sto (lc' := [.ref 104, .ref 1, am_dead, .int q13.1, .int (0 : Int32), .int (0 : Int32)]) r258_51 rfl rfl rfl rfl ?_
  obtain ⟨q23, h24, h⟩ := Option.bind_eq_some_iff.mp h
  refine x_forget (lc0 := [.ref 104, .ref 1, am_dead, .int q13.1, .int (0 : Int32), .int (0 : Int32)]) ⟨Or.inl rfl, Or.inl rfl, Or.inl rfl, Or.inl rfl, Or.inl rfl, Or.inl rfl, trivial⟩ (m258_L53_w hd N (0 : Int32) (0 : Int32) h24 ?_)
  refine x_ld (v := .int q23) r258_94 rfl rfl rfl ?_
  cases h
  exact x_ret (ret := some .int) (C := True) (v := some (.int _)) r258_96 rt258 rfl rfl rfl rfl rfl rfl rfl rfl trivial hQ
theorem m258_ok {N : Nat} {D : am_D} {v2 : Int32} {r : Int32 × am_D} (h : m258 N D v2 = some r) : am_Y xs L 258 14 0 0 [.ref 104, .ref 1, .int v2] D (.inl (some (.int r.1))) r.2 := am_Yof (mi := am_m258) (lc := [.ref 104, .ref 1, .int v2, am_dead, am_dead, am_dead]) pg258 (Nat.le_of_ble_eq_true rfl) (am_rc1 (ci := 6) rfl rfl rfl rfl rfl) rfl (fun Q hQ => m258_w (Nat.le_refl _) h hQ)
theorem r260_0 : am_at 260 0 = some (.aload_n 3, 1, [3]) := by decide +kernel
theorem r260_1 : am_at 260 1 = some (.iconst (0), 1, []) := by decide +kernel
theorem r260_2 : am_at 260 2 = some (.aload_n 0, 1, [0]) := by decide +kernel
theorem r260_3 : am_at 260 3 = some (.iload_n 1, 1, [1]) := by decide +kernel
theorem r260_4 : am_at 260 4 = some (.iload_n 2, 1, [2]) := by decide +kernel
theorem r260_5 : am_at 260 5 = some (.invokevirtual 7, 3, [1, 3, 795, 0, 1, 15, 4, 13, 3, 19, 4, 17]) := by decide +kernel
theorem r260_8 : am_at 260 8 = some (.i2l, 1, []) := by decide +kernel
theorem r260_9 : am_at 260 9 = some (.lastore, 1, []) := by decide +kernel
theorem r260_10 : am_at 260 10 = some (.goto (11), 3, [21]) := by decide +kernel
theorem r260_15 : am_at 260 15 = some (.iconst (1), 1, []) := by decide +kernel
theorem r260_16 : am_at 260 16 = some (.ireturn, 1, []) := by decide +kernel
theorem r260_19 : am_at 260 19 = some (.iconst (2), 1, []) := by decide +kernel
theorem r260_20 : am_at 260 20 = some (.ireturn, 1, []) := by decide +kernel
theorem r260_21 : am_at 260 21 = some (.iconst (0), 1, []) := by decide +kernel
theorem r260_22 : am_at 260 22 = some (.ireturn, 1, []) := by decide +kernel
theorem rt260 : am_rtt 260 = some (some .int) := by decide +kernel
set_option maxRecDepth 100000 in
theorem pg260 : am_pg[260]? = some am_m260 := rfl
theorem m260_w {d mc ms : Nat} {N : Nat} {D : am_D} {v1 : Int32} {v2 : Int32} {Q : am_O → am_AH → Prop} (hd : 6 ≤ d) {r : Int32 × am_D} (h : m260 N D v1 v2 = some r) (hE1 : ∀ x : Nat, 0 + 1 ≤ mc) (hE2 : ∀ x : Nat, 0 + 6 ≤ ms) (hQ : Q (.inl (some (.int r.1))) (am_mk r.2)) : am_X xs L 260 d mc ms 0 [.ref 0, .int v1, .int v2, .ref 124, am_dead] [] (am_mk D) 0 0 Q := by
  unfold m260 at h
  refine x_ld (v := .ref 124) r260_0 rfl rfl rfl ?_
  refine x_ic (v := 0) r260_1 rfl rfl ?_
  refine x_ld (v := .ref 0) r260_2 rfl rfl rfl ?_
  refine x_ld (v := .int v1) r260_3 rfl rfl rfl ?_
  refine x_ld (v := .int v2) r260_4 rfl rfl rfl ?_
  obtain ⟨q1, h2, h⟩ := Option.bind_eq_some_iff.mp h
  rcases am_chE h with ⟨x3, h4, h⟩ | ⟨E7, h4, h⟩
  · refine x_call1 (as := [.ref 0, .int v1, .int v2]) (rest := [.int (0 : Int32), .ref 124]) r260_5 rfl rfl rfl (by decide) (Nat.le_of_ble_eq_true rfl) (m1_okv h2 h4) (Nat.le_trans (by decide) hd) (Nat.zero_le _) (Nat.zero_le _) rfl ?_
    refine x_ar r260_8 rfl trivial rfl ?_
    obtain ⟨D5, e6, h⟩ := am_ltE h
    refine y_las (n := 1) r260_9 rfl (by decide) (by decide) (e := 0) (by decide) e6 rfl ?_
    refine x_goto r260_10 ?_
    refine x_ic (v := 0) r260_21 rfl rfl ?_
    cases h
    exact x_ret (ret := some .int) (C := True) (v := some (.int _)) r260_22 rt260 rfl rfl rfl rfl rfl rfl rfl rfl trivial hQ
  · rcases am_ifE h with ⟨c8, h⟩ | ⟨c8, h⟩
    · rw [c8] at h4
      refine x_callH (as := [.ref 0, .int v1, .int v2]) (rest := [.int (0 : Int32), .ref 124]) (p' := 15) (il := 4) r260_5 rfl rfl rfl (by decide) (Nat.le_of_ble_eq_true rfl) (m1_exv h2 h4) (Nat.le_trans (by decide) hd) (hE1 0) (hE2 0) rfl (Nat.le_of_ble_eq_true rfl) ?_
      refine x_ic (v := 1) r260_15 rfl rfl ?_
      cases h
      exact x_ret (ret := some .int) (C := True) (v := some (.int _)) r260_16 rt260 rfl rfl rfl rfl rfl rfl rfl rfl trivial hQ
    · rcases am_ifE h with ⟨c9, h⟩ | ⟨c9, h⟩
      · rw [c9] at h4
        refine x_callH (as := [.ref 0, .int v1, .int v2]) (rest := [.int (0 : Int32), .ref 124]) (p' := 19) (il := 4) r260_5 rfl rfl rfl (by decide) (Nat.le_of_ble_eq_true rfl) (m1_exv h2 h4) (Nat.le_trans (by decide) hd) (hE1 0) (hE2 0) rfl (Nat.le_of_ble_eq_true rfl) ?_
        refine x_ic (v := 2) r260_19 rfl rfl ?_
        cases h
        exact x_ret (ret := some .int) (C := True) (v := some (.int _)) r260_20 rt260 rfl rfl rfl rfl rfl rfl rfl rfl trivial hQ
      · cases h
theorem m260_ok {N : Nat} {D : am_D} {v1 : Int32} {v2 : Int32} {r : Int32 × am_D} (h : m260 N D v1 v2 = some r) : am_Y xs L 260 6 1 6 [.ref 0, .int v1, .int v2, .ref 124] D (.inl (some (.int r.1))) r.2 := am_Yof (mi := am_m260) (lc := [.ref 0, .int v1, .int v2, .ref 124, am_dead]) pg260 (Nat.le_of_ble_eq_true rfl) (am_rc0 rfl) rfl (fun Q hQ => m260_w (Nat.le_refl _) h (fun _ => Nat.le_refl _) (fun _ => Nat.le_refl _) hQ)
theorem r263_0 : am_at 263 0 = some (.aload_n 1, 1, [1]) := by decide +kernel
theorem r263_1 : am_at 263 1 = some (.iconst (0), 1, []) := by decide +kernel
theorem r263_2 : am_at 263 2 = some (.aload_n 0, 1, [0]) := by decide +kernel
theorem r263_3 : am_at 263 3 = some (.invokevirtual 26, 3, [4, 1, 875, 0, 3, 12, 2, 11]) := by decide +kernel
theorem r263_6 : am_at 263 6 = some (.i2l, 1, []) := by decide +kernel
theorem r263_7 : am_at 263 7 = some (.lastore, 1, []) := by decide +kernel
theorem r263_8 : am_at 263 8 = some (.goto (6), 3, [14]) := by decide +kernel
theorem r263_12 : am_at 263 12 = some (.iconst (1), 1, []) := by decide +kernel
theorem r263_13 : am_at 263 13 = some (.ireturn, 1, []) := by decide +kernel
theorem r263_14 : am_at 263 14 = some (.iconst (0), 1, []) := by decide +kernel
theorem r263_15 : am_at 263 15 = some (.ireturn, 1, []) := by decide +kernel
theorem rt263 : am_rtt 263 = some (some .int) := by decide +kernel
set_option maxRecDepth 100000 in
theorem pg263 : am_pg[263]? = some am_m263 := rfl
theorem m263_w {d mc ms : Nat} {N : Nat} {D : am_D} {Q : am_O → am_AH → Prop} (hd : 6 ≤ d) {r : Int32 × am_D} (h : m263 N D = some r) (hE1 : ∀ x : Nat, 0 + 1 ≤ mc) (hE2 : ∀ x : Nat, 0 + 6 ≤ ms) (hQ : Q (.inl (some (.int r.1))) (am_mk r.2)) : am_X xs L 263 d mc ms 0 [.ref 0, .ref 124, am_dead] [] (am_mk D) 0 0 Q := by
  unfold m263 at h
  refine x_ld (v := .ref 124) r263_0 rfl rfl rfl ?_
  refine x_ic (v := 0) r263_1 rfl rfl ?_
  refine x_ld (v := .ref 0) r263_2 rfl rfl rfl ?_
  obtain ⟨q1, h2, h⟩ := Option.bind_eq_some_iff.mp h
  rcases am_chE h with ⟨x3, h4, h⟩ | ⟨E7, h4, h⟩
  · refine x_call1 (as := [.ref 0]) (rest := [.int (0 : Int32), .ref 124]) r263_3 rfl rfl rfl (by decide) (Nat.le_of_ble_eq_true rfl) (m4_okv h2 h4) (Nat.le_trans (by decide) hd) (Nat.zero_le _) (Nat.zero_le _) rfl ?_
    refine x_ar r263_6 rfl trivial rfl ?_
    obtain ⟨D5, e6, h⟩ := am_ltE h
    refine y_las (n := 1) r263_7 rfl (by decide) (by decide) (e := 0) (by decide) e6 rfl ?_
    refine x_goto r263_8 ?_
    refine x_ic (v := 0) r263_14 rfl rfl ?_
    cases h
    exact x_ret (ret := some .int) (C := True) (v := some (.int _)) r263_15 rt263 rfl rfl rfl rfl rfl rfl rfl rfl trivial hQ
  · rcases am_ifE h with ⟨c8, h⟩ | ⟨c8, h⟩
    · rw [c8] at h4
      refine x_callH (as := [.ref 0]) (rest := [.int (0 : Int32), .ref 124]) (p' := 12) (il := 2) r263_3 rfl rfl rfl (by decide) (Nat.le_of_ble_eq_true rfl) (m4_exv h2 h4) (Nat.le_trans (by decide) hd) (hE1 0) (hE2 0) rfl (Nat.le_of_ble_eq_true rfl) ?_
      refine x_ic (v := 1) r263_12 rfl rfl ?_
      cases h
      exact x_ret (ret := some .int) (C := True) (v := some (.int _)) r263_13 rt263 rfl rfl rfl rfl rfl rfl rfl rfl trivial hQ
    · cases h
theorem m263_ok {N : Nat} {D : am_D} {r : Int32 × am_D} (h : m263 N D = some r) : am_Y xs L 263 6 1 6 [.ref 0, .ref 124] D (.inl (some (.int r.1))) r.2 := am_Yof (mi := am_m263) (lc := [.ref 0, .ref 124, am_dead]) pg263 (Nat.le_of_ble_eq_true rfl) (am_rc0 rfl) rfl (fun Q hQ => m263_w (Nat.le_refl _) h (fun _ => Nat.le_refl _) (fun _ => Nat.le_refl _) hQ)
theorem r266_0 : am_at 266 0 = some (.aload_n 2, 1, [2]) := by decide +kernel
theorem r266_1 : am_at 266 1 = some (.iconst (0), 1, []) := by decide +kernel
theorem r266_2 : am_at 266 2 = some (.aload_n 0, 1, [0]) := by decide +kernel
theorem r266_3 : am_at 266 3 = some (.iload_n 1, 1, [1]) := by decide +kernel
theorem r266_4 : am_at 266 4 = some (.invokevirtual 37, 3, [7, 2, 968, 0, 2, 13, 3, 12, 3, 16, 3, 15]) := by decide +kernel
theorem r266_7 : am_at 266 7 = some (.i2l, 1, []) := by decide +kernel
theorem r266_8 : am_at 266 8 = some (.lastore, 1, []) := by decide +kernel
theorem r266_9 : am_at 266 9 = some (.goto (9), 3, [18]) := by decide +kernel
theorem r266_13 : am_at 266 13 = some (.iconst (1), 1, []) := by decide +kernel
theorem r266_14 : am_at 266 14 = some (.ireturn, 1, []) := by decide +kernel
theorem r266_16 : am_at 266 16 = some (.iconst (2), 1, []) := by decide +kernel
theorem r266_17 : am_at 266 17 = some (.ireturn, 1, []) := by decide +kernel
theorem r266_18 : am_at 266 18 = some (.iconst (0), 1, []) := by decide +kernel
theorem r266_19 : am_at 266 19 = some (.ireturn, 1, []) := by decide +kernel
theorem rt266 : am_rtt 266 = some (some .int) := by decide +kernel
set_option maxRecDepth 100000 in
theorem pg266 : am_pg[266]? = some am_m266 := rfl
theorem m266_w {d mc ms : Nat} {D : am_D} {v1 : Int32} {Q : am_O → am_AH → Prop} (hd : 6 ≤ d) {r : Int32 × am_D} (h : m266 D v1 = some r) (hE1 : ∀ x : Nat, 0 + 1 ≤ mc) (hE2 : ∀ x : Nat, 0 + 6 ≤ ms) (hQ : Q (.inl (some (.int r.1))) (am_mk r.2)) : am_X xs L 266 d mc ms 0 [.ref 0, .int v1, .ref 124, am_dead] [] (am_mk D) 0 0 Q := by
  unfold m266 at h
  refine x_ld (v := .ref 124) r266_0 rfl rfl rfl ?_
  refine x_ic (v := 0) r266_1 rfl rfl ?_
  refine x_ld (v := .ref 0) r266_2 rfl rfl rfl ?_
  refine x_ld (v := .int v1) r266_3 rfl rfl rfl ?_
  obtain ⟨q1, h2, h⟩ := Option.bind_eq_some_iff.mp h
  rcases am_chE h with ⟨x3, h4, h⟩ | ⟨E7, h4, h⟩
  · refine x_call1 (as := [.ref 0, .int v1]) (rest := [.int (0 : Int32), .ref 124]) r266_4 rfl rfl rfl (by decide) (Nat.le_of_ble_eq_true rfl) (m7_okv h2 h4) (Nat.le_trans (by decide) hd) (Nat.zero_le _) (Nat.zero_le _) rfl ?_
    refine x_ar r266_7 rfl trivial rfl ?_
    obtain ⟨D5, e6, h⟩ := am_ltE h
    refine y_las (n := 1) r266_8 rfl (by decide) (by decide) (e := 0) (by decide) e6 rfl ?_
    refine x_goto r266_9 ?_
    refine x_ic (v := 0) r266_18 rfl rfl ?_
    cases h
    exact x_ret (ret := some .int) (C := True) (v := some (.int _)) r266_19 rt266 rfl rfl rfl rfl rfl rfl rfl rfl trivial hQ
  · rcases am_ifE h with ⟨c8, h⟩ | ⟨c8, h⟩
    · rw [c8] at h4
      refine x_callH (as := [.ref 0, .int v1]) (rest := [.int (0 : Int32), .ref 124]) (p' := 13) (il := 3) r266_4 rfl rfl rfl (by decide) (Nat.le_of_ble_eq_true rfl) (m7_exv h2 h4) (Nat.le_trans (by decide) hd) (hE1 0) (hE2 0) rfl (Nat.le_of_ble_eq_true rfl) ?_
      refine x_ic (v := 1) r266_13 rfl rfl ?_
      cases h
      exact x_ret (ret := some .int) (C := True) (v := some (.int _)) r266_14 rt266 rfl rfl rfl rfl rfl rfl rfl rfl trivial hQ
    · rcases am_ifE h with ⟨c9, h⟩ | ⟨c9, h⟩
      · rw [c9] at h4
        refine x_callH (as := [.ref 0, .int v1]) (rest := [.int (0 : Int32), .ref 124]) (p' := 16) (il := 3) r266_4 rfl rfl rfl (by decide) (Nat.le_of_ble_eq_true rfl) (m7_exv h2 h4) (Nat.le_trans (by decide) hd) (hE1 0) (hE2 0) rfl (Nat.le_of_ble_eq_true rfl) ?_
        refine x_ic (v := 2) r266_16 rfl rfl ?_
        cases h
        exact x_ret (ret := some .int) (C := True) (v := some (.int _)) r266_17 rt266 rfl rfl rfl rfl rfl rfl rfl rfl trivial hQ
      · cases h
theorem m266_ok {D : am_D} {v1 : Int32} {r : Int32 × am_D} (h : m266 D v1 = some r) : am_Y xs L 266 6 1 6 [.ref 0, .int v1, .ref 124] D (.inl (some (.int r.1))) r.2 := am_Yof (mi := am_m266) (lc := [.ref 0, .int v1, .ref 124, am_dead]) pg266 (Nat.le_of_ble_eq_true rfl) (am_rc0 rfl) rfl (fun Q hQ => m266_w (Nat.le_refl _) h (fun _ => Nat.le_refl _) (fun _ => Nat.le_refl _) hQ)
theorem r267_0 : am_at 267 0 = some (.aload_n 2, 1, [2]) := by decide +kernel
theorem r267_1 : am_at 267 1 = some (.iconst (0), 1, []) := by decide +kernel
theorem r267_2 : am_at 267 2 = some (.aload_n 0, 1, [0]) := by decide +kernel
theorem r267_3 : am_at 267 3 = some (.iload_n 1, 1, [1]) := by decide +kernel
theorem r267_4 : am_at 267 4 = some (.invokevirtual 40, 3, [8, 2, 984, 0, 2, 13, 3, 12, 3, 16, 3, 15]) := by decide +kernel
theorem r267_7 : am_at 267 7 = some (.i2l, 1, []) := by decide +kernel
theorem r267_8 : am_at 267 8 = some (.lastore, 1, []) := by decide +kernel
theorem r267_9 : am_at 267 9 = some (.goto (9), 3, [18]) := by decide +kernel
theorem r267_13 : am_at 267 13 = some (.iconst (1), 1, []) := by decide +kernel
theorem r267_14 : am_at 267 14 = some (.ireturn, 1, []) := by decide +kernel
theorem r267_16 : am_at 267 16 = some (.iconst (2), 1, []) := by decide +kernel
theorem r267_17 : am_at 267 17 = some (.ireturn, 1, []) := by decide +kernel
theorem r267_18 : am_at 267 18 = some (.iconst (0), 1, []) := by decide +kernel
theorem r267_19 : am_at 267 19 = some (.ireturn, 1, []) := by decide +kernel
theorem rt267 : am_rtt 267 = some (some .int) := by decide +kernel
set_option maxRecDepth 100000 in
theorem pg267 : am_pg[267]? = some am_m267 := rfl
theorem m267_w {d mc ms : Nat} {D : am_D} {v1 : Int32} {Q : am_O → am_AH → Prop} (hd : 6 ≤ d) {r : Int32 × am_D} (h : m267 D v1 = some r) (hE1 : ∀ x : Nat, 0 + 1 ≤ mc) (hE2 : ∀ x : Nat, 0 + 6 ≤ ms) (hQ : Q (.inl (some (.int r.1))) (am_mk r.2)) : am_X xs L 267 d mc ms 0 [.ref 0, .int v1, .ref 124, am_dead] [] (am_mk D) 0 0 Q := by
  unfold m267 at h
  refine x_ld (v := .ref 124) r267_0 rfl rfl rfl ?_
  refine x_ic (v := 0) r267_1 rfl rfl ?_
  refine x_ld (v := .ref 0) r267_2 rfl rfl rfl ?_
  refine x_ld (v := .int v1) r267_3 rfl rfl rfl ?_
  obtain ⟨q1, h2, h⟩ := Option.bind_eq_some_iff.mp h
  rcases am_chE h with ⟨x3, h4, h⟩ | ⟨E7, h4, h⟩
  · refine x_call1 (as := [.ref 0, .int v1]) (rest := [.int (0 : Int32), .ref 124]) r267_4 rfl rfl rfl (by decide) (Nat.le_of_ble_eq_true rfl) (m8_okv h2 h4) (Nat.le_trans (by decide) hd) (Nat.zero_le _) (Nat.zero_le _) rfl ?_
    refine x_ar r267_7 rfl trivial rfl ?_
    obtain ⟨D5, e6, h⟩ := am_ltE h
    refine y_las (n := 1) r267_8 rfl (by decide) (by decide) (e := 0) (by decide) e6 rfl ?_
    refine x_goto r267_9 ?_
    refine x_ic (v := 0) r267_18 rfl rfl ?_
    cases h
    exact x_ret (ret := some .int) (C := True) (v := some (.int _)) r267_19 rt267 rfl rfl rfl rfl rfl rfl rfl rfl trivial hQ
  · rcases am_ifE h with ⟨c8, h⟩ | ⟨c8, h⟩
    · rw [c8] at h4
      refine x_callH (as := [.ref 0, .int v1]) (rest := [.int (0 : Int32), .ref 124]) (p' := 13) (il := 3) r267_4 rfl rfl rfl (by decide) (Nat.le_of_ble_eq_true rfl) (m8_exv h2 h4) (Nat.le_trans (by decide) hd) (hE1 0) (hE2 0) rfl (Nat.le_of_ble_eq_true rfl) ?_
      refine x_ic (v := 1) r267_13 rfl rfl ?_
      cases h
      exact x_ret (ret := some .int) (C := True) (v := some (.int _)) r267_14 rt267 rfl rfl rfl rfl rfl rfl rfl rfl trivial hQ
    · rcases am_ifE h with ⟨c9, h⟩ | ⟨c9, h⟩
      · rw [c9] at h4
        refine x_callH (as := [.ref 0, .int v1]) (rest := [.int (0 : Int32), .ref 124]) (p' := 16) (il := 3) r267_4 rfl rfl rfl (by decide) (Nat.le_of_ble_eq_true rfl) (m8_exv h2 h4) (Nat.le_trans (by decide) hd) (hE1 0) (hE2 0) rfl (Nat.le_of_ble_eq_true rfl) ?_
        refine x_ic (v := 2) r267_16 rfl rfl ?_
        cases h
        exact x_ret (ret := some .int) (C := True) (v := some (.int _)) r267_17 rt267 rfl rfl rfl rfl rfl rfl rfl rfl trivial hQ
      · cases h
theorem m267_ok {D : am_D} {v1 : Int32} {r : Int32 × am_D} (h : m267 D v1 = some r) : am_Y xs L 267 6 1 6 [.ref 0, .int v1, .ref 124] D (.inl (some (.int r.1))) r.2 := am_Yof (mi := am_m267) (lc := [.ref 0, .int v1, .ref 124, am_dead]) pg267 (Nat.le_of_ble_eq_true rfl) (am_rc0 rfl) rfl (fun Q hQ => m267_w (Nat.le_refl _) h (fun _ => Nat.le_refl _) (fun _ => Nat.le_refl _) hQ)
theorem r268_0 : am_at 268 0 = some (.aload_n 2, 1, [2]) := by decide +kernel
theorem r268_1 : am_at 268 1 = some (.iconst (0), 1, []) := by decide +kernel
theorem r268_2 : am_at 268 2 = some (.aload_n 0, 1, [0]) := by decide +kernel
theorem r268_3 : am_at 268 3 = some (.iload_n 1, 1, [1]) := by decide +kernel
theorem r268_4 : am_at 268 4 = some (.invokevirtual 43, 3, [9, 2, 997, 0, 2, 13, 3, 12]) := by decide +kernel
theorem r268_7 : am_at 268 7 = some (.i2l, 1, []) := by decide +kernel
theorem r268_8 : am_at 268 8 = some (.lastore, 1, []) := by decide +kernel
theorem r268_9 : am_at 268 9 = some (.goto (6), 3, [15]) := by decide +kernel
theorem r268_13 : am_at 268 13 = some (.iconst (1), 1, []) := by decide +kernel
theorem r268_14 : am_at 268 14 = some (.ireturn, 1, []) := by decide +kernel
theorem r268_15 : am_at 268 15 = some (.iconst (0), 1, []) := by decide +kernel
theorem r268_16 : am_at 268 16 = some (.ireturn, 1, []) := by decide +kernel
theorem rt268 : am_rtt 268 = some (some .int) := by decide +kernel
set_option maxRecDepth 100000 in
theorem pg268 : am_pg[268]? = some am_m268 := rfl
theorem m268_w {d mc ms : Nat} {D : am_D} {v1 : Int32} {Q : am_O → am_AH → Prop} (hd : 6 ≤ d) {r : Int32 × am_D} (h : m268 D v1 = some r) (hE1 : ∀ x : Nat, 0 + 1 ≤ mc) (hE2 : ∀ x : Nat, 0 + 6 ≤ ms) (hQ : Q (.inl (some (.int r.1))) (am_mk r.2)) : am_X xs L 268 d mc ms 0 [.ref 0, .int v1, .ref 124, am_dead] [] (am_mk D) 0 0 Q := by
  unfold m268 at h
  refine x_ld (v := .ref 124) r268_0 rfl rfl rfl ?_
  refine x_ic (v := 0) r268_1 rfl rfl ?_
  refine x_ld (v := .ref 0) r268_2 rfl rfl rfl ?_
  refine x_ld (v := .int v1) r268_3 rfl rfl rfl ?_
  obtain ⟨q1, h2, h⟩ := Option.bind_eq_some_iff.mp h
  rcases am_chE h with ⟨x3, h4, h⟩ | ⟨E7, h4, h⟩
  · refine x_call1 (as := [.ref 0, .int v1]) (rest := [.int (0 : Int32), .ref 124]) r268_4 rfl rfl rfl (by decide) (Nat.le_of_ble_eq_true rfl) (m9_okv h2 h4) (Nat.le_trans (by decide) hd) (Nat.zero_le _) (Nat.zero_le _) rfl ?_
    refine x_ar r268_7 rfl trivial rfl ?_
    obtain ⟨D5, e6, h⟩ := am_ltE h
    refine y_las (n := 1) r268_8 rfl (by decide) (by decide) (e := 0) (by decide) e6 rfl ?_
    refine x_goto r268_9 ?_
    refine x_ic (v := 0) r268_15 rfl rfl ?_
    cases h
    exact x_ret (ret := some .int) (C := True) (v := some (.int _)) r268_16 rt268 rfl rfl rfl rfl rfl rfl rfl rfl trivial hQ
  · rcases am_ifE h with ⟨c8, h⟩ | ⟨c8, h⟩
    · rw [c8] at h4
      refine x_callH (as := [.ref 0, .int v1]) (rest := [.int (0 : Int32), .ref 124]) (p' := 13) (il := 3) r268_4 rfl rfl rfl (by decide) (Nat.le_of_ble_eq_true rfl) (m9_exv h2 h4) (Nat.le_trans (by decide) hd) (hE1 0) (hE2 0) rfl (Nat.le_of_ble_eq_true rfl) ?_
      refine x_ic (v := 1) r268_13 rfl rfl ?_
      cases h
      exact x_ret (ret := some .int) (C := True) (v := some (.int _)) r268_14 rt268 rfl rfl rfl rfl rfl rfl rfl rfl trivial hQ
    · cases h
theorem m268_ok {D : am_D} {v1 : Int32} {r : Int32 × am_D} (h : m268 D v1 = some r) : am_Y xs L 268 6 1 6 [.ref 0, .int v1, .ref 124] D (.inl (some (.int r.1))) r.2 := am_Yof (mi := am_m268) (lc := [.ref 0, .int v1, .ref 124, am_dead]) pg268 (Nat.le_of_ble_eq_true rfl) (am_rc0 rfl) rfl (fun Q hQ => m268_w (Nat.le_refl _) h (fun _ => Nat.le_refl _) (fun _ => Nat.le_refl _) hQ)
theorem r269_0 : am_at 269 0 = some (.aload_n 2, 1, [2]) := by decide +kernel
theorem r269_1 : am_at 269 1 = some (.iconst (0), 1, []) := by decide +kernel
theorem r269_2 : am_at 269 2 = some (.aload_n 0, 1, [0]) := by decide +kernel
theorem r269_3 : am_at 269 3 = some (.iload_n 1, 1, [1]) := by decide +kernel
theorem r269_4 : am_at 269 4 = some (.invokevirtual 46, 3, [10, 2, 1005, 0, 2, 13, 3, 12, 3, 16, 3, 15]) := by decide +kernel
theorem r269_7 : am_at 269 7 = some (.i2l, 1, []) := by decide +kernel
theorem r269_8 : am_at 269 8 = some (.lastore, 1, []) := by decide +kernel
theorem r269_9 : am_at 269 9 = some (.goto (9), 3, [18]) := by decide +kernel
theorem r269_13 : am_at 269 13 = some (.iconst (1), 1, []) := by decide +kernel
theorem r269_14 : am_at 269 14 = some (.ireturn, 1, []) := by decide +kernel
theorem r269_16 : am_at 269 16 = some (.iconst (2), 1, []) := by decide +kernel
theorem r269_17 : am_at 269 17 = some (.ireturn, 1, []) := by decide +kernel
theorem r269_18 : am_at 269 18 = some (.iconst (0), 1, []) := by decide +kernel
theorem r269_19 : am_at 269 19 = some (.ireturn, 1, []) := by decide +kernel
theorem rt269 : am_rtt 269 = some (some .int) := by decide +kernel
set_option maxRecDepth 100000 in
theorem pg269 : am_pg[269]? = some am_m269 := rfl
theorem m269_w {d mc ms : Nat} {D : am_D} {v1 : Int32} {Q : am_O → am_AH → Prop} (hd : 4 ≤ d) {r : Int32 × am_D} (h : m269 D v1 = some r) (hE1 : ∀ x : Nat, 0 + 1 ≤ mc) (hE2 : ∀ x : Nat, 0 + 6 ≤ ms) (hQ : Q (.inl (some (.int r.1))) (am_mk r.2)) : am_X xs L 269 d mc ms 0 [.ref 0, .int v1, .ref 124, am_dead] [] (am_mk D) 0 0 Q := by
  unfold m269 at h
  refine x_ld (v := .ref 124) r269_0 rfl rfl rfl ?_
  refine x_ic (v := 0) r269_1 rfl rfl ?_
  refine x_ld (v := .ref 0) r269_2 rfl rfl rfl ?_
  refine x_ld (v := .int v1) r269_3 rfl rfl rfl ?_
  obtain ⟨q1, h2, h⟩ := am_ltE h
  replace h2 := h2.symm
  rcases am_chE h with ⟨x3, h4, h⟩ | ⟨E7, h4, h⟩
  · refine x_call1 (as := [.ref 0, .int v1]) (rest := [.int (0 : Int32), .ref 124]) r269_4 rfl rfl rfl (by decide) (Nat.le_of_ble_eq_true rfl) (m10_okv h2 h4) (Nat.le_trans (by decide) hd) (Nat.zero_le _) (Nat.zero_le _) rfl ?_
    refine x_ar r269_7 rfl trivial rfl ?_
    obtain ⟨D5, e6, h⟩ := am_ltE h
    refine y_las (n := 1) r269_8 rfl (by decide) (by decide) (e := 0) (by decide) e6 rfl ?_
    refine x_goto r269_9 ?_
    refine x_ic (v := 0) r269_18 rfl rfl ?_
    cases h
    exact x_ret (ret := some .int) (C := True) (v := some (.int _)) r269_19 rt269 rfl rfl rfl rfl rfl rfl rfl rfl trivial hQ
  · rcases am_ifE h with ⟨c8, h⟩ | ⟨c8, h⟩
    · rw [c8] at h4
      refine x_callH (as := [.ref 0, .int v1]) (rest := [.int (0 : Int32), .ref 124]) (p' := 13) (il := 3) r269_4 rfl rfl rfl (by decide) (Nat.le_of_ble_eq_true rfl) (m10_exv h2 h4) (Nat.le_trans (by decide) hd) (hE1 0) (hE2 0) rfl (Nat.le_of_ble_eq_true rfl) ?_
      refine x_ic (v := 1) r269_13 rfl rfl ?_
      cases h
      exact x_ret (ret := some .int) (C := True) (v := some (.int _)) r269_14 rt269 rfl rfl rfl rfl rfl rfl rfl rfl trivial hQ
    · rcases am_ifE h with ⟨c9, h⟩ | ⟨c9, h⟩
      · rw [c9] at h4
        refine x_callH (as := [.ref 0, .int v1]) (rest := [.int (0 : Int32), .ref 124]) (p' := 16) (il := 3) r269_4 rfl rfl rfl (by decide) (Nat.le_of_ble_eq_true rfl) (m10_exv h2 h4) (Nat.le_trans (by decide) hd) (hE1 0) (hE2 0) rfl (Nat.le_of_ble_eq_true rfl) ?_
        refine x_ic (v := 2) r269_16 rfl rfl ?_
        cases h
        exact x_ret (ret := some .int) (C := True) (v := some (.int _)) r269_17 rt269 rfl rfl rfl rfl rfl rfl rfl rfl trivial hQ
      · cases h
theorem m269_ok {D : am_D} {v1 : Int32} {r : Int32 × am_D} (h : m269 D v1 = some r) : am_Y xs L 269 4 1 6 [.ref 0, .int v1, .ref 124] D (.inl (some (.int r.1))) r.2 := am_Yof (mi := am_m269) (lc := [.ref 0, .int v1, .ref 124, am_dead]) pg269 (Nat.le_of_ble_eq_true rfl) (am_rc0 rfl) rfl (fun Q hQ => m269_w (Nat.le_refl _) h (fun _ => Nat.le_refl _) (fun _ => Nat.le_refl _) hQ)
theorem r273_0 : am_at 273 0 = some (.aload_n 1, 1, [1]) := by decide +kernel
theorem r273_1 : am_at 273 1 = some (.iconst (0), 1, []) := by decide +kernel
theorem r273_2 : am_at 273 2 = some (.aload_n 0, 1, [0]) := by decide +kernel
theorem r273_3 : am_at 273 3 = some (.invokevirtual 58, 3, [16, 1, 1115, 0, 3, 12, 2, 11]) := by decide +kernel
theorem r273_6 : am_at 273 6 = some (.i2l, 1, []) := by decide +kernel
theorem r273_7 : am_at 273 7 = some (.lastore, 1, []) := by decide +kernel
theorem r273_8 : am_at 273 8 = some (.goto (6), 3, [14]) := by decide +kernel
theorem r273_12 : am_at 273 12 = some (.iconst (1), 1, []) := by decide +kernel
theorem r273_13 : am_at 273 13 = some (.ireturn, 1, []) := by decide +kernel
theorem r273_14 : am_at 273 14 = some (.iconst (0), 1, []) := by decide +kernel
theorem r273_15 : am_at 273 15 = some (.ireturn, 1, []) := by decide +kernel
theorem rt273 : am_rtt 273 = some (some .int) := by decide +kernel
set_option maxRecDepth 100000 in
theorem pg273 : am_pg[273]? = some am_m273 := rfl
theorem m273_w {d mc ms : Nat} {D : am_D} {Q : am_O → am_AH → Prop} (hd : 6 ≤ d) {r : Int32 × am_D} (h : m273 D = some r) (hE1 : ∀ x : Nat, 0 + 1 ≤ mc) (hE2 : ∀ x : Nat, 0 + 6 ≤ ms) (hQ : Q (.inl (some (.int r.1))) (am_mk r.2)) : am_X xs L 273 d mc ms 0 [.ref 0, .ref 124, am_dead] [] (am_mk D) 0 0 Q := by
  unfold m273 at h
  refine x_ld (v := .ref 124) r273_0 rfl rfl rfl ?_
  refine x_ic (v := 0) r273_1 rfl rfl ?_
  refine x_ld (v := .ref 0) r273_2 rfl rfl rfl ?_
  obtain ⟨q1, h2, h⟩ := Option.bind_eq_some_iff.mp h
  rcases am_chE h with ⟨x3, h4, h⟩ | ⟨E7, h4, h⟩
  · refine x_call1 (as := [.ref 0]) (rest := [.int (0 : Int32), .ref 124]) r273_3 rfl rfl rfl (by decide) (Nat.le_of_ble_eq_true rfl) (m16_okv h2 h4) (Nat.le_trans (by decide) hd) (Nat.zero_le _) (Nat.zero_le _) rfl ?_
    refine x_ar r273_6 rfl trivial rfl ?_
    obtain ⟨D5, e6, h⟩ := am_ltE h
    refine y_las (n := 1) r273_7 rfl (by decide) (by decide) (e := 0) (by decide) e6 rfl ?_
    refine x_goto r273_8 ?_
    refine x_ic (v := 0) r273_14 rfl rfl ?_
    cases h
    exact x_ret (ret := some .int) (C := True) (v := some (.int _)) r273_15 rt273 rfl rfl rfl rfl rfl rfl rfl rfl trivial hQ
  · rcases am_ifE h with ⟨c8, h⟩ | ⟨c8, h⟩
    · rw [c8] at h4
      refine x_callH (as := [.ref 0]) (rest := [.int (0 : Int32), .ref 124]) (p' := 12) (il := 2) r273_3 rfl rfl rfl (by decide) (Nat.le_of_ble_eq_true rfl) (m16_exv h2 h4) (Nat.le_trans (by decide) hd) (hE1 0) (hE2 0) rfl (Nat.le_of_ble_eq_true rfl) ?_
      refine x_ic (v := 1) r273_12 rfl rfl ?_
      cases h
      exact x_ret (ret := some .int) (C := True) (v := some (.int _)) r273_13 rt273 rfl rfl rfl rfl rfl rfl rfl rfl trivial hQ
    · cases h
theorem m273_ok {D : am_D} {r : Int32 × am_D} (h : m273 D = some r) : am_Y xs L 273 6 1 6 [.ref 0, .ref 124] D (.inl (some (.int r.1))) r.2 := am_Yof (mi := am_m273) (lc := [.ref 0, .ref 124, am_dead]) pg273 (Nat.le_of_ble_eq_true rfl) (am_rc0 rfl) rfl (fun Q hQ => m273_w (Nat.le_refl _) h (fun _ => Nat.le_refl _) (fun _ => Nat.le_refl _) hQ)
theorem r274_0 : am_at 274 0 = some (.aload_n 1, 1, [1]) := by decide +kernel
theorem r274_1 : am_at 274 1 = some (.iconst (0), 1, []) := by decide +kernel
theorem r274_2 : am_at 274 2 = some (.aload_n 0, 1, [0]) := by decide +kernel
theorem r274_3 : am_at 274 3 = some (.invokevirtual 61, 3, [17, 1, 1123, 0, 3, 12, 2, 11]) := by decide +kernel
theorem r274_6 : am_at 274 6 = some (.i2l, 1, []) := by decide +kernel
theorem r274_7 : am_at 274 7 = some (.lastore, 1, []) := by decide +kernel
theorem r274_8 : am_at 274 8 = some (.goto (6), 3, [14]) := by decide +kernel
theorem r274_12 : am_at 274 12 = some (.iconst (1), 1, []) := by decide +kernel
theorem r274_13 : am_at 274 13 = some (.ireturn, 1, []) := by decide +kernel
theorem r274_14 : am_at 274 14 = some (.iconst (0), 1, []) := by decide +kernel
theorem r274_15 : am_at 274 15 = some (.ireturn, 1, []) := by decide +kernel
theorem rt274 : am_rtt 274 = some (some .int) := by decide +kernel
set_option maxRecDepth 100000 in
theorem pg274 : am_pg[274]? = some am_m274 := rfl
theorem m274_w {d mc ms : Nat} {D : am_D} {Q : am_O → am_AH → Prop} (hd : 6 ≤ d) {r : Int32 × am_D} (h : m274 D = some r) (hE1 : ∀ x : Nat, 0 + 1 ≤ mc) (hE2 : ∀ x : Nat, 0 + 6 ≤ ms) (hQ : Q (.inl (some (.int r.1))) (am_mk r.2)) : am_X xs L 274 d mc ms 0 [.ref 0, .ref 124, am_dead] [] (am_mk D) 0 0 Q := by
  unfold m274 at h
  refine x_ld (v := .ref 124) r274_0 rfl rfl rfl ?_
  refine x_ic (v := 0) r274_1 rfl rfl ?_
  refine x_ld (v := .ref 0) r274_2 rfl rfl rfl ?_
  obtain ⟨q1, h2, h⟩ := Option.bind_eq_some_iff.mp h
  rcases am_chE h with ⟨x3, h4, h⟩ | ⟨E7, h4, h⟩
  · refine x_call1 (as := [.ref 0]) (rest := [.int (0 : Int32), .ref 124]) r274_3 rfl rfl rfl (by decide) (Nat.le_of_ble_eq_true rfl) (m17_okv h2 h4) (Nat.le_trans (by decide) hd) (Nat.zero_le _) (Nat.zero_le _) rfl ?_
    refine x_ar r274_6 rfl trivial rfl ?_
    obtain ⟨D5, e6, h⟩ := am_ltE h
    refine y_las (n := 1) r274_7 rfl (by decide) (by decide) (e := 0) (by decide) e6 rfl ?_
    refine x_goto r274_8 ?_
    refine x_ic (v := 0) r274_14 rfl rfl ?_
    cases h
    exact x_ret (ret := some .int) (C := True) (v := some (.int _)) r274_15 rt274 rfl rfl rfl rfl rfl rfl rfl rfl trivial hQ
  · rcases am_ifE h with ⟨c8, h⟩ | ⟨c8, h⟩
    · rw [c8] at h4
      refine x_callH (as := [.ref 0]) (rest := [.int (0 : Int32), .ref 124]) (p' := 12) (il := 2) r274_3 rfl rfl rfl (by decide) (Nat.le_of_ble_eq_true rfl) (m17_exv h2 h4) (Nat.le_trans (by decide) hd) (hE1 0) (hE2 0) rfl (Nat.le_of_ble_eq_true rfl) ?_
      refine x_ic (v := 1) r274_12 rfl rfl ?_
      cases h
      exact x_ret (ret := some .int) (C := True) (v := some (.int _)) r274_13 rt274 rfl rfl rfl rfl rfl rfl rfl rfl trivial hQ
    · cases h
theorem m274_ok {D : am_D} {r : Int32 × am_D} (h : m274 D = some r) : am_Y xs L 274 6 1 6 [.ref 0, .ref 124] D (.inl (some (.int r.1))) r.2 := am_Yof (mi := am_m274) (lc := [.ref 0, .ref 124, am_dead]) pg274 (Nat.le_of_ble_eq_true rfl) (am_rc0 rfl) rfl (fun Q hQ => m274_w (Nat.le_refl _) h (fun _ => Nat.le_refl _) (fun _ => Nat.le_refl _) hQ)
theorem r276_0 : am_at 276 0 = some (.aload_n 3, 1, [3]) := by decide +kernel
theorem r276_1 : am_at 276 1 = some (.iconst (0), 1, []) := by decide +kernel
theorem r276_2 : am_at 276 2 = some (.aload_n 0, 1, [0]) := by decide +kernel
theorem r276_3 : am_at 276 3 = some (.iload_n 1, 1, [1]) := by decide +kernel
theorem r276_4 : am_at 276 4 = some (.iload_n 2, 1, [2]) := by decide +kernel
theorem r276_5 : am_at 276 5 = some (.invokevirtual 67, 3, [19, 3, 1139, 0, 1, 15, 4, 13]) := by decide +kernel
theorem r276_8 : am_at 276 8 = some (.i2l, 1, []) := by decide +kernel
theorem r276_9 : am_at 276 9 = some (.lastore, 1, []) := by decide +kernel
theorem r276_10 : am_at 276 10 = some (.goto (7), 3, [17]) := by decide +kernel
theorem r276_15 : am_at 276 15 = some (.iconst (1), 1, []) := by decide +kernel
theorem r276_16 : am_at 276 16 = some (.ireturn, 1, []) := by decide +kernel
theorem r276_17 : am_at 276 17 = some (.iconst (0), 1, []) := by decide +kernel
theorem r276_18 : am_at 276 18 = some (.ireturn, 1, []) := by decide +kernel
theorem rt276 : am_rtt 276 = some (some .int) := by decide +kernel
set_option maxRecDepth 100000 in
theorem pg276 : am_pg[276]? = some am_m276 := rfl
theorem m276_w {d mc ms : Nat} {D : am_D} {v1 : Int32} {v2 : Int32} {Q : am_O → am_AH → Prop} (hd : 3 ≤ d) {r : Int32 × am_D} (h : m276 D v1 v2 = some r) (hE1 : ∀ x : Nat, 0 + 1 ≤ mc) (hE2 : ∀ x : Nat, 0 + 6 ≤ ms) (hQ : Q (.inl (some (.int r.1))) (am_mk r.2)) : am_X xs L 276 d mc ms 0 [.ref 0, .int v1, .int v2, .ref 124, am_dead] [] (am_mk D) 0 0 Q := by
  unfold m276 at h
  refine x_ld (v := .ref 124) r276_0 rfl rfl rfl ?_
  refine x_ic (v := 0) r276_1 rfl rfl ?_
  refine x_ld (v := .ref 0) r276_2 rfl rfl rfl ?_
  refine x_ld (v := .int v1) r276_3 rfl rfl rfl ?_
  refine x_ld (v := .int v2) r276_4 rfl rfl rfl ?_
  obtain ⟨q1, h2, h⟩ := am_ltE h
  replace h2 := h2.symm
  rcases am_chE h with ⟨x3, h4, h⟩ | ⟨E7, h4, h⟩
  · refine x_call1 (as := [.ref 0, .int v1, .int v2]) (rest := [.int (0 : Int32), .ref 124]) r276_5 rfl rfl rfl (by decide) (Nat.le_of_ble_eq_true rfl) (m19_okv h2 h4) (Nat.le_trans (by decide) hd) (Nat.zero_le _) (Nat.zero_le _) rfl ?_
    refine x_ar r276_8 rfl trivial rfl ?_
    obtain ⟨D5, e6, h⟩ := am_ltE h
    refine y_las (n := 1) r276_9 rfl (by decide) (by decide) (e := 0) (by decide) e6 rfl ?_
    refine x_goto r276_10 ?_
    refine x_ic (v := 0) r276_17 rfl rfl ?_
    cases h
    exact x_ret (ret := some .int) (C := True) (v := some (.int _)) r276_18 rt276 rfl rfl rfl rfl rfl rfl rfl rfl trivial hQ
  · rcases am_ifE h with ⟨c8, h⟩ | ⟨c8, h⟩
    · rw [c8] at h4
      refine x_callH (as := [.ref 0, .int v1, .int v2]) (rest := [.int (0 : Int32), .ref 124]) (p' := 15) (il := 4) r276_5 rfl rfl rfl (by decide) (Nat.le_of_ble_eq_true rfl) (m19_exv h2 h4) (Nat.le_trans (by decide) hd) (hE1 0) (hE2 0) rfl (Nat.le_of_ble_eq_true rfl) ?_
      refine x_ic (v := 1) r276_15 rfl rfl ?_
      cases h
      exact x_ret (ret := some .int) (C := True) (v := some (.int _)) r276_16 rt276 rfl rfl rfl rfl rfl rfl rfl rfl trivial hQ
    · cases h
theorem m276_ok {D : am_D} {v1 : Int32} {v2 : Int32} {r : Int32 × am_D} (h : m276 D v1 v2 = some r) : am_Y xs L 276 3 1 6 [.ref 0, .int v1, .int v2, .ref 124] D (.inl (some (.int r.1))) r.2 := am_Yof (mi := am_m276) (lc := [.ref 0, .int v1, .int v2, .ref 124, am_dead]) pg276 (Nat.le_of_ble_eq_true rfl) (am_rc0 rfl) rfl (fun Q hQ => m276_w (Nat.le_refl _) h (fun _ => Nat.le_refl _) (fun _ => Nat.le_refl _) hQ)
theorem r2_0 : am_at 2 0 = some (.iload_n 1, 1, [1]) := by decide +kernel
theorem r2_1 : am_at 2 1 = some (.ifCond .lt (10), 3, [11]) := by decide +kernel
theorem r2_4 : am_at 2 4 = some (.iload_n 1, 1, [1]) := by decide +kernel
theorem r2_5 : am_at 2 5 = some (.sipush (4095), 3, []) := by decide +kernel
theorem r2_8 : am_at 2 8 = some (.if_icmp .le (13), 3, [21]) := by decide +kernel
theorem r2_11 : am_at 2 11 = some (.new 93, 3, [9, 2, 0, 95, 97, 455, 109, 11, 497]) := by decide +kernel
theorem r2_21 : am_at 2 21 = some (.aload_n 0, 1, [0]) := by decide +kernel
theorem r2_22 : am_at 2 22 = some (.getfield 10, 3, [7, 0, 3, 332]) := by decide +kernel
theorem r2_25 : am_at 2 25 = some (.getfield 98, 3, [4, 6, 0, 174]) := by decide +kernel
theorem r2_28 : am_at 2 28 = some (.ifCond .eq (13), 3, [41]) := by decide +kernel
theorem r2_31 : am_at 2 31 = some (.new 76, 3, [9, 3, 0, 102, 80, 804, 106, 12, 814]) := by decide +kernel
theorem r2_41 : am_at 2 41 = some (.aload_n 0, 1, [0]) := by decide +kernel
theorem r2_42 : am_at 2 42 = some (.getfield 22, 3, [7, 2, 3, 334]) := by decide +kernel
theorem r2_45 : am_at 2 45 = some (.aload_n 0, 1, [0]) := by decide +kernel
theorem r2_46 : am_at 2 46 = some (.getfield 10, 3, [7, 0, 3, 332]) := by decide +kernel
theorem r2_49 : am_at 2 49 = some (.invokevirtual 81, 3, [168, 2, 820, 0]) := by decide +kernel
theorem r2_52 : am_at 2 52 = some (.aload_n 0, 1, [0]) := by decide +kernel
theorem r2_53 : am_at 2 53 = some (.getfield 10, 3, [7, 0, 3, 332]) := by decide +kernel
theorem r2_56 : am_at 2 56 = some (.iload_n 1, 1, [1]) := by decide +kernel
theorem r2_57 : am_at 2 57 = some (.invokevirtual 104, 3, [214, 2, 844, 0]) := by decide +kernel
theorem r2_60 : am_at 2 60 = some (.ireturn, 1, []) := by decide +kernel
theorem rt2 : am_rtt 2 = some (some .int) := by decide +kernel
set_option maxRecDepth 100000 in
theorem pg2 : am_pg[2]? = some am_m2 := rfl
theorem m2_w {d mc ms : Nat} {N : Nat} {D : am_D} {v1 : Int32} {Q : am_O → am_AH → Prop} (hd : 5 ≤ d) {r : (Int32 ⊕ Nat) × am_D} (h : m2 N D v1 = some r) (hE : ∀ E, r.1 = .inr E → 0 + 1 ≤ mc ∧ 0 + 6 ≤ ms) (hQ : Q (am_oI r.1) (am_mk r.2)) : am_X xs L 2 d mc ms 0 [.ref 0, .int v1] [] (am_mk D) 0 0 Q := by
  unfold m2 at h
  refine x_ld (v := .int v1) r2_0 rfl rfl rfl ?_
  rcases am_ifE h with ⟨c1, h⟩ | ⟨c1, h⟩
  · refine x_ifltT r2_1 c1 ?_
    cases h
    exact x_thr r2_11 (hE _ rfl).1 (hE _ rfl).2 (Nat.le_of_ble_eq_true rfl) hQ
  · refine x_ifltF r2_1 c1 rfl ?_
    refine x_ld (v := .int v1) r2_4 rfl rfl rfl ?_
    refine x_si (v := 4095) r2_5 rfl rfl ?_
    rcases am_ifE h with ⟨c2, h⟩ | ⟨c2, h⟩
    · refine x_icleT r2_8 c2 ?_
      refine x_ld (v := .ref 0) r2_21 rfl rfl rfl ?_
      refine y_gf (cd := 3) (v := .ref 1) r2_22 rfl rfl rfl ?_
      refine y_gf (cd := 0) (v := .int (D.1 1 6)) r2_25 rfl rfl rfl ?_
      rcases am_ifE h with ⟨c3, h⟩ | ⟨c3, h⟩
      · refine x_ifeqT r2_28 c3 ?_
        refine x_ld (v := .ref 0) r2_41 rfl rfl rfl ?_
        refine y_gf (cd := 25) (v := .ref 23) r2_42 rfl rfl rfl ?_
        refine x_ld (v := .ref 0) r2_45 rfl rfl rfl ?_
        refine y_gf (cd := 3) (v := .ref 1) r2_46 rfl rfl rfl ?_
        obtain ⟨q4, h5, h⟩ := Option.bind_eq_some_iff.mp h
        refine x_call0 (as := [.ref 23, .ref 1]) (rest := []) r2_49 rfl rfl rfl (by decide) (Nat.le_of_ble_eq_true rfl) (m168_ok h5) (Nat.le_trans (by decide) hd) (Nat.zero_le _) (Nat.zero_le _) rfl ?_
        refine x_ld (v := .ref 0) r2_52 rfl rfl rfl ?_
        refine y_gf (cd := 3) (v := .ref 1) r2_53 rfl rfl rfl ?_
        refine x_ld (v := .int v1) r2_56 rfl rfl rfl ?_
        obtain ⟨q6, h7, h⟩ := Option.bind_eq_some_iff.mp h
        refine x_call1 (as := [.ref 1, .int v1]) (rest := []) r2_57 rfl rfl rfl (by decide) (Nat.le_of_ble_eq_true rfl) (m214_ok h7) (Nat.le_trans (by decide) hd) (Nat.zero_le _) (Nat.zero_le _) rfl ?_
        cases h
        exact x_ret (ret := some .int) (C := True) (v := some (.int _)) r2_60 rt2 rfl rfl rfl rfl rfl rfl rfl rfl trivial hQ
      · refine x_ifeqF r2_28 c3 rfl ?_
        cases h
        exact x_thr r2_31 (hE _ rfl).1 (hE _ rfl).2 (Nat.le_of_ble_eq_true rfl) hQ
    · refine x_icleF r2_8 c2 rfl ?_
      cases h
      exact x_thr r2_11 (hE _ rfl).1 (hE _ rfl).2 (Nat.le_of_ble_eq_true rfl) hQ
theorem m2_okv {N : Nat} {D : am_D} {v1 : Int32} {r : (Int32 ⊕ Nat) × am_D} {v : Int32} (h : m2 N D v1 = some r) (hv : am_inl r.1 = some v) : am_Y xs L 2 5 0 0 [.ref 0, .int v1] D (.inl (some (.int v))) r.2 := am_Yof (mi := am_m2) (lc := [.ref 0, .int v1]) pg2 (Nat.le_of_ble_eq_true rfl) (am_rc1 (ci := 7) rfl rfl rfl rfl rfl) rfl (fun Q hQ => m2_w (Nat.le_refl _) h (fun E e => by rw [e] at hv; cases hv) (by rw [am_inlE hv]; exact hQ))
theorem m2_exv {N : Nat} {D : am_D} {v1 : Int32} {r : (Int32 ⊕ Nat) × am_D} {E : Nat} (h : m2 N D v1 = some r) (hv : r.1 = .inr E) : am_Y xs L 2 5 1 6 [.ref 0, .int v1] D (.inr E) r.2 := am_Yof (mi := am_m2) (lc := [.ref 0, .int v1]) pg2 (Nat.le_of_ble_eq_true rfl) (am_rc1 (ci := 7) rfl rfl rfl rfl rfl) rfl (fun Q hQ => m2_w (Nat.le_refl _) h (fun E e => ⟨Nat.le_refl _, Nat.le_refl _⟩) (by rw [hv]; exact hQ))
theorem r3_0 : am_at 3 0 = some (.iload_n 1, 1, [1]) := by decide +kernel
theorem r3_1 : am_at 3 1 = some (.invokestatic 58, 3, [40, 1, 589, 0]) := by decide +kernel
theorem r3_4 : am_at 3 4 = some (.ifCond .ne (13), 3, [17]) := by decide +kernel
theorem r3_7 : am_at 3 7 = some (.new 65, 3, [9, 1, 0, 107, 69, 534, 104, 5, 544]) := by decide +kernel
theorem r3_17 : am_at 3 17 = some (.aload_n 0, 1, [0]) := by decide +kernel
theorem r3_18 : am_at 3 18 = some (.getfield 10, 3, [7, 0, 3, 332]) := by decide +kernel
theorem r3_21 : am_at 3 21 = some (.invokevirtual 109, 3, [216, 1, 860, 0]) := by decide +kernel
theorem r3_24 : am_at 3 24 = some (.ifCond .ne (13), 3, [37]) := by decide +kernel
theorem r3_27 : am_at 3 27 = some (.new 76, 3, [9, 3, 0, 113, 80, 804, 106, 13, 814]) := by decide +kernel
theorem r3_37 : am_at 3 37 = some (.aload_n 0, 1, [0]) := by decide +kernel
theorem r3_38 : am_at 3 38 = some (.getfield 22, 3, [7, 2, 3, 334]) := by decide +kernel
theorem r3_41 : am_at 3 41 = some (.aload_n 0, 1, [0]) := by decide +kernel
theorem r3_42 : am_at 3 42 = some (.getfield 10, 3, [7, 0, 3, 332]) := by decide +kernel
theorem r3_45 : am_at 3 45 = some (.invokevirtual 81, 3, [168, 2, 820, 0]) := by decide +kernel
theorem r3_48 : am_at 3 48 = some (.aload_n 0, 1, [0]) := by decide +kernel
theorem r3_49 : am_at 3 49 = some (.getfield 10, 3, [7, 0, 3, 332]) := by decide +kernel
theorem r3_52 : am_at 3 52 = some (.iload_n 1, 1, [1]) := by decide +kernel
theorem r3_53 : am_at 3 53 = some (.invokevirtual 115, 3, [217, 2, 866, 0]) := by decide +kernel
theorem r3_56 : am_at 3 56 = some (.aload_n 0, 1, [0]) := by decide +kernel
theorem r3_57 : am_at 3 57 = some (.getfield 10, 3, [7, 0, 3, 332]) := by decide +kernel
theorem r3_60 : am_at 3 60 = some (.iload_n 1, 1, [1]) := by decide +kernel
theorem r3_61 : am_at 3 61 = some (.invokevirtual 119, 3, [206, 2, 599, 0]) := by decide +kernel
theorem r3_64 : am_at 3 64 = some (.ireturn, 1, []) := by decide +kernel
theorem rt3 : am_rtt 3 = some (some .int) := by decide +kernel
set_option maxRecDepth 100000 in
theorem pg3 : am_pg[3]? = some am_m3 := rfl
theorem m3_w {d mc ms : Nat} {N : Nat} {D : am_D} {v1 : Int32} {Q : am_O → am_AH → Prop} (hd : 5 ≤ d) {r : (Int32 ⊕ Nat) × am_D} (h : m3 N D v1 = some r) (hE : ∀ E, r.1 = .inr E → 0 + 1 ≤ mc ∧ 0 + 6 ≤ ms) (hQ : Q (am_oI r.1) (am_mk r.2)) : am_X xs L 3 d mc ms 0 [.ref 0, .int v1] [] (am_mk D) 0 0 Q := by
  unfold m3 at h
  refine x_ld (v := .int v1) r3_0 rfl rfl rfl ?_
  refine x_call1 (as := [.int v1]) (rest := []) r3_1 rfl rfl rfl (by decide) (Nat.le_of_ble_eq_true rfl) (m40_ok rfl) (Nat.le_trans (by decide) hd) (Nat.zero_le _) (Nat.zero_le _) rfl ?_
  rcases am_ifE h with ⟨c1, h⟩ | ⟨c1, h⟩
  · refine x_ifneT r3_4 c1 rfl ?_
    cases h
    exact x_thr r3_7 (hE _ rfl).1 (hE _ rfl).2 (Nat.le_of_ble_eq_true rfl) hQ
  · refine x_ifneF r3_4 c1 ?_
    refine x_ld (v := .ref 0) r3_17 rfl rfl rfl ?_
    refine y_gf (cd := 3) (v := .ref 1) r3_18 rfl rfl rfl ?_
    obtain ⟨q2, h3, h⟩ := Option.bind_eq_some_iff.mp h
    refine x_call1 (as := [.ref 1]) (rest := []) r3_21 rfl rfl rfl (by decide) (Nat.le_of_ble_eq_true rfl) (m216_ok h3) (Nat.le_trans (by decide) hd) (Nat.zero_le _) (Nat.zero_le _) rfl ?_
    rcases am_ifE h with ⟨c4, h⟩ | ⟨c4, h⟩
    · refine x_ifneT r3_24 c4 rfl ?_
      cases h
      exact x_thr r3_27 (hE _ rfl).1 (hE _ rfl).2 (Nat.le_of_ble_eq_true rfl) hQ
    · refine x_ifneF r3_24 c4 ?_
      refine x_ld (v := .ref 0) r3_37 rfl rfl rfl ?_
      refine y_gf (cd := 25) (v := .ref 23) r3_38 rfl rfl rfl ?_
      refine x_ld (v := .ref 0) r3_41 rfl rfl rfl ?_
      refine y_gf (cd := 3) (v := .ref 1) r3_42 rfl rfl rfl ?_
      obtain ⟨q5, h6, h⟩ := Option.bind_eq_some_iff.mp h
      refine x_call0 (as := [.ref 23, .ref 1]) (rest := []) r3_45 rfl rfl rfl (by decide) (Nat.le_of_ble_eq_true rfl) (m168_ok h6) (Nat.le_trans (by decide) hd) (Nat.zero_le _) (Nat.zero_le _) rfl ?_
      refine x_ld (v := .ref 0) r3_48 rfl rfl rfl ?_
      refine y_gf (cd := 3) (v := .ref 1) r3_49 rfl rfl rfl ?_
      refine x_ld (v := .int v1) r3_52 rfl rfl rfl ?_
      obtain ⟨q7, h8, h⟩ := am_ltE h
      replace h8 := h8.symm
      refine x_call0 (as := [.ref 1, .int v1]) (rest := []) r3_53 rfl rfl rfl (by decide) (Nat.le_of_ble_eq_true rfl) (m217_ok h8) (Nat.le_trans (by decide) hd) (Nat.zero_le _) (Nat.zero_le _) rfl ?_
      refine x_ld (v := .ref 0) r3_56 rfl rfl rfl ?_
      refine y_gf (cd := 3) (v := .ref 1) r3_57 rfl rfl rfl ?_
      refine x_ld (v := .int v1) r3_60 rfl rfl rfl ?_
      obtain ⟨q9, h10, h⟩ := Option.bind_eq_some_iff.mp h
      refine x_call1 (as := [.ref 1, .int v1]) (rest := []) r3_61 rfl rfl rfl (by decide) (Nat.le_of_ble_eq_true rfl) (m206_ok h10) (Nat.le_trans (by decide) hd) (Nat.zero_le _) (Nat.zero_le _) rfl ?_
      cases h
      exact x_ret (ret := some .int) (C := True) (v := some (.int _)) r3_64 rt3 rfl rfl rfl rfl rfl rfl rfl rfl trivial hQ
theorem m3_okv {N : Nat} {D : am_D} {v1 : Int32} {r : (Int32 ⊕ Nat) × am_D} {v : Int32} (h : m3 N D v1 = some r) (hv : am_inl r.1 = some v) : am_Y xs L 3 5 0 0 [.ref 0, .int v1] D (.inl (some (.int v))) r.2 := am_Yof (mi := am_m3) (lc := [.ref 0, .int v1]) pg3 (Nat.le_of_ble_eq_true rfl) (am_rc1 (ci := 7) rfl rfl rfl rfl rfl) rfl (fun Q hQ => m3_w (Nat.le_refl _) h (fun E e => by rw [e] at hv; cases hv) (by rw [am_inlE hv]; exact hQ))
theorem m3_exv {N : Nat} {D : am_D} {v1 : Int32} {r : (Int32 ⊕ Nat) × am_D} {E : Nat} (h : m3 N D v1 = some r) (hv : r.1 = .inr E) : am_Y xs L 3 5 1 6 [.ref 0, .int v1] D (.inr E) r.2 := am_Yof (mi := am_m3) (lc := [.ref 0, .int v1]) pg3 (Nat.le_of_ble_eq_true rfl) (am_rc1 (ci := 7) rfl rfl rfl rfl rfl) rfl (fun Q hQ => m3_w (Nat.le_refl _) h (fun E e => ⟨Nat.le_refl _, Nat.le_refl _⟩) (by rw [hv]; exact hQ))
theorem r18_0 : am_at 18 0 = some (.iload_n 1, 1, [1]) := by decide +kernel
theorem r18_1 : am_at 18 1 = some (.invokestatic 62, 3, [41, 1, 531, 0]) := by decide +kernel
theorem r18_4 : am_at 18 4 = some (.ifCond .ne (13), 3, [17]) := by decide +kernel
theorem r18_7 : am_at 18 7 = some (.new 65, 3, [9, 1, 0, 229, 69, 534, 104, 1, 544]) := by decide +kernel
theorem r18_17 : am_at 18 17 = some (.iload_n 2, 1, [2]) := by decide +kernel
theorem r18_18 : am_at 18 18 = some (.tableswitch (123) (0) (6) #[42, 47, 52, 57, 66, 78, 103], 42, [141, 0, 60, 1, 65, 2, 70, 3, 75, 4, 84, 5, 96, 6, 121]) := by decide +kernel
theorem r18_60 : am_at 18 60 = some (.iload_n 1, 1, [1]) := by decide +kernel
theorem r18_61 : am_at 18 61 = some (.invokestatic 231, 3, [249, 1, 550, 0]) := by decide +kernel
theorem r18_64 : am_at 18 64 = some (.ireturn, 1, []) := by decide +kernel
theorem r18_65 : am_at 18 65 = some (.iload_n 1, 1, [1]) := by decide +kernel
theorem r18_66 : am_at 18 66 = some (.invokestatic 236, 3, [250, 1, 551, 0]) := by decide +kernel
theorem r18_69 : am_at 18 69 = some (.ireturn, 1, []) := by decide +kernel
theorem r18_70 : am_at 18 70 = some (.iload_n 1, 1, [1]) := by decide +kernel
theorem r18_71 : am_at 18 71 = some (.invokestatic 239, 3, [251, 1, 552, 0]) := by decide +kernel
theorem r18_74 : am_at 18 74 = some (.ireturn, 1, []) := by decide +kernel
theorem r18_75 : am_at 18 75 = some (.aload_n 0, 1, [0]) := by decide +kernel
theorem r18_76 : am_at 18 76 = some (.getfield 10, 3, [7, 0, 3, 332]) := by decide +kernel
theorem r18_79 : am_at 18 79 = some (.iload_n 1, 1, [1]) := by decide +kernel
theorem r18_80 : am_at 18 80 = some (.invokevirtual 242, 3, [203, 2, 553, 0]) := by decide +kernel
theorem r18_83 : am_at 18 83 = some (.ireturn, 1, []) := by decide +kernel
theorem r18_84 : am_at 18 84 = some (.aload_n 0, 1, [0]) := by decide +kernel
theorem r18_85 : am_at 18 85 = some (.getfield 10, 3, [7, 0, 3, 332]) := by decide +kernel
theorem r18_88 : am_at 18 88 = some (.getfield 210, 3, [4, 0, 3, 162]) := by decide +kernel
theorem r18_91 : am_at 18 91 = some (.iload_n 1, 1, [1]) := by decide +kernel
theorem r18_92 : am_at 18 92 = some (.invokevirtual 245, 3, [154, 2, 558, 0]) := by decide +kernel
theorem r18_95 : am_at 18 95 = some (.ireturn, 1, []) := by decide +kernel
theorem r18_96 : am_at 18 96 = some (.aload_n 0, 1, [0]) := by decide +kernel
theorem r18_97 : am_at 18 97 = some (.getfield 10, 3, [7, 0, 3, 332]) := by decide +kernel
theorem r18_100 : am_at 18 100 = some (.getfield 210, 3, [4, 0, 3, 162]) := by decide +kernel
theorem r18_103 : am_at 18 103 = some (.getfield 246, 3, [0, 2, 3, 137]) := by decide +kernel
theorem r18_106 : am_at 18 106 = some (.aload_n 0, 1, [0]) := by decide +kernel
theorem r18_107 : am_at 18 107 = some (.getfield 10, 3, [7, 0, 3, 332]) := by decide +kernel
theorem r18_110 : am_at 18 110 = some (.getfield 210, 3, [4, 0, 3, 162]) := by decide +kernel
theorem r18_113 : am_at 18 113 = some (.iload_n 1, 1, [1]) := by decide +kernel
theorem r18_114 : am_at 18 114 = some (.invokevirtual 245, 3, [154, 2, 558, 0]) := by decide +kernel
theorem r18_117 : am_at 18 117 = some (.invokestatic 250, 3, [180, 2, 449, 0]) := by decide +kernel
theorem r18_120 : am_at 18 120 = some (.ireturn, 1, []) := by decide +kernel
theorem r18_121 : am_at 18 121 = some (.aload_n 0, 1, [0]) := by decide +kernel
theorem r18_122 : am_at 18 122 = some (.getfield 10, 3, [7, 0, 3, 332]) := by decide +kernel
theorem r18_125 : am_at 18 125 = some (.getfield 210, 3, [4, 0, 3, 162]) := by decide +kernel
theorem r18_128 : am_at 18 128 = some (.iload_n 1, 1, [1]) := by decide +kernel
theorem r18_129 : am_at 18 129 = some (.invokevirtual 256, 3, [159, 2, 562, 0]) := by decide +kernel
theorem r18_132 : am_at 18 132 = some (.ifCond .eq (7), 3, [139]) := by decide +kernel
theorem r18_135 : am_at 18 135 = some (.iconst (1), 1, []) := by decide +kernel
theorem r18_136 : am_at 18 136 = some (.goto (4), 3, [140]) := by decide +kernel
theorem r18_139 : am_at 18 139 = some (.iconst (0), 1, []) := by decide +kernel
theorem r18_140 : am_at 18 140 = some (.ireturn, 1, []) := by decide +kernel
theorem r18_141 : am_at 18 141 = some (.new 93, 3, [9, 2, 1, 259, 97, 455, 109, 2, 497]) := by decide +kernel
theorem rt18 : am_rtt 18 = some (some .int) := by decide +kernel
set_option maxRecDepth 100000 in
theorem pg18 : am_pg[18]? = some am_m18 := rfl
theorem m18_w {d mc ms : Nat} {N : Nat} {D : am_D} {v1 : Int32} {v2 : Int32} {Q : am_O → am_AH → Prop} (hd : 4 ≤ d) {r : (Int32 ⊕ Nat)} (h : m18 N D v1 v2 = some r) (hE : ∀ E, r = .inr E → 0 + 1 ≤ mc ∧ 0 + 6 ≤ ms) (hQ : Q (am_oI r) (am_mk D)) : am_X xs L 18 d mc ms 0 [.ref 0, .int v1, .int v2] [] (am_mk D) 0 0 Q := by
  unfold m18 at h
  refine x_ld (v := .int v1) r18_0 rfl rfl rfl ?_
  refine x_call1 (as := [.int v1]) (rest := []) r18_1 rfl rfl rfl (by decide) (Nat.le_of_ble_eq_true rfl) (m41_ok rfl) (Nat.le_trans (by decide) hd) (Nat.zero_le _) (Nat.zero_le _) rfl ?_
  rcases am_ifE h with ⟨c1, h⟩ | ⟨c1, h⟩
  · refine x_ifneT r18_4 c1 rfl ?_
    cases h
    exact x_thr r18_7 (hE _ rfl).1 (hE _ rfl).2 (Nat.le_of_ble_eq_true rfl) hQ
  · refine x_ifneF r18_4 c1 ?_
    refine x_ld (v := .int v2) r18_17 rfl rfl rfl ?_
    rcases am_ifE h with ⟨c2, h⟩ | ⟨c2, h⟩
    · refine x_tsw (p' := 60) r18_18 (am_swT c2) ?_
      refine x_ld (v := .int v1) r18_60 rfl rfl rfl ?_
      refine x_call1 (as := [.int v1]) (rest := []) r18_61 rfl rfl rfl (by decide) (Nat.le_of_ble_eq_true rfl) (m249_ok rfl) (Nat.le_trans (by decide) hd) (Nat.zero_le _) (Nat.zero_le _) rfl ?_
      cases h
      exact x_ret (ret := some .int) (C := True) (v := some (.int _)) r18_64 rt18 rfl rfl rfl rfl rfl rfl rfl rfl trivial hQ
    · rcases am_ifE h with ⟨c3, h⟩ | ⟨c3, h⟩
      · refine x_tsw (p' := 65) r18_18 (am_swF c2 (am_swT c3)) ?_
        refine x_ld (v := .int v1) r18_65 rfl rfl rfl ?_
        refine x_call1 (as := [.int v1]) (rest := []) r18_66 rfl rfl rfl (by decide) (Nat.le_of_ble_eq_true rfl) (m250_ok rfl) (Nat.le_trans (by decide) hd) (Nat.zero_le _) (Nat.zero_le _) rfl ?_
        cases h
        exact x_ret (ret := some .int) (C := True) (v := some (.int _)) r18_69 rt18 rfl rfl rfl rfl rfl rfl rfl rfl trivial hQ
      · rcases am_ifE h with ⟨c4, h⟩ | ⟨c4, h⟩
        · refine x_tsw (p' := 70) r18_18 (am_swF c2 (am_swF c3 (am_swT c4))) ?_
          refine x_ld (v := .int v1) r18_70 rfl rfl rfl ?_
          refine x_call1 (as := [.int v1]) (rest := []) r18_71 rfl rfl rfl (by decide) (Nat.le_of_ble_eq_true rfl) (m251_ok rfl) (Nat.le_trans (by decide) hd) (Nat.zero_le _) (Nat.zero_le _) rfl ?_
          cases h
          exact x_ret (ret := some .int) (C := True) (v := some (.int _)) r18_74 rt18 rfl rfl rfl rfl rfl rfl rfl rfl trivial hQ
        · rcases am_ifE h with ⟨c5, h⟩ | ⟨c5, h⟩
          · refine x_tsw (p' := 75) r18_18 (am_swF c2 (am_swF c3 (am_swF c4 (am_swT c5)))) ?_
            refine x_ld (v := .ref 0) r18_75 rfl rfl rfl ?_
            refine y_gf (cd := 3) (v := .ref 1) r18_76 rfl rfl rfl ?_
            refine x_ld (v := .int v1) r18_79 rfl rfl rfl ?_
            refine x_call1 (as := [.ref 1, .int v1]) (rest := []) r18_80 rfl rfl rfl (by decide) (Nat.le_of_ble_eq_true rfl) (m203_ok rfl) (Nat.le_trans (by decide) hd) (Nat.zero_le _) (Nat.zero_le _) rfl ?_
            cases h
            exact x_ret (ret := some .int) (C := True) (v := some (.int _)) r18_83 rt18 rfl rfl rfl rfl rfl rfl rfl rfl trivial hQ
          · rcases am_ifE h with ⟨c6, h⟩ | ⟨c6, h⟩
            · refine x_tsw (p' := 84) r18_18 (am_swF c2 (am_swF c3 (am_swF c4 (am_swF c5 (am_swT c6))))) ?_
              refine x_ld (v := .ref 0) r18_84 rfl rfl rfl ?_
              refine y_gf (cd := 3) (v := .ref 1) r18_85 rfl rfl rfl ?_
              refine y_gf (cd := 4) (v := .ref 2) r18_88 rfl rfl rfl ?_
              refine x_ld (v := .int v1) r18_91 rfl rfl rfl ?_
              obtain ⟨q7, h8, h⟩ := Option.bind_eq_some_iff.mp h
              refine x_call1 (as := [.ref 2, .int v1]) (rest := []) r18_92 rfl rfl rfl (by decide) (Nat.le_of_ble_eq_true rfl) (m154_ok h8) (Nat.le_trans (by decide) hd) (Nat.zero_le _) (Nat.zero_le _) rfl ?_
              cases h
              exact x_ret (ret := some .int) (C := True) (v := some (.int _)) r18_95 rt18 rfl rfl rfl rfl rfl rfl rfl rfl trivial hQ
            · rcases am_ifE h with ⟨c9, h⟩ | ⟨c9, h⟩
              · refine x_tsw (p' := 96) r18_18 (am_swF c2 (am_swF c3 (am_swF c4 (am_swF c5 (am_swF c6 (am_swT c9)))))) ?_
                refine x_ld (v := .ref 0) r18_96 rfl rfl rfl ?_
                refine y_gf (cd := 3) (v := .ref 1) r18_97 rfl rfl rfl ?_
                refine y_gf (cd := 4) (v := .ref 2) r18_100 rfl rfl rfl ?_
                refine y_gf (cd := 7) (v := .ref 5) r18_103 rfl rfl rfl ?_
                refine x_ld (v := .ref 0) r18_106 rfl rfl rfl ?_
                refine y_gf (cd := 3) (v := .ref 1) r18_107 rfl rfl rfl ?_
                refine y_gf (cd := 4) (v := .ref 2) r18_110 rfl rfl rfl ?_
                refine x_ld (v := .int v1) r18_113 rfl rfl rfl ?_
                obtain ⟨q10, h11, h⟩ := Option.bind_eq_some_iff.mp h
                refine x_call1 (as := [.ref 2, .int v1]) (rest := [.ref 5]) r18_114 rfl rfl rfl (by decide) (Nat.le_of_ble_eq_true rfl) (m154_ok h11) (Nat.le_trans (by decide) hd) (Nat.zero_le _) (Nat.zero_le _) rfl ?_
                refine x_call1 (as := [.ref 5, .int q10]) (rest := []) r18_117 rfl rfl rfl (by decide) (Nat.le_of_ble_eq_true rfl) (am_rows_at (n := 28) rfl (by decide)) (Nat.le_trans (by decide) hd) (Nat.zero_le _) (Nat.zero_le _) rfl ?_
                cases h
                exact x_ret (ret := some .int) (C := True) (v := some (.int _)) r18_120 rt18 rfl rfl rfl rfl rfl rfl rfl rfl trivial hQ
              · rcases am_ifE h with ⟨c12, h⟩ | ⟨c12, h⟩
                · refine x_tsw (p' := 121) r18_18 (am_swF c2 (am_swF c3 (am_swF c4 (am_swF c5 (am_swF c6 (am_swF c9 (am_swT c12))))))) ?_
                  refine x_ld (v := .ref 0) r18_121 rfl rfl rfl ?_
                  refine y_gf (cd := 3) (v := .ref 1) r18_122 rfl rfl rfl ?_
                  refine y_gf (cd := 4) (v := .ref 2) r18_125 rfl rfl rfl ?_
                  refine x_ld (v := .int v1) r18_128 rfl rfl rfl ?_
                  refine x_call1 (as := [.ref 2, .int v1]) (rest := []) r18_129 rfl rfl rfl (by decide) (Nat.le_of_ble_eq_true rfl) (m159_ok rfl) (Nat.le_trans (by decide) hd) (Nat.zero_le _) (Nat.zero_le _) rfl ?_
                  rcases am_ifE h with ⟨c13, h⟩ | ⟨c13, h⟩
                  · refine x_ifeqT r18_132 c13 ?_
                    refine x_ic (v := 0) r18_139 rfl rfl ?_
                    cases h
                    exact x_ret (ret := some .int) (C := True) (v := some (.int _)) r18_140 rt18 rfl rfl rfl rfl rfl rfl rfl rfl trivial hQ
                  · refine x_ifeqF r18_132 c13 rfl ?_
                    refine x_ic (v := 1) r18_135 rfl rfl ?_
                    refine x_goto r18_136 ?_
                    cases h
                    exact x_ret (ret := some .int) (C := True) (v := some (.int _)) r18_140 rt18 rfl rfl rfl rfl rfl rfl rfl rfl trivial hQ
                · refine x_tsw (p' := 141) r18_18 (am_swF c2 (am_swF c3 (am_swF c4 (am_swF c5 (am_swF c6 (am_swF c9 (am_swF c12 (rfl)))))))) ?_
                  cases h
                  exact x_thr r18_141 (hE _ rfl).1 (hE _ rfl).2 (Nat.le_of_ble_eq_true rfl) hQ
theorem m18_okv {N : Nat} {D : am_D} {v1 : Int32} {v2 : Int32} {r : (Int32 ⊕ Nat)} {v : Int32} (h : m18 N D v1 v2 = some r) (hv : am_inl r = some v) : am_Y xs L 18 4 0 0 [.ref 0, .int v1, .int v2] D (.inl (some (.int v))) D := am_Yof (mi := am_m18) (lc := [.ref 0, .int v1, .int v2]) pg18 (Nat.le_of_ble_eq_true rfl) (am_rc1 (ci := 7) rfl rfl rfl rfl rfl) rfl (fun Q hQ => m18_w (Nat.le_refl _) h (fun E e => by rw [e] at hv; cases hv) (by rw [am_inlE hv]; exact hQ))
theorem m18_exv {N : Nat} {D : am_D} {v1 : Int32} {v2 : Int32} {r : (Int32 ⊕ Nat)} {E : Nat} (h : m18 N D v1 v2 = some r) (hv : r = .inr E) : am_Y xs L 18 4 1 6 [.ref 0, .int v1, .int v2] D (.inr E) D := am_Yof (mi := am_m18) (lc := [.ref 0, .int v1, .int v2]) pg18 (Nat.le_of_ble_eq_true rfl) (am_rc1 (ci := 7) rfl rfl rfl rfl rfl) rfl (fun Q hQ => m18_w (Nat.le_refl _) h (fun E e => ⟨Nat.le_refl _, Nat.le_refl _⟩) (by rw [hv]; exact hQ))
theorem r20_0 : am_at 20 0 = some (.iload_n 1, 1, [1]) := by decide +kernel
theorem r20_1 : am_at 20 1 = some (.ifCond .ge (14), 3, [15]) := by decide +kernel
theorem r20_4 : am_at 20 4 = some (.new 65, 3, [9, 1, 1, 270, 69, 534, 104, 3, 544]) := by decide +kernel
theorem r20_15 : am_at 20 15 = some (.iload_n 2, 1, [2]) := by decide +kernel
theorem r20_16 : am_at 20 16 = some (.ifCond .lt (8), 3, [24]) := by decide +kernel
theorem r20_19 : am_at 20 19 = some (.iload_n 2, 1, [2]) := by decide +kernel
theorem r20_20 : am_at 20 20 = some (.iconst (3), 1, []) := by decide +kernel
theorem r20_21 : am_at 20 21 = some (.if_icmp .le (14), 3, [35]) := by decide +kernel
theorem r20_24 : am_at 20 24 = some (.new 93, 3, [9, 2, 1, 272, 97, 455, 109, 4, 497]) := by decide +kernel
theorem r20_35 : am_at 20 35 = some (.iload_n 1, 1, [1]) := by decide +kernel
theorem r20_36 : am_at 20 36 = some (.aload_n 0, 1, [0]) := by decide +kernel
theorem r20_37 : am_at 20 37 = some (.getfield 10, 3, [7, 0, 3, 332]) := by decide +kernel
theorem r20_40 : am_at 20 40 = some (.getfield 210, 3, [4, 0, 3, 162]) := by decide +kernel
theorem r20_43 : am_at 20 43 = some (.getfield 214, 3, [0, 4, 0, 141]) := by decide +kernel
theorem r20_46 : am_at 20 46 = some (.if_icmp .lt (5), 3, [51]) := by decide +kernel
theorem r20_49 : am_at 20 49 = some (.iconst (-1), 1, []) := by decide +kernel
theorem r20_50 : am_at 20 50 = some (.ireturn, 1, []) := by decide +kernel
theorem r20_51 : am_at 20 51 = some (.iload_n 2, 1, [2]) := by decide +kernel
theorem r20_52 : am_at 20 52 = some (.tableswitch (70) (0) (2) #[28, 43, 58], 28, [122, 0, 80, 1, 95, 2, 110]) := by decide +kernel
theorem r20_80 : am_at 20 80 = some (.aload_n 0, 1, [0]) := by decide +kernel
theorem r20_81 : am_at 20 81 = some (.getfield 10, 3, [7, 0, 3, 332]) := by decide +kernel
theorem r20_84 : am_at 20 84 = some (.getfield 210, 3, [4, 0, 3, 162]) := by decide +kernel
theorem r20_87 : am_at 20 87 = some (.getfield 274, 3, [0, 0, 3, 133]) := by decide +kernel
theorem r20_90 : am_at 20 90 = some (.iload_n 1, 1, [1]) := by decide +kernel
theorem r20_91 : am_at 20 91 = some (.invokestatic 250, 3, [180, 2, 449, 0]) := by decide +kernel
theorem r20_94 : am_at 20 94 = some (.ireturn, 1, []) := by decide +kernel
theorem r20_95 : am_at 20 95 = some (.aload_n 0, 1, [0]) := by decide +kernel
theorem r20_96 : am_at 20 96 = some (.getfield 10, 3, [7, 0, 3, 332]) := by decide +kernel
theorem r20_99 : am_at 20 99 = some (.getfield 210, 3, [4, 0, 3, 162]) := by decide +kernel
theorem r20_102 : am_at 20 102 = some (.getfield 277, 3, [0, 1, 3, 135]) := by decide +kernel
theorem r20_105 : am_at 20 105 = some (.iload_n 1, 1, [1]) := by decide +kernel
theorem r20_106 : am_at 20 106 = some (.invokestatic 250, 3, [180, 2, 449, 0]) := by decide +kernel
theorem r20_109 : am_at 20 109 = some (.ireturn, 1, []) := by decide +kernel
theorem r20_110 : am_at 20 110 = some (.aload_n 0, 1, [0]) := by decide +kernel
theorem r20_111 : am_at 20 111 = some (.getfield 10, 3, [7, 0, 3, 332]) := by decide +kernel
theorem r20_114 : am_at 20 114 = some (.getfield 210, 3, [4, 0, 3, 162]) := by decide +kernel
theorem r20_117 : am_at 20 117 = some (.iload_n 1, 1, [1]) := by decide +kernel
theorem r20_118 : am_at 20 118 = some (.invokevirtual 280, 3, [155, 2, 576, 0]) := by decide +kernel
theorem r20_121 : am_at 20 121 = some (.ireturn, 1, []) := by decide +kernel
theorem r20_122 : am_at 20 122 = some (.aload_n 0, 1, [0]) := by decide +kernel
theorem r20_123 : am_at 20 123 = some (.getfield 10, 3, [7, 0, 3, 332]) := by decide +kernel
theorem r20_126 : am_at 20 126 = some (.getfield 210, 3, [4, 0, 3, 162]) := by decide +kernel
theorem r20_129 : am_at 20 129 = some (.getfield 283, 3, [0, 3, 3, 139]) := by decide +kernel
theorem r20_132 : am_at 20 132 = some (.iload_n 1, 1, [1]) := by decide +kernel
theorem r20_133 : am_at 20 133 = some (.invokestatic 250, 3, [180, 2, 449, 0]) := by decide +kernel
theorem r20_136 : am_at 20 136 = some (.ireturn, 1, []) := by decide +kernel
theorem rt20 : am_rtt 20 = some (some .int) := by decide +kernel
set_option maxRecDepth 100000 in
theorem pg20 : am_pg[20]? = some am_m20 := rfl
theorem m20_w {d mc ms : Nat} {D : am_D} {v1 : Int32} {v2 : Int32} {Q : am_O → am_AH → Prop} (hd : 3 ≤ d) {r : (Int32 ⊕ Nat)} (h : m20 D v1 v2 = r) (hE : ∀ E, r = .inr E → 0 + 1 ≤ mc ∧ 0 + 6 ≤ ms) (hQ : Q (am_oI r) (am_mk D)) : am_X xs L 20 d mc ms 0 [.ref 0, .int v1, .int v2] [] (am_mk D) 0 0 Q := by
  unfold m20 at h
  refine x_ld (v := .int v1) r20_0 rfl rfl rfl ?_
  rcases am_ifE h with ⟨c1, h⟩ | ⟨c1, h⟩
  · refine x_ifgeT r20_1 c1 ?_
    refine x_ld (v := .int v2) r20_15 rfl rfl rfl ?_
    rcases am_ifE h with ⟨c2, h⟩ | ⟨c2, h⟩
    · refine x_ifltT r20_16 c2 ?_
      subst h
      exact x_thr r20_24 (hE _ rfl).1 (hE _ rfl).2 (Nat.le_of_ble_eq_true rfl) hQ
    · refine x_ifltF r20_16 c2 rfl ?_
      refine x_ld (v := .int v2) r20_19 rfl rfl rfl ?_
      refine x_ic (v := 3) r20_20 rfl rfl ?_
      rcases am_ifE h with ⟨c3, h⟩ | ⟨c3, h⟩
      · refine x_icleT r20_21 c3 ?_
        refine x_ld (v := .int v1) r20_35 rfl rfl rfl ?_
        refine x_ld (v := .ref 0) r20_36 rfl rfl rfl ?_
        refine y_gf (cd := 3) (v := .ref 1) r20_37 rfl rfl rfl ?_
        refine y_gf (cd := 4) (v := .ref 2) r20_40 rfl rfl rfl ?_
        refine y_gf (cd := 0) (v := .int (D.1 2 4)) r20_43 rfl rfl rfl ?_
        rcases am_ifE h with ⟨c4, h⟩ | ⟨c4, h⟩
        · refine x_icltT r20_46 c4 ?_
          refine x_ld (v := .int v2) r20_51 rfl rfl rfl ?_
          rcases am_ifE h with ⟨c5, h⟩ | ⟨c5, h⟩
          · refine x_tsw (p' := 80) r20_52 (am_swT c5) ?_
            refine x_ld (v := .ref 0) r20_80 rfl rfl rfl ?_
            refine y_gf (cd := 3) (v := .ref 1) r20_81 rfl rfl rfl ?_
            refine y_gf (cd := 4) (v := .ref 2) r20_84 rfl rfl rfl ?_
            refine y_gf (cd := 5) (v := .ref 3) r20_87 rfl rfl rfl ?_
            refine x_ld (v := .int v1) r20_90 rfl rfl rfl ?_
            refine x_call1 (as := [.ref 3, .int v1]) (rest := []) r20_91 rfl rfl rfl (by decide) (Nat.le_of_ble_eq_true rfl) (am_rows_at (n := 28) rfl (by decide)) (Nat.le_trans (by decide) hd) (Nat.zero_le _) (Nat.zero_le _) rfl ?_
            subst h
            exact x_ret (ret := some .int) (C := True) (v := some (.int _)) r20_94 rt20 rfl rfl rfl rfl rfl rfl rfl rfl trivial hQ
          · rcases am_ifE h with ⟨c6, h⟩ | ⟨c6, h⟩
            · refine x_tsw (p' := 95) r20_52 (am_swF c5 (am_swT c6)) ?_
              refine x_ld (v := .ref 0) r20_95 rfl rfl rfl ?_
              refine y_gf (cd := 3) (v := .ref 1) r20_96 rfl rfl rfl ?_
              refine y_gf (cd := 4) (v := .ref 2) r20_99 rfl rfl rfl ?_
              refine y_gf (cd := 6) (v := .ref 4) r20_102 rfl rfl rfl ?_
              refine x_ld (v := .int v1) r20_105 rfl rfl rfl ?_
              refine x_call1 (as := [.ref 4, .int v1]) (rest := []) r20_106 rfl rfl rfl (by decide) (Nat.le_of_ble_eq_true rfl) (am_rows_at (n := 28) rfl (by decide)) (Nat.le_trans (by decide) hd) (Nat.zero_le _) (Nat.zero_le _) rfl ?_
              subst h
              exact x_ret (ret := some .int) (C := True) (v := some (.int _)) r20_109 rt20 rfl rfl rfl rfl rfl rfl rfl rfl trivial hQ
            · rcases am_ifE h with ⟨c7, h⟩ | ⟨c7, h⟩
              · refine x_tsw (p' := 110) r20_52 (am_swF c5 (am_swF c6 (am_swT c7))) ?_
                refine x_ld (v := .ref 0) r20_110 rfl rfl rfl ?_
                refine y_gf (cd := 3) (v := .ref 1) r20_111 rfl rfl rfl ?_
                refine y_gf (cd := 4) (v := .ref 2) r20_114 rfl rfl rfl ?_
                refine x_ld (v := .int v1) r20_117 rfl rfl rfl ?_
                refine x_call1 (as := [.ref 2, .int v1]) (rest := []) r20_118 rfl rfl rfl (by decide) (Nat.le_of_ble_eq_true rfl) (m155_ok rfl) (Nat.le_trans (by decide) hd) (Nat.zero_le _) (Nat.zero_le _) rfl ?_
                subst h
                exact x_ret (ret := some .int) (C := True) (v := some (.int _)) r20_121 rt20 rfl rfl rfl rfl rfl rfl rfl rfl trivial hQ
              · refine x_tsw (p' := 122) r20_52 (am_swF c5 (am_swF c6 (am_swF c7 (rfl)))) ?_
                refine x_ld (v := .ref 0) r20_122 rfl rfl rfl ?_
                refine y_gf (cd := 3) (v := .ref 1) r20_123 rfl rfl rfl ?_
                refine y_gf (cd := 4) (v := .ref 2) r20_126 rfl rfl rfl ?_
                refine y_gf (cd := 8) (v := .ref 6) r20_129 rfl rfl rfl ?_
                refine x_ld (v := .int v1) r20_132 rfl rfl rfl ?_
                refine x_call1 (as := [.ref 6, .int v1]) (rest := []) r20_133 rfl rfl rfl (by decide) (Nat.le_of_ble_eq_true rfl) (am_rows_at (n := 28) rfl (by decide)) (Nat.le_trans (by decide) hd) (Nat.zero_le _) (Nat.zero_le _) rfl ?_
                subst h
                exact x_ret (ret := some .int) (C := True) (v := some (.int _)) r20_136 rt20 rfl rfl rfl rfl rfl rfl rfl rfl trivial hQ
        · refine x_icltF r20_46 c4 rfl ?_
          refine x_ic (v := -1) r20_49 rfl rfl ?_
          subst h
          exact x_ret (ret := some .int) (C := True) (v := some (.int _)) r20_50 rt20 rfl rfl rfl rfl rfl rfl rfl rfl trivial hQ
      · refine x_icleF r20_21 c3 rfl ?_
        subst h
        exact x_thr r20_24 (hE _ rfl).1 (hE _ rfl).2 (Nat.le_of_ble_eq_true rfl) hQ
  · refine x_ifgeF r20_1 c1 rfl ?_
    subst h
    exact x_thr r20_4 (hE _ rfl).1 (hE _ rfl).2 (Nat.le_of_ble_eq_true rfl) hQ
theorem m20_okv {D : am_D} {v1 : Int32} {v2 : Int32} {r : (Int32 ⊕ Nat)} {v : Int32} (h : m20 D v1 v2 = r) (hv : am_inl r = some v) : am_Y xs L 20 3 0 0 [.ref 0, .int v1, .int v2] D (.inl (some (.int v))) D := am_Yof (mi := am_m20) (lc := [.ref 0, .int v1, .int v2]) pg20 (Nat.le_of_ble_eq_true rfl) (am_rc1 (ci := 7) rfl rfl rfl rfl rfl) rfl (fun Q hQ => m20_w (Nat.le_refl _) h (fun E e => by rw [e] at hv; cases hv) (by rw [am_inlE hv]; exact hQ))
theorem m20_exv {D : am_D} {v1 : Int32} {v2 : Int32} {r : (Int32 ⊕ Nat)} {E : Nat} (h : m20 D v1 v2 = r) (hv : r = .inr E) : am_Y xs L 20 3 1 6 [.ref 0, .int v1, .int v2] D (.inr E) D := am_Yof (mi := am_m20) (lc := [.ref 0, .int v1, .int v2]) pg20 (Nat.le_of_ble_eq_true rfl) (am_rc1 (ci := 7) rfl rfl rfl rfl rfl) rfl (fun Q hQ => m20_w (Nat.le_refl _) h (fun E e => ⟨Nat.le_refl _, Nat.le_refl _⟩) (by rw [hv]; exact hQ))
theorem r21_0 : am_at 21 0 = some (.iload_n 1, 1, [1]) := by decide +kernel
theorem r21_1 : am_at 21 1 = some (.invokestatic 58, 3, [40, 1, 589, 0]) := by decide +kernel
theorem r21_4 : am_at 21 4 = some (.ifCond .ne (13), 3, [17]) := by decide +kernel
theorem r21_7 : am_at 21 7 = some (.new 65, 3, [9, 1, 0, 107, 69, 534, 104, 5, 544]) := by decide +kernel
theorem r21_17 : am_at 21 17 = some (.iload_n 2, 1, [2]) := by decide +kernel
theorem r21_18 : am_at 21 18 = some (.tableswitch (157) (0) (9) #[54, 63, 72, 84, 96, 105, 117, 126, 135, 144], 54, [175, 0, 72, 1, 81, 2, 90, 3, 102, 4, 114, 5, 123, 6, 135, 7, 144, 8, 153, 9, 162]) := by decide +kernel
theorem r21_72 : am_at 21 72 = some (.aload_n 0, 1, [0]) := by decide +kernel
theorem r21_73 : am_at 21 73 = some (.getfield 10, 3, [7, 0, 3, 332]) := by decide +kernel
theorem r21_76 : am_at 21 76 = some (.iload_n 1, 1, [1]) := by decide +kernel
theorem r21_77 : am_at 21 77 = some (.invokevirtual 89, 3, [204, 2, 450, 0]) := by decide +kernel
theorem r21_80 : am_at 21 80 = some (.ireturn, 1, []) := by decide +kernel
theorem r21_81 : am_at 21 81 = some (.aload_n 0, 1, [0]) := by decide +kernel
theorem r21_82 : am_at 21 82 = some (.getfield 10, 3, [7, 0, 3, 332]) := by decide +kernel
theorem r21_85 : am_at 21 85 = some (.iload_n 1, 1, [1]) := by decide +kernel
theorem r21_86 : am_at 21 86 = some (.invokevirtual 286, 3, [205, 2, 593, 0]) := by decide +kernel
theorem r21_89 : am_at 21 89 = some (.ireturn, 1, []) := by decide +kernel
theorem r21_90 : am_at 21 90 = some (.aload_n 0, 1, [0]) := by decide +kernel
theorem r21_91 : am_at 21 91 = some (.getfield 10, 3, [7, 0, 3, 332]) := by decide +kernel
theorem r21_94 : am_at 21 94 = some (.getfield 289, 3, [4, 2, 3, 165]) := by decide +kernel
theorem r21_97 : am_at 21 97 = some (.iload_n 1, 1, [1]) := by decide +kernel
theorem r21_98 : am_at 21 98 = some (.invokestatic 250, 3, [180, 2, 449, 0]) := by decide +kernel
theorem r21_101 : am_at 21 101 = some (.ireturn, 1, []) := by decide +kernel
theorem r21_102 : am_at 21 102 = some (.aload_n 0, 1, [0]) := by decide +kernel
theorem r21_103 : am_at 21 103 = some (.getfield 10, 3, [7, 0, 3, 332]) := by decide +kernel
theorem r21_106 : am_at 21 106 = some (.getfield 292, 3, [4, 3, 3, 168]) := by decide +kernel
theorem r21_109 : am_at 21 109 = some (.iload_n 1, 1, [1]) := by decide +kernel
theorem r21_110 : am_at 21 110 = some (.invokestatic 250, 3, [180, 2, 449, 0]) := by decide +kernel
theorem r21_113 : am_at 21 113 = some (.ireturn, 1, []) := by decide +kernel
theorem r21_114 : am_at 21 114 = some (.aload_n 0, 1, [0]) := by decide +kernel
theorem r21_115 : am_at 21 115 = some (.getfield 10, 3, [7, 0, 3, 332]) := by decide +kernel
theorem r21_118 : am_at 21 118 = some (.iload_n 1, 1, [1]) := by decide +kernel
theorem r21_119 : am_at 21 119 = some (.invokevirtual 295, 3, [208, 2, 594, 0]) := by decide +kernel
theorem r21_122 : am_at 21 122 = some (.ireturn, 1, []) := by decide +kernel
theorem r21_123 : am_at 21 123 = some (.aload_n 0, 1, [0]) := by decide +kernel
theorem r21_124 : am_at 21 124 = some (.getfield 10, 3, [7, 0, 3, 332]) := by decide +kernel
theorem r21_127 : am_at 21 127 = some (.getfield 298, 3, [4, 4, 3, 170]) := by decide +kernel
theorem r21_130 : am_at 21 130 = some (.iload_n 1, 1, [1]) := by decide +kernel
theorem r21_131 : am_at 21 131 = some (.invokestatic 250, 3, [180, 2, 449, 0]) := by decide +kernel
theorem r21_134 : am_at 21 134 = some (.ireturn, 1, []) := by decide +kernel
theorem r21_135 : am_at 21 135 = some (.aload_n 0, 1, [0]) := by decide +kernel
theorem r21_136 : am_at 21 136 = some (.getfield 10, 3, [7, 0, 3, 332]) := by decide +kernel
theorem r21_139 : am_at 21 139 = some (.iload_n 1, 1, [1]) := by decide +kernel
theorem r21_140 : am_at 21 140 = some (.invokevirtual 119, 3, [206, 2, 599, 0]) := by decide +kernel
theorem r21_143 : am_at 21 143 = some (.ireturn, 1, []) := by decide +kernel
theorem r21_144 : am_at 21 144 = some (.aload_n 0, 1, [0]) := by decide +kernel
theorem r21_145 : am_at 21 145 = some (.getfield 10, 3, [7, 0, 3, 332]) := by decide +kernel
theorem r21_148 : am_at 21 148 = some (.iload_n 1, 1, [1]) := by decide +kernel
theorem r21_149 : am_at 21 149 = some (.invokevirtual 301, 3, [207, 2, 606, 0]) := by decide +kernel
theorem r21_152 : am_at 21 152 = some (.ireturn, 1, []) := by decide +kernel
theorem r21_153 : am_at 21 153 = some (.aload_n 0, 1, [0]) := by decide +kernel
theorem r21_154 : am_at 21 154 = some (.getfield 10, 3, [7, 0, 3, 332]) := by decide +kernel
theorem r21_157 : am_at 21 157 = some (.iload_n 1, 1, [1]) := by decide +kernel
theorem r21_158 : am_at 21 158 = some (.invokevirtual 142, 3, [221, 2, 610, 0]) := by decide +kernel
theorem r21_161 : am_at 21 161 = some (.ireturn, 1, []) := by decide +kernel
theorem r21_162 : am_at 21 162 = some (.aload_n 0, 1, [0]) := by decide +kernel
theorem r21_163 : am_at 21 163 = some (.getfield 50, 3, [7, 6, 3, 338]) := by decide +kernel
theorem r21_166 : am_at 21 166 = some (.aload_n 0, 1, [0]) := by decide +kernel
theorem r21_167 : am_at 21 167 = some (.getfield 10, 3, [7, 0, 3, 332]) := by decide +kernel
theorem r21_170 : am_at 21 170 = some (.iload_n 1, 1, [1]) := by decide +kernel
theorem r21_171 : am_at 21 171 = some (.invokevirtual 304, 3, [258, 3, 615, 0]) := by decide +kernel
theorem r21_174 : am_at 21 174 = some (.ireturn, 1, []) := by decide +kernel
theorem r21_175 : am_at 21 175 = some (.new 93, 3, [9, 2, 1, 308, 97, 455, 109, 6, 497]) := by decide +kernel
theorem rt21 : am_rtt 21 = some (some .int) := by decide +kernel
set_option maxRecDepth 100000 in
theorem pg21 : am_pg[21]? = some am_m21 := rfl
theorem m21_w {d mc ms : Nat} {N : Nat} {D : am_D} {v1 : Int32} {v2 : Int32} {Q : am_O → am_AH → Prop} (hd : 15 ≤ d) {r : (Int32 ⊕ Nat) × am_D} (h : m21 N D v1 v2 = some r) (hE : ∀ E, r.1 = .inr E → 0 + 1 ≤ mc ∧ 0 + 6 ≤ ms) (hQ : Q (am_oI r.1) (am_mk r.2)) : am_X xs L 21 d mc ms 0 [.ref 0, .int v1, .int v2] [] (am_mk D) 0 0 Q := by
  unfold m21 at h
  refine x_ld (v := .int v1) r21_0 rfl rfl rfl ?_
  refine x_call1 (as := [.int v1]) (rest := []) r21_1 rfl rfl rfl (by decide) (Nat.le_of_ble_eq_true rfl) (m40_ok rfl) (Nat.le_trans (by decide) hd) (Nat.zero_le _) (Nat.zero_le _) rfl ?_
  rcases am_ifE h with ⟨c1, h⟩ | ⟨c1, h⟩
  · refine x_ifneT r21_4 c1 rfl ?_
    cases h
    exact x_thr r21_7 (hE _ rfl).1 (hE _ rfl).2 (Nat.le_of_ble_eq_true rfl) hQ
  · refine x_ifneF r21_4 c1 ?_
    refine x_ld (v := .int v2) r21_17 rfl rfl rfl ?_
    rcases am_ifE h with ⟨c2, h⟩ | ⟨c2, h⟩
    · refine x_tsw (p' := 72) r21_18 (am_swT c2) ?_
      refine x_ld (v := .ref 0) r21_72 rfl rfl rfl ?_
      refine y_gf (cd := 3) (v := .ref 1) r21_73 rfl rfl rfl ?_
      refine x_ld (v := .int v1) r21_76 rfl rfl rfl ?_
      obtain ⟨q3, h4, h⟩ := Option.bind_eq_some_iff.mp h
      refine x_call1 (as := [.ref 1, .int v1]) (rest := []) r21_77 rfl rfl rfl (by decide) (Nat.le_of_ble_eq_true rfl) (m204_ok h4) (Nat.le_trans (by decide) hd) (Nat.zero_le _) (Nat.zero_le _) rfl ?_
      cases h
      exact x_ret (ret := some .int) (C := True) (v := some (.int _)) r21_80 rt21 rfl rfl rfl rfl rfl rfl rfl rfl trivial hQ
    · rcases am_ifE h with ⟨c5, h⟩ | ⟨c5, h⟩
      · refine x_tsw (p' := 81) r21_18 (am_swF c2 (am_swT c5)) ?_
        refine x_ld (v := .ref 0) r21_81 rfl rfl rfl ?_
        refine y_gf (cd := 3) (v := .ref 1) r21_82 rfl rfl rfl ?_
        refine x_ld (v := .int v1) r21_85 rfl rfl rfl ?_
        obtain ⟨q6, h7, h⟩ := Option.bind_eq_some_iff.mp h
        refine x_call1 (as := [.ref 1, .int v1]) (rest := []) r21_86 rfl rfl rfl (by decide) (Nat.le_of_ble_eq_true rfl) (m205_ok h7) (Nat.le_trans (by decide) hd) (Nat.zero_le _) (Nat.zero_le _) rfl ?_
        cases h
        exact x_ret (ret := some .int) (C := True) (v := some (.int _)) r21_89 rt21 rfl rfl rfl rfl rfl rfl rfl rfl trivial hQ
      · rcases am_ifE h with ⟨c8, h⟩ | ⟨c8, h⟩
        · refine x_tsw (p' := 90) r21_18 (am_swF c2 (am_swF c5 (am_swT c8))) ?_
          refine x_ld (v := .ref 0) r21_90 rfl rfl rfl ?_
          refine y_gf (cd := 3) (v := .ref 1) r21_91 rfl rfl rfl ?_
          refine y_gf (cd := 10) (v := .ref 8) r21_94 rfl rfl rfl ?_
          refine x_ld (v := .int v1) r21_97 rfl rfl rfl ?_
          refine x_call1 (as := [.ref 8, .int v1]) (rest := []) r21_98 rfl rfl rfl (by decide) (Nat.le_of_ble_eq_true rfl) (am_rows_at (n := 4) rfl (by decide)) (Nat.le_trans (by decide) hd) (Nat.zero_le _) (Nat.zero_le _) rfl ?_
          cases h
          exact x_ret (ret := some .int) (C := True) (v := some (.int _)) r21_101 rt21 rfl rfl rfl rfl rfl rfl rfl rfl trivial hQ
        · rcases am_ifE h with ⟨c9, h⟩ | ⟨c9, h⟩
          · refine x_tsw (p' := 102) r21_18 (am_swF c2 (am_swF c5 (am_swF c8 (am_swT c9)))) ?_
            refine x_ld (v := .ref 0) r21_102 rfl rfl rfl ?_
            refine y_gf (cd := 3) (v := .ref 1) r21_103 rfl rfl rfl ?_
            refine y_gf (cd := 11) (v := .ref 9) r21_106 rfl rfl rfl ?_
            refine x_ld (v := .int v1) r21_109 rfl rfl rfl ?_
            refine x_call1 (as := [.ref 9, .int v1]) (rest := []) r21_110 rfl rfl rfl (by decide) (Nat.le_of_ble_eq_true rfl) (am_rows_at (n := 4) rfl (by decide)) (Nat.le_trans (by decide) hd) (Nat.zero_le _) (Nat.zero_le _) rfl ?_
            cases h
            exact x_ret (ret := some .int) (C := True) (v := some (.int _)) r21_113 rt21 rfl rfl rfl rfl rfl rfl rfl rfl trivial hQ
          · rcases am_ifE h with ⟨c10, h⟩ | ⟨c10, h⟩
            · refine x_tsw (p' := 114) r21_18 (am_swF c2 (am_swF c5 (am_swF c8 (am_swF c9 (am_swT c10))))) ?_
              refine x_ld (v := .ref 0) r21_114 rfl rfl rfl ?_
              refine y_gf (cd := 3) (v := .ref 1) r21_115 rfl rfl rfl ?_
              refine x_ld (v := .int v1) r21_118 rfl rfl rfl ?_
              obtain ⟨q11, h12, h⟩ := Option.bind_eq_some_iff.mp h
              refine x_call1 (as := [.ref 1, .int v1]) (rest := []) r21_119 rfl rfl rfl (by decide) (Nat.le_of_ble_eq_true rfl) (m208_ok h12) (Nat.le_trans (by decide) hd) (Nat.zero_le _) (Nat.zero_le _) rfl ?_
              cases h
              exact x_ret (ret := some .int) (C := True) (v := some (.int _)) r21_122 rt21 rfl rfl rfl rfl rfl rfl rfl rfl trivial hQ
            · rcases am_ifE h with ⟨c13, h⟩ | ⟨c13, h⟩
              · refine x_tsw (p' := 123) r21_18 (am_swF c2 (am_swF c5 (am_swF c8 (am_swF c9 (am_swF c10 (am_swT c13)))))) ?_
                refine x_ld (v := .ref 0) r21_123 rfl rfl rfl ?_
                refine y_gf (cd := 3) (v := .ref 1) r21_124 rfl rfl rfl ?_
                refine y_gf (cd := 12) (v := .ref 10) r21_127 rfl rfl rfl ?_
                refine x_ld (v := .int v1) r21_130 rfl rfl rfl ?_
                refine x_call1 (as := [.ref 10, .int v1]) (rest := []) r21_131 rfl rfl rfl (by decide) (Nat.le_of_ble_eq_true rfl) (am_rows_at (n := 4) rfl (by decide)) (Nat.le_trans (by decide) hd) (Nat.zero_le _) (Nat.zero_le _) rfl ?_
                cases h
                exact x_ret (ret := some .int) (C := True) (v := some (.int _)) r21_134 rt21 rfl rfl rfl rfl rfl rfl rfl rfl trivial hQ
              · rcases am_ifE h with ⟨c14, h⟩ | ⟨c14, h⟩
                · refine x_tsw (p' := 135) r21_18 (am_swF c2 (am_swF c5 (am_swF c8 (am_swF c9 (am_swF c10 (am_swF c13 (am_swT c14))))))) ?_
                  refine x_ld (v := .ref 0) r21_135 rfl rfl rfl ?_
                  refine y_gf (cd := 3) (v := .ref 1) r21_136 rfl rfl rfl ?_
                  refine x_ld (v := .int v1) r21_139 rfl rfl rfl ?_
                  obtain ⟨q15, h16, h⟩ := Option.bind_eq_some_iff.mp h
                  refine x_call1 (as := [.ref 1, .int v1]) (rest := []) r21_140 rfl rfl rfl (by decide) (Nat.le_of_ble_eq_true rfl) (m206_ok h16) (Nat.le_trans (by decide) hd) (Nat.zero_le _) (Nat.zero_le _) rfl ?_
                  cases h
                  exact x_ret (ret := some .int) (C := True) (v := some (.int _)) r21_143 rt21 rfl rfl rfl rfl rfl rfl rfl rfl trivial hQ
                · rcases am_ifE h with ⟨c17, h⟩ | ⟨c17, h⟩
                  · refine x_tsw (p' := 144) r21_18 (am_swF c2 (am_swF c5 (am_swF c8 (am_swF c9 (am_swF c10 (am_swF c13 (am_swF c14 (am_swT c17)))))))) ?_
                    refine x_ld (v := .ref 0) r21_144 rfl rfl rfl ?_
                    refine y_gf (cd := 3) (v := .ref 1) r21_145 rfl rfl rfl ?_
                    refine x_ld (v := .int v1) r21_148 rfl rfl rfl ?_
                    obtain ⟨q18, h19, h⟩ := Option.bind_eq_some_iff.mp h
                    refine x_call1 (as := [.ref 1, .int v1]) (rest := []) r21_149 rfl rfl rfl (by decide) (Nat.le_of_ble_eq_true rfl) (m207_ok h19) (Nat.le_trans (by decide) hd) (Nat.zero_le _) (Nat.zero_le _) rfl ?_
                    cases h
                    exact x_ret (ret := some .int) (C := True) (v := some (.int _)) r21_152 rt21 rfl rfl rfl rfl rfl rfl rfl rfl trivial hQ
                  · rcases am_ifE h with ⟨c20, h⟩ | ⟨c20, h⟩
                    · refine x_tsw (p' := 153) r21_18 (am_swF c2 (am_swF c5 (am_swF c8 (am_swF c9 (am_swF c10 (am_swF c13 (am_swF c14 (am_swF c17 (am_swT c20))))))))) ?_
                      refine x_ld (v := .ref 0) r21_153 rfl rfl rfl ?_
                      refine y_gf (cd := 3) (v := .ref 1) r21_154 rfl rfl rfl ?_
                      refine x_ld (v := .int v1) r21_157 rfl rfl rfl ?_
                      obtain ⟨q21, h22, h⟩ := Option.bind_eq_some_iff.mp h
                      refine x_call1 (as := [.ref 1, .int v1]) (rest := []) r21_158 rfl rfl rfl (by decide) (Nat.le_of_ble_eq_true rfl) (m221_ok h22) (Nat.le_trans (by decide) hd) (Nat.zero_le _) (Nat.zero_le _) rfl ?_
                      cases h
                      exact x_ret (ret := some .int) (C := True) (v := some (.int _)) r21_161 rt21 rfl rfl rfl rfl rfl rfl rfl rfl trivial hQ
                    · rcases am_ifE h with ⟨c23, h⟩ | ⟨c23, h⟩
                      · refine x_tsw (p' := 162) r21_18 (am_swF c2 (am_swF c5 (am_swF c8 (am_swF c9 (am_swF c10 (am_swF c13 (am_swF c14 (am_swF c17 (am_swF c20 (am_swT c23)))))))))) ?_
                        refine x_ld (v := .ref 0) r21_162 rfl rfl rfl ?_
                        refine y_gf (cd := 106) (v := .ref 104) r21_163 rfl rfl rfl ?_
                        refine x_ld (v := .ref 0) r21_166 rfl rfl rfl ?_
                        refine y_gf (cd := 3) (v := .ref 1) r21_167 rfl rfl rfl ?_
                        refine x_ld (v := .int v1) r21_170 rfl rfl rfl ?_
                        obtain ⟨q24, h25, h⟩ := Option.bind_eq_some_iff.mp h
                        refine x_call1 (as := [.ref 104, .ref 1, .int v1]) (rest := []) r21_171 rfl rfl rfl (by decide) (Nat.le_of_ble_eq_true rfl) (m258_ok h25) (Nat.le_trans (by decide) hd) (Nat.zero_le _) (Nat.zero_le _) rfl ?_
                        cases h
                        exact x_ret (ret := some .int) (C := True) (v := some (.int _)) r21_174 rt21 rfl rfl rfl rfl rfl rfl rfl rfl trivial hQ
                      · refine x_tsw (p' := 175) r21_18 (am_swF c2 (am_swF c5 (am_swF c8 (am_swF c9 (am_swF c10 (am_swF c13 (am_swF c14 (am_swF c17 (am_swF c20 (am_swF c23 (rfl))))))))))) ?_
                        cases h
                        exact x_thr r21_175 (hE _ rfl).1 (hE _ rfl).2 (Nat.le_of_ble_eq_true rfl) hQ
theorem m21_okv {N : Nat} {D : am_D} {v1 : Int32} {v2 : Int32} {r : (Int32 ⊕ Nat) × am_D} {v : Int32} (h : m21 N D v1 v2 = some r) (hv : am_inl r.1 = some v) : am_Y xs L 21 15 0 0 [.ref 0, .int v1, .int v2] D (.inl (some (.int v))) r.2 := am_Yof (mi := am_m21) (lc := [.ref 0, .int v1, .int v2]) pg21 (Nat.le_of_ble_eq_true rfl) (am_rc1 (ci := 7) rfl rfl rfl rfl rfl) rfl (fun Q hQ => m21_w (Nat.le_refl _) h (fun E e => by rw [e] at hv; cases hv) (by rw [am_inlE hv]; exact hQ))
theorem m21_exv {N : Nat} {D : am_D} {v1 : Int32} {v2 : Int32} {r : (Int32 ⊕ Nat) × am_D} {E : Nat} (h : m21 N D v1 v2 = some r) (hv : r.1 = .inr E) : am_Y xs L 21 15 1 6 [.ref 0, .int v1, .int v2] D (.inr E) r.2 := am_Yof (mi := am_m21) (lc := [.ref 0, .int v1, .int v2]) pg21 (Nat.le_of_ble_eq_true rfl) (am_rc1 (ci := 7) rfl rfl rfl rfl rfl) rfl (fun Q hQ => m21_w (Nat.le_refl _) h (fun E e => ⟨Nat.le_refl _, Nat.le_refl _⟩) (by rw [hv]; exact hQ))
end XE
