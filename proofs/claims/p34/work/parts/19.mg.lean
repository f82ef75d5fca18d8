/-! walks (by wip/p34/tools/decomp.py): 224 290 176 173 5 6 24 25 26 -/
section XE
variable {xs : Nat → Int32} {L : Nat}
theorem r224_0 : am_at 224 0 = some (.aload_n 0, 1, [0]) := by decide +kernel
theorem r224_1 : am_at 224 1 = some (.getfield 22, 3, [4, 2, 3, 91]) := by decide +kernel
theorem r224_4 : am_at 224 4 = some (.iload_n 1, 1, [1]) := by decide +kernel
theorem r224_5 : am_at 224 5 = some (.invokestatic 75, 3, [180, 2, 488, 0]) := by decide +kernel
theorem r224_8 : am_at 224 8 = some (.ifCond .le (45), 3, [53]) := by decide +kernel
theorem r224_11 : am_at 224 11 = some (.aload_n 0, 1, [0]) := by decide +kernel
theorem r224_12 : am_at 224 12 = some (.getfield 12, 3, [4, 0, 3, 87]) := by decide +kernel
theorem r224_15 : am_at 224 15 = some (.iconst (0), 1, []) := by decide +kernel
theorem r224_16 : am_at 224 16 = some (.invokevirtual 174, 3, [156, 2, 733, 0]) := by decide +kernel
theorem r224_19 : am_at 224 19 = some (.invokestatic 177, 3, [225, 1, 734, 0]) := by decide +kernel
theorem r224_22 : am_at 224 22 = some (.aload_n 0, 1, [0]) := by decide +kernel
theorem r224_23 : am_at 224 23 = some (.getfield 12, 3, [4, 0, 3, 87]) := by decide +kernel
theorem r224_26 : am_at 224 26 = some (.iconst (1), 1, []) := by decide +kernel
theorem r224_27 : am_at 224 27 = some (.invokevirtual 174, 3, [156, 2, 733, 0]) := by decide +kernel
theorem r224_30 : am_at 224 30 = some (.invokestatic 177, 3, [225, 1, 734, 0]) := by decide +kernel
theorem r224_33 : am_at 224 33 = some (.ior, 1, []) := by decide +kernel
theorem r224_34 : am_at 224 34 = some (.istore_n 2, 1, [2]) := by decide +kernel
theorem r224_35 : am_at 224 35 = some (.aload_n 0, 1, [0]) := by decide +kernel
theorem r224_36 : am_at 224 36 = some (.getfield 25, 3, [4, 3, 3, 93]) := by decide +kernel
theorem r224_39 : am_at 224 39 = some (.iload_n 1, 1, [1]) := by decide +kernel
theorem r224_40 : am_at 224 40 = some (.aload_n 0, 1, [0]) := by decide +kernel
theorem r224_41 : am_at 224 41 = some (.getfield 25, 3, [4, 3, 3, 93]) := by decide +kernel
theorem r224_44 : am_at 224 44 = some (.iload_n 1, 1, [1]) := by decide +kernel
theorem r224_45 : am_at 224 45 = some (.invokestatic 75, 3, [180, 2, 488, 0]) := by decide +kernel
theorem r224_48 : am_at 224 48 = some (.iload_n 2, 1, [2]) := by decide +kernel
theorem r224_49 : am_at 224 49 = some (.ior, 1, []) := by decide +kernel
theorem r224_50 : am_at 224 50 = some (.invokestatic 112, 3, [181, 3, 628, 0]) := by decide +kernel
theorem r224_53 : am_at 224 53 = some (.aload_n 0, 1, [0]) := by decide +kernel
theorem r224_54 : am_at 224 54 = some (.getfield 28, 3, [4, 4, 3, 96]) := by decide +kernel
theorem r224_57 : am_at 224 57 = some (.iload_n 1, 1, [1]) := by decide +kernel
theorem r224_58 : am_at 224 58 = some (.iconst (1), 1, []) := by decide +kernel
theorem r224_59 : am_at 224 59 = some (.invokestatic 169, 3, [182, 3, 737, 0]) := by decide +kernel
theorem r224_62 : am_at 224 62 = some (.aload_n 0, 1, [0]) := by decide +kernel
theorem r224_63 : am_at 224 63 = some (.dup, 1, []) := by decide +kernel
theorem r224_64 : am_at 224 64 = some (.getfield 69, 3, [4, 14, 0, 118]) := by decide +kernel
theorem r224_67 : am_at 224 67 = some (.iconst (1), 1, []) := by decide +kernel
theorem r224_68 : am_at 224 68 = some (.iadd, 1, []) := by decide +kernel
theorem r224_69 : am_at 224 69 = some (.putfield 69, 3, [4, 14, 0, 118]) := by decide +kernel
theorem r224_72 : am_at 224 72 = some (.aload_n 0, 1, [0]) := by decide +kernel
theorem r224_73 : am_at 224 73 = some (.dup, 1, []) := by decide +kernel
theorem r224_74 : am_at 224 74 = some (.getfield 60, 3, [4, 11, 0, 111]) := by decide +kernel
theorem r224_77 : am_at 224 77 = some (.iconst (1), 1, []) := by decide +kernel
theorem r224_78 : am_at 224 78 = some (.iadd, 1, []) := by decide +kernel
theorem r224_79 : am_at 224 79 = some (.putfield 60, 3, [4, 11, 0, 111]) := by decide +kernel
theorem r224_82 : am_at 224 82 = some (.aload_n 0, 1, [0]) := by decide +kernel
theorem r224_83 : am_at 224 83 = some (.getfield 60, 3, [4, 11, 0, 111]) := by decide +kernel
theorem r224_86 : am_at 224 86 = some (.iconst (4), 1, []) := by decide +kernel
theorem r224_87 : am_at 224 87 = some (.if_icmp .lt (14), 3, [101]) := by decide +kernel
theorem r224_90 : am_at 224 90 = some (.aload_n 0, 1, [0]) := by decide +kernel
theorem r224_91 : am_at 224 91 = some (.invokevirtual 180, 3, [226, 1, 740, 0]) := by decide +kernel
theorem r224_94 : am_at 224 94 = some (.aload_n 0, 1, [0]) := by decide +kernel
theorem r224_95 : am_at 224 95 = some (.invokevirtual 171, 3, [227, 1, 744, 0]) := by decide +kernel
theorem r224_98 : am_at 224 98 = some (.goto (11), 3, [109]) := by decide +kernel
theorem r224_101 : am_at 224 101 = some (.aload_n 0, 1, [0]) := by decide +kernel
theorem r224_102 : am_at 224 102 = some (.iload_n 1, 1, [1]) := by decide +kernel
theorem r224_103 : am_at 224 103 = some (.invokestatic 131, 3, [185, 1, 610, 0]) := by decide +kernel
theorem r224_106 : am_at 224 106 = some (.putfield 38, 3, [4, 7, 0, 102]) := by decide +kernel
theorem r224_109 : am_at 224 109 = some (.aload_n 0, 1, [0]) := by decide +kernel
theorem r224_110 : am_at 224 110 = some (.getfield 60, 3, [4, 11, 0, 111]) := by decide +kernel
theorem r224_113 : am_at 224 113 = some (.ireturn, 1, []) := by decide +kernel
theorem rt224 : am_rtt 224 = some (some .int) := by decide +kernel
set_option maxRecDepth 100000 in
theorem pg224 : am_pg[224]? = some am_m224 := rfl
theorem m224_w {d mc ms : Nat} {N : Nat} {D : am_D} {v1 : Int32} {Q : am_O → am_AH → Prop} (hd : 4 ≤ d) {r : Int32 × am_D} (h : m224 N D v1 = some r) (hQ : Q (.inl (some (.int r.1))) (am_mk r.2)) : am_X xs L 224 d mc ms 0 [.ref 1, .int v1, am_dead] [] (am_mk D) 0 0 Q := by
  unfold m224 at h
  refine x_ld (v := .ref 1) r224_0 rfl rfl rfl ?_
  refine y_gf (cd := 10) (v := .ref 8) r224_1 rfl rfl rfl ?_
  refine x_ld (v := .int v1) r224_4 rfl rfl rfl ?_
  refine x_call1 (as := [.ref 8, .int v1]) (rest := []) r224_5 rfl rfl rfl (by decide) (Nat.le_of_ble_eq_true rfl) (am_rows_at (n := 4) rfl (by decide)) (Nat.le_trans (by decide) hd) (Nat.zero_le _) (Nat.zero_le _) rfl ?_
  obtain ⟨q1, h3, h⟩ := am_ltE h
  replace h3 := h3.symm
  have kj2 : am_X xs L 224 d mc ms 53 [.ref 1, .int v1, am_dead] [] (am_mk q1) 0 0 Q := by
    refine x_ld (v := .ref 1) r224_53 rfl rfl rfl ?_
    refine y_gf (cd := 12) (v := .ref 10) r224_54 rfl rfl rfl ?_
    refine x_ld (v := .int v1) r224_57 rfl rfl rfl ?_
    refine x_ic (v := 1) r224_58 rfl rfl ?_
    obtain ⟨D9, e10, h⟩ := am_ltE h
    refine x_call0 (as := [.ref 10, .int v1, .int (1 : Int32)]) (rest := []) r224_59 rfl rfl rfl (by decide) (Nat.le_of_ble_eq_true rfl) (am_rows_add (n := 4) rfl (by decide) e10) (Nat.le_trans (by decide) hd) (Nat.zero_le _) (Nat.zero_le _) rfl ?_
    refine x_ld (v := .ref 1) r224_62 rfl rfl rfl ?_
    refine x_ar r224_63 rfl trivial rfl ?_
    refine y_gf (cd := 0) (v := .int (D9.1 1 14)) r224_64 rfl rfl rfl ?_
    refine x_ic (v := 1) r224_67 rfl rfl ?_
    refine x_ar r224_68 rfl trivial rfl ?_
    obtain ⟨D11, e12, h⟩ := am_ltE h
    refine y_pf0 r224_69 rfl e12 rfl ?_
    refine x_ld (v := .ref 1) r224_72 rfl rfl rfl ?_
    refine x_ar r224_73 rfl trivial rfl ?_
    refine y_gf (cd := 0) (v := .int (D11.1 1 11)) r224_74 rfl rfl rfl ?_
    refine x_ic (v := 1) r224_77 rfl rfl ?_
    refine x_ar r224_78 rfl trivial rfl ?_
    obtain ⟨D13, e14, h⟩ := am_ltE h
    refine y_pf0 r224_79 rfl e14 rfl ?_
    refine x_ld (v := .ref 1) r224_82 rfl rfl rfl ?_
    refine y_gf (cd := 0) (v := .int (D13.1 1 11)) r224_83 rfl rfl rfl ?_
    refine x_ic (v := 4) r224_86 rfl rfl ?_
    rcases am_ifE h with ⟨c15, h⟩ | ⟨c15, h⟩
    · refine x_icltT r224_87 c15 ?_
      refine x_ld (v := .ref 1) r224_101 rfl rfl rfl ?_
      refine x_ld (v := .int v1) r224_102 rfl rfl rfl ?_
      refine x_call1 (as := [.int v1]) (rest := [.ref 1]) r224_103 rfl rfl rfl (by decide) (Nat.le_of_ble_eq_true rfl) (m185_ok rfl) (Nat.le_trans (by decide) hd) (Nat.zero_le _) (Nat.zero_le _) rfl ?_
      obtain ⟨D16, e17, h⟩ := am_ltE h
      refine y_pf0 r224_106 rfl e17 rfl ?_
      refine x_ld (v := .ref 1) r224_109 rfl rfl rfl ?_
      refine y_gf (cd := 0) (v := .int (D16.1 1 11)) r224_110 rfl rfl rfl ?_
      cases h
      exact x_ret (ret := some .int) (C := True) (v := some (.int _)) r224_113 rt224 rfl rfl rfl rfl rfl rfl rfl rfl trivial hQ
    · refine x_icltF r224_87 c15 rfl ?_
      refine x_ld (v := .ref 1) r224_90 rfl rfl rfl ?_
      obtain ⟨q18, h19, h⟩ := Option.bind_eq_some_iff.mp h
      refine x_call0 (as := [.ref 1]) (rest := []) r224_91 rfl rfl rfl (by decide) (Nat.le_of_ble_eq_true rfl) (m226_ok h19) (Nat.le_trans (by decide) hd) (Nat.zero_le _) (Nat.zero_le _) rfl ?_
      refine x_ld (v := .ref 1) r224_94 rfl rfl rfl ?_
      obtain ⟨q20, h21, h⟩ := am_ltE h
      replace h21 := h21.symm
      refine x_call0 (as := [.ref 1]) (rest := []) r224_95 rfl rfl rfl (by decide) (Nat.le_of_ble_eq_true rfl) (m227_ok h21) (Nat.le_trans (by decide) hd) (Nat.zero_le _) (Nat.zero_le _) rfl ?_
      refine x_goto r224_98 ?_
      refine x_ld (v := .ref 1) r224_109 rfl rfl rfl ?_
      refine y_gf (cd := 0) (v := .int (q20.1 1 11)) r224_110 rfl rfl rfl ?_
      cases h
      exact x_ret (ret := some .int) (C := True) (v := some (.int _)) r224_113 rt224 rfl rfl rfl rfl rfl rfl rfl rfl trivial hQ
  rcases am_ifE h3 with ⟨c4, h3⟩ | ⟨c4, h3⟩
  · refine x_ifleT r224_8 c4 ?_
    subst h3
    exact kj2
  · refine x_ifleF r224_8 c4 rfl ?_
    refine x_ld (v := .ref 1) r224_11 rfl rfl rfl ?_
    refine y_gf (cd := 4) (v := .ref 2) r224_12 rfl rfl rfl ?_
    refine x_ic (v := 0) r224_15 rfl rfl ?_
    refine x_call1 (as := [.ref 2, .int (0 : Int32)]) (rest := []) r224_16 rfl rfl rfl (by decide) (Nat.le_of_ble_eq_true rfl) (m156_ok rfl) (Nat.le_trans (by decide) hd) (Nat.zero_le _) (Nat.zero_le _) rfl ?_
    refine x_call1 (as := [.int (m156 D (0 : Int32))]) (rest := []) r224_19 rfl rfl rfl (by decide) (Nat.le_of_ble_eq_true rfl) (m225_ok rfl) (Nat.le_trans (by decide) hd) (Nat.zero_le _) (Nat.zero_le _) rfl ?_
    refine x_ld (v := .ref 1) r224_22 rfl rfl rfl ?_
    refine y_gf (cd := 4) (v := .ref 2) r224_23 rfl rfl rfl ?_
    refine x_ic (v := 1) r224_26 rfl rfl ?_
    refine x_call1 (as := [.ref 2, .int (1 : Int32)]) (rest := [.int (m225 (m156 D (0 : Int32)))]) r224_27 rfl rfl rfl (by decide) (Nat.le_of_ble_eq_true rfl) (m156_ok rfl) (Nat.le_trans (by decide) hd) (Nat.zero_le _) (Nat.zero_le _) rfl ?_
    refine x_call1 (as := [.int (m156 D (1 : Int32))]) (rest := [.int (m225 (m156 D (0 : Int32)))]) r224_30 rfl rfl rfl (by decide) (Nat.le_of_ble_eq_true rfl) (m225_ok rfl) (Nat.le_trans (by decide) hd) (Nat.zero_le _) (Nat.zero_le _) rfl ?_
    refine x_ar r224_33 rfl trivial rfl ?_
    obtain ⟨x5, e6, h3⟩ := am_ltE h3
    refine am_topI e6 ?_
    refine x_sto (lc' := [.ref 1, .int v1, .int x5]) r224_34 rfl rfl rfl rfl ?_
    refine x_ld (v := .ref 1) r224_35 rfl rfl rfl ?_
    refine y_gf (cd := 11) (v := .ref 9) r224_36 rfl rfl rfl ?_
    refine x_ld (v := .int v1) r224_39 rfl rfl rfl ?_
    refine x_ld (v := .ref 1) r224_40 rfl rfl rfl ?_
    refine y_gf (cd := 11) (v := .ref 9) r224_41 rfl rfl rfl ?_
    refine x_ld (v := .int v1) r224_44 rfl rfl rfl ?_
    refine x_call1 (as := [.ref 9, .int v1]) (rest := [.int v1, .ref 9]) r224_45 rfl rfl rfl (by decide) (Nat.le_of_ble_eq_true rfl) (am_rows_at (n := 4) rfl (by decide)) (Nat.le_trans (by decide) hd) (Nat.zero_le _) (Nat.zero_le _) rfl ?_
    refine x_ld (v := .int x5) r224_48 rfl rfl rfl ?_
    refine x_ar r224_49 rfl trivial rfl ?_
    obtain ⟨D7, e8, h3⟩ := am_ltE h3
    refine x_call0 (as := [.ref 9, .int v1, .int ((am_rat (D.1 9) 4 v1) ||| x5)]) (rest := []) r224_50 rfl rfl rfl (by decide) (Nat.le_of_ble_eq_true rfl) (am_rows_put (n := 4) rfl (by decide) e8) (Nat.le_trans (by decide) hd) (Nat.zero_le _) (Nat.zero_le _) rfl ?_
    refine x_forget (lc0 := [.ref 1, .int v1, am_dead]) ⟨Or.inl rfl, Or.inl rfl, Or.inr ⟨rfl, rfl⟩, trivial⟩ ?_
    subst h3
    exact kj2
theorem m224_ok {N : Nat} {D : am_D} {v1 : Int32} {r : Int32 × am_D} (h : m224 N D v1 = some r) : am_Y xs L 224 4 0 0 [.ref 1, .int v1] D (.inl (some (.int r.1))) r.2 := am_Yof (mi := am_m224) (lc := [.ref 1, .int v1, am_dead]) pg224 (Nat.le_of_ble_eq_true rfl) (am_rc1 (ci := 4) rfl rfl rfl rfl rfl) rfl (fun Q hQ => m224_w (Nat.le_refl _) h hQ)
theorem r290_0 : am_at 290 0 = some (.ldc2_w 9, 3, [1, 454, 109]) := by decide +kernel
theorem r290_3 : am_at 290 3 = some (.lstore_n 1, 1, [1]) := by decide +kernel
theorem r290_4 : am_at 290 4 = some (.iconst (0), 1, []) := by decide +kernel
theorem r290_5 : am_at 290 5 = some (.istore_n 3, 1, [3]) := by decide +kernel
theorem r290_6 : am_at 290 6 = some (.iload_n 3, 1, [3]) := by decide +kernel
theorem r290_7 : am_at 290 7 = some (.bipush (18), 2, []) := by decide +kernel
theorem r290_9 : am_at 290 9 = some (.if_icmp .ge (22), 3, [31]) := by decide +kernel
theorem r290_12 : am_at 290 12 = some (.ldc2_w 11, 3, [1, 455, 31]) := by decide +kernel
theorem r290_15 : am_at 290 15 = some (.lload_n 1, 1, [1]) := by decide +kernel
theorem r290_16 : am_at 290 16 = some (.lmul, 1, []) := by decide +kernel
theorem r290_17 : am_at 290 17 = some (.aload_n 0, 1, [0]) := by decide +kernel
theorem r290_18 : am_at 290 18 = some (.iload_n 3, 1, [3]) := by decide +kernel
theorem r290_19 : am_at 290 19 = some (.invokevirtual 13, 3, [22, 2, 385, 0]) := by decide +kernel
theorem r290_22 : am_at 290 22 = some (.i2l, 1, []) := by decide +kernel
theorem r290_23 : am_at 290 23 = some (.ladd, 1, []) := by decide +kernel
theorem r290_24 : am_at 290 24 = some (.lstore_n 1, 1, [1]) := by decide +kernel
theorem r290_25 : am_at 290 25 = some (.iinc 3 (1), 3, [3]) := by decide +kernel
theorem r290_28 : am_at 290 28 = some (.goto (-22), 3, [6]) := by decide +kernel
theorem r290_31 : am_at 290 31 = some (.iconst (0), 1, []) := by decide +kernel
theorem r290_32 : am_at 290 32 = some (.istore_n 3, 1, [3]) := by decide +kernel
theorem r290_33 : am_at 290 33 = some (.iload_n 3, 1, [3]) := by decide +kernel
theorem r290_34 : am_at 290 34 = some (.bipush (28), 2, []) := by decide +kernel
theorem r290_36 : am_at 290 36 = some (.if_icmp .ge (59), 3, [95]) := by decide +kernel
theorem r290_39 : am_at 290 39 = some (.ldc2_w 11, 3, [1, 455, 31]) := by decide +kernel
theorem r290_42 : am_at 290 42 = some (.ldc2_w 11, 3, [1, 455, 31]) := by decide +kernel
theorem r290_45 : am_at 290 45 = some (.ldc2_w 11, 3, [1, 455, 31]) := by decide +kernel
theorem r290_48 : am_at 290 48 = some (.ldc2_w 11, 3, [1, 455, 31]) := by decide +kernel
theorem r290_51 : am_at 290 51 = some (.lload_n 1, 1, [1]) := by decide +kernel
theorem r290_52 : am_at 290 52 = some (.lmul, 1, []) := by decide +kernel
theorem r290_53 : am_at 290 53 = some (.aload_n 0, 1, [0]) := by decide +kernel
theorem r290_54 : am_at 290 54 = some (.iload_n 3, 1, [3]) := by decide +kernel
theorem r290_55 : am_at 290 55 = some (.iconst (3), 1, []) := by decide +kernel
theorem r290_56 : am_at 290 56 = some (.invokevirtual 19, 3, [18, 3, 456, 0]) := by decide +kernel
theorem r290_59 : am_at 290 59 = some (.i2l, 1, []) := by decide +kernel
theorem r290_60 : am_at 290 60 = some (.ladd, 1, []) := by decide +kernel
theorem r290_61 : am_at 290 61 = some (.lmul, 1, []) := by decide +kernel
theorem r290_62 : am_at 290 62 = some (.aload_n 0, 1, [0]) := by decide +kernel
theorem r290_63 : am_at 290 63 = some (.iload_n 3, 1, [3]) := by decide +kernel
theorem r290_64 : am_at 290 64 = some (.iconst (4), 1, []) := by decide +kernel
theorem r290_65 : am_at 290 65 = some (.invokevirtual 19, 3, [18, 3, 456, 0]) := by decide +kernel
theorem r290_68 : am_at 290 68 = some (.i2l, 1, []) := by decide +kernel
theorem r290_69 : am_at 290 69 = some (.ladd, 1, []) := by decide +kernel
theorem r290_70 : am_at 290 70 = some (.lmul, 1, []) := by decide +kernel
theorem r290_71 : am_at 290 71 = some (.aload_n 0, 1, [0]) := by decide +kernel
theorem r290_72 : am_at 290 72 = some (.iload_n 3, 1, [3]) := by decide +kernel
theorem r290_73 : am_at 290 73 = some (.iconst (5), 1, []) := by decide +kernel
theorem r290_74 : am_at 290 74 = some (.invokevirtual 19, 3, [18, 3, 456, 0]) := by decide +kernel
theorem r290_77 : am_at 290 77 = some (.i2l, 1, []) := by decide +kernel
theorem r290_78 : am_at 290 78 = some (.ladd, 1, []) := by decide +kernel
theorem r290_79 : am_at 290 79 = some (.lmul, 1, []) := by decide +kernel
theorem r290_80 : am_at 290 80 = some (.aload_n 0, 1, [0]) := by decide +kernel
theorem r290_81 : am_at 290 81 = some (.iload_n 3, 1, [3]) := by decide +kernel
theorem r290_82 : am_at 290 82 = some (.iconst (1), 1, []) := by decide +kernel
theorem r290_83 : am_at 290 83 = some (.invokevirtual 23, 3, [20, 3, 501, 0]) := by decide +kernel
theorem r290_86 : am_at 290 86 = some (.i2l, 1, []) := by decide +kernel
theorem r290_87 : am_at 290 87 = some (.ladd, 1, []) := by decide +kernel
theorem r290_88 : am_at 290 88 = some (.lstore_n 1, 1, [1]) := by decide +kernel
theorem r290_89 : am_at 290 89 = some (.iinc 3 (1), 3, [3]) := by decide +kernel
theorem r290_92 : am_at 290 92 = some (.goto (-59), 3, [33]) := by decide +kernel
theorem r290_95 : am_at 290 95 = some (.iconst (0), 1, []) := by decide +kernel
theorem r290_96 : am_at 290 96 = some (.istore_n 3, 1, [3]) := by decide +kernel
theorem r290_97 : am_at 290 97 = some (.iload_n 3, 1, [3]) := by decide +kernel
theorem r290_98 : am_at 290 98 = some (.bipush (20), 2, []) := by decide +kernel
theorem r290_100 : am_at 290 100 = some (.if_icmp .ge (29), 3, [129]) := by decide +kernel
theorem r290_103 : am_at 290 103 = some (.ldc2_w 11, 3, [1, 455, 31]) := by decide +kernel
theorem r290_106 : am_at 290 106 = some (.lload_n 1, 1, [1]) := by decide +kernel
theorem r290_107 : am_at 290 107 = some (.lmul, 1, []) := by decide +kernel
theorem r290_108 : am_at 290 108 = some (.aload_n 0, 1, [0]) := by decide +kernel
theorem r290_109 : am_at 290 109 = some (.iload_n 3, 1, [3]) := by decide +kernel
theorem r290_110 : am_at 290 110 = some (.iconst (5), 1, []) := by decide +kernel
theorem r290_111 : am_at 290 111 = some (.idiv, 1, []) := by decide +kernel
theorem r290_112 : am_at 290 112 = some (.iconst (1), 1, []) := by decide +kernel
theorem r290_113 : am_at 290 113 = some (.iload_n 3, 1, [3]) := by decide +kernel
theorem r290_114 : am_at 290 114 = some (.iconst (5), 1, []) := by decide +kernel
theorem r290_115 : am_at 290 115 = some (.irem, 1, []) := by decide +kernel
theorem r290_116 : am_at 290 116 = some (.iadd, 1, []) := by decide +kernel
theorem r290_117 : am_at 290 117 = some (.invokevirtual 26, 3, [21, 3, 512, 0]) := by decide +kernel
theorem r290_120 : am_at 290 120 = some (.i2l, 1, []) := by decide +kernel
theorem r290_121 : am_at 290 121 = some (.ladd, 1, []) := by decide +kernel
theorem r290_122 : am_at 290 122 = some (.lstore_n 1, 1, [1]) := by decide +kernel
theorem r290_123 : am_at 290 123 = some (.iinc 3 (1), 3, [3]) := by decide +kernel
theorem r290_126 : am_at 290 126 = some (.goto (-29), 3, [97]) := by decide +kernel
theorem r290_129 : am_at 290 129 = some (.lload_n 1, 1, [1]) := by decide +kernel
theorem r290_130 : am_at 290 130 = some (.lreturn, 1, []) := by decide +kernel
theorem rt290 : am_rtt 290 = some (some .long) := by decide +kernel
set_option maxRecDepth 100000 in
theorem pg290 : am_pg[290]? = some am_m290 := rfl
theorem m290_L6_w {d : Nat} {N : Nat} {D : am_D} {mc ms : Nat} {Q : am_O → am_AH → Prop} (hd : 16 ≤ d) : ∀ (n : Nat) (v1 : Int64) (v3 : Int32) {q : Int64} (h : m290_L6 N D  n v1 v3 = some q) (k0 : am_X xs L 290 d mc ms 31 [.ref 0, .long q, am_dead, am_dead] [] (am_mk D) 0 0 Q), am_X xs L 290 d mc ms 6 [.ref 0, .long v1, am_dead, .int v3] [] (am_mk D) 0 0 Q := by
  intro n
  induction n with
  | zero =>
    intro v1 v3 q h k0
    exact (nomatch (show none = some q from h))
  | succ n ih =>
    intro v1 v3 q h k0
    rw [m290_L6] at h
    refine x_ld (v := .int v3) r290_6 rfl rfl rfl ?_
    refine x_bi (v := 18) r290_7 rfl rfl ?_
    rcases am_ifE h with ⟨c3, h⟩ | ⟨c3, h⟩
    · refine x_icgeT r290_9 c3 ?_
      refine x_forget (lc0 := [.ref 0, .long v1, am_dead, am_dead]) ⟨Or.inl rfl, Or.inl rfl, Or.inl rfl, Or.inr ⟨rfl, rfl⟩, trivial⟩ ?_
      cases h
      exact k0
    · refine x_icgeF r290_9 c3 rfl ?_
      refine x_sp r290_12 rfl rfl rfl rfl rfl rfl trivial rfl ?_
      refine x_ld (v := .long v1) r290_15 rfl rfl rfl ?_
      refine x_ar r290_16 rfl trivial rfl ?_
      refine x_ld (v := .ref 0) r290_17 rfl rfl rfl ?_
      refine x_ld (v := .int v3) r290_18 rfl rfl rfl ?_
      obtain ⟨q4, h5, h⟩ := Option.bind_eq_some_iff.mp h
      obtain ⟨x6, h7, h⟩ := Option.bind_eq_some_iff.mp h
      refine x_call1 (as := [.ref 0, .int v3]) (rest := [.long ((Int64.ofNat 31) * v1)]) r290_19 rfl rfl rfl (by decide) (Nat.le_of_ble_eq_true rfl) (m22_okv h5 h7) (Nat.le_trans (by decide) hd) (Nat.zero_le _) (Nat.zero_le _) rfl ?_
      refine x_ar r290_22 rfl trivial rfl ?_
      refine x_ar r290_23 rfl trivial rfl ?_
      obtain ⟨x8, e9, h⟩ := am_ltE h
      refine am_topJ e9 ?_
      refine x_sto (lc' := [.ref 0, .long x8, am_dead, .int v3]) r290_24 rfl rfl rfl rfl ?_
      obtain ⟨x10, e11, h⟩ := am_ltE h
      refine x_sto (lc' := [.ref 0, .long x8, am_dead, .int x10]) r290_25 rfl rfl (by subst e11; rfl) rfl ?_
      refine x_goto r290_28 ?_
      exact x_forget (lc0 := [.ref 0, .long x8, am_dead, .int x10]) ⟨Or.inl rfl, Or.inl rfl, Or.inl rfl, Or.inl rfl, trivial⟩ (ih x8 x10 h k0)
theorem m290_L33_w {d : Nat} {N : Nat} {D : am_D} {mc ms : Nat} {Q : am_O → am_AH → Prop} (hd : 16 ≤ d) : ∀ (n : Nat) (v1 : Int64) (v3 : Int32) {q : Int64} (h : m290_L33 N D  n v1 v3 = some q) (k0 : am_X xs L 290 d mc ms 95 [.ref 0, .long q, am_dead, am_dead] [] (am_mk D) 0 0 Q), am_X xs L 290 d mc ms 33 [.ref 0, .long v1, am_dead, .int v3] [] (am_mk D) 0 0 Q := by
  intro n
  induction n with
  | zero =>
    intro v1 v3 q h k0
    exact (nomatch (show none = some q from h))
  | succ n ih =>
    intro v1 v3 q h k0
    rw [m290_L33] at h
    refine x_ld (v := .int v3) r290_33 rfl rfl rfl ?_
    refine x_bi (v := 28) r290_34 rfl rfl ?_
    rcases am_ifE h with ⟨c14, h⟩ | ⟨c14, h⟩
    · refine x_icgeT r290_36 c14 ?_
      refine x_forget (lc0 := [.ref 0, .long v1, am_dead, am_dead]) ⟨Or.inl rfl, Or.inl rfl, Or.inl rfl, Or.inr ⟨rfl, rfl⟩, trivial⟩ ?_
      cases h
      exact k0
    · refine x_icgeF r290_36 c14 rfl ?_
      refine x_sp r290_39 rfl rfl rfl rfl rfl rfl trivial rfl ?_
      refine x_sp r290_42 rfl rfl rfl rfl rfl rfl trivial rfl ?_
      refine x_sp r290_45 rfl rfl rfl rfl rfl rfl trivial rfl ?_
      refine x_sp r290_48 rfl rfl rfl rfl rfl rfl trivial rfl ?_
      refine x_ld (v := .long v1) r290_51 rfl rfl rfl ?_
      refine x_ar r290_52 rfl trivial rfl ?_
      refine x_ld (v := .ref 0) r290_53 rfl rfl rfl ?_
      refine x_ld (v := .int v3) r290_54 rfl rfl rfl ?_
      refine x_ic (v := 3) r290_55 rfl rfl ?_
      obtain ⟨q15, h16, h⟩ := Option.bind_eq_some_iff.mp h
      obtain ⟨x17, h18, h⟩ := Option.bind_eq_some_iff.mp h
      refine x_call1 (as := [.ref 0, .int v3, .int (3 : Int32)]) (rest := [.long ((Int64.ofNat 31) * v1), .long (Int64.ofNat 31), .long (Int64.ofNat 31), .long (Int64.ofNat 31)]) r290_56 rfl rfl rfl (by decide) (Nat.le_of_ble_eq_true rfl) (m18_okv h16 h18) (Nat.le_trans (by decide) hd) (Nat.zero_le _) (Nat.zero_le _) rfl ?_
      refine x_ar r290_59 rfl trivial rfl ?_
      refine x_ar r290_60 rfl trivial rfl ?_
      refine x_ar r290_61 rfl trivial rfl ?_
      refine x_ld (v := .ref 0) r290_62 rfl rfl rfl ?_
      refine x_ld (v := .int v3) r290_63 rfl rfl rfl ?_
      refine x_ic (v := 4) r290_64 rfl rfl ?_
      obtain ⟨q19, h20, h⟩ := Option.bind_eq_some_iff.mp h
      obtain ⟨x21, h22, h⟩ := Option.bind_eq_some_iff.mp h
      refine x_call1 (as := [.ref 0, .int v3, .int (4 : Int32)]) (rest := [.long ((Int64.ofNat 31) * (((Int64.ofNat 31) * v1) + ((x17).toInt64))), .long (Int64.ofNat 31), .long (Int64.ofNat 31)]) r290_65 rfl rfl rfl (by decide) (Nat.le_of_ble_eq_true rfl) (m18_okv h20 h22) (Nat.le_trans (by decide) hd) (Nat.zero_le _) (Nat.zero_le _) rfl ?_
      refine x_ar r290_68 rfl trivial rfl ?_
      refine x_ar r290_69 rfl trivial rfl ?_
      refine x_ar r290_70 rfl trivial rfl ?_
      refine x_ld (v := .ref 0) r290_71 rfl rfl rfl ?_
      refine x_ld (v := .int v3) r290_72 rfl rfl rfl ?_
      refine x_ic (v := 5) r290_73 rfl rfl ?_
      obtain ⟨q23, h24, h⟩ := Option.bind_eq_some_iff.mp h
      obtain ⟨x25, h26, h⟩ := Option.bind_eq_some_iff.mp h
      refine x_call1 (as := [.ref 0, .int v3, .int (5 : Int32)]) (rest := [.long ((Int64.ofNat 31) * (((Int64.ofNat 31) * (((Int64.ofNat 31) * v1) + ((x17).toInt64))) + ((x21).toInt64))), .long (Int64.ofNat 31)]) r290_74 rfl rfl rfl (by decide) (Nat.le_of_ble_eq_true rfl) (m18_okv h24 h26) (Nat.le_trans (by decide) hd) (Nat.zero_le _) (Nat.zero_le _) rfl ?_
      refine x_ar r290_77 rfl trivial rfl ?_
      refine x_ar r290_78 rfl trivial rfl ?_
      refine x_ar r290_79 rfl trivial rfl ?_
      refine x_ld (v := .ref 0) r290_80 rfl rfl rfl ?_
      refine x_ld (v := .int v3) r290_81 rfl rfl rfl ?_
      refine x_ic (v := 1) r290_82 rfl rfl ?_
      obtain ⟨q27, h28, h⟩ := am_ltE h
      replace h28 := h28.symm
      obtain ⟨x29, h30, h⟩ := Option.bind_eq_some_iff.mp h
      refine x_call1 (as := [.ref 0, .int v3, .int (1 : Int32)]) (rest := [.long ((Int64.ofNat 31) * (((Int64.ofNat 31) * (((Int64.ofNat 31) * (((Int64.ofNat 31) * v1) + ((x17).toInt64))) + ((x21).toInt64))) + ((x25).toInt64)))]) r290_83 rfl rfl rfl (by decide) (Nat.le_of_ble_eq_true rfl) (m20_okv h28 h30) (Nat.le_trans (by decide) hd) (Nat.zero_le _) (Nat.zero_le _) rfl ?_
      refine x_ar r290_86 rfl trivial rfl ?_
      refine x_ar r290_87 rfl trivial rfl ?_
      obtain ⟨x31, e32, h⟩ := am_ltE h
      refine am_topJ e32 ?_
      refine x_sto (lc' := [.ref 0, .long x31, am_dead, .int v3]) r290_88 rfl rfl rfl rfl ?_
      obtain ⟨x33, e34, h⟩ := am_ltE h
      refine x_sto (lc' := [.ref 0, .long x31, am_dead, .int x33]) r290_89 rfl rfl (by subst e34; rfl) rfl ?_
      refine x_goto r290_92 ?_
      exact x_forget (lc0 := [.ref 0, .long x31, am_dead, .int x33]) ⟨Or.inl rfl, Or.inl rfl, Or.inl rfl, Or.inl rfl, trivial⟩ (ih x31 x33 h k0)
theorem m290_L97_w {d : Nat} {N : Nat} {mc ms : Nat} {Q : am_O → am_AH → Prop} (hd : 16 ≤ d) : ∀ (n : Nat) (D : am_D) (v1 : Int64) (v3 : Int32) {q : Int64 × am_D} (h : m290_L97 N  n D v1 v3 = some q) (k0 : am_X xs L 290 d mc ms 129 [.ref 0, .long q.1, am_dead, am_dead] [] (am_mk q.2) 0 0 Q), am_X xs L 290 d mc ms 97 [.ref 0, .long v1, am_dead, .int v3] [] (am_mk D) 0 0 Q := by
  intro n
  induction n with
  | zero =>
    intro D v1 v3 q h k0
    exact (nomatch (show none = some q from h))
  | succ n ih =>
    intro D v1 v3 q h k0
    rw [m290_L97] at h
    refine x_ld (v := .int v3) r290_97 rfl rfl rfl ?_
    refine x_bi (v := 20) r290_98 rfl rfl ?_
    rcases am_ifE h with ⟨c37, h⟩ | ⟨c37, h⟩
    · refine x_icgeT r290_100 c37 ?_
      refine x_forget (lc0 := [.ref 0, .long v1, am_dead, am_dead]) ⟨Or.inl rfl, Or.inl rfl, Or.inl rfl, Or.inr ⟨rfl, rfl⟩, trivial⟩ ?_
      cases h
      exact k0
    · refine x_icgeF r290_100 c37 rfl ?_
      refine x_sp r290_103 rfl rfl rfl rfl rfl rfl trivial rfl ?_
      refine x_ld (v := .long v1) r290_106 rfl rfl rfl ?_
      refine x_ar r290_107 rfl trivial rfl ?_
      refine x_ld (v := .ref 0) r290_108 rfl rfl rfl ?_
      refine x_ld (v := .int v3) r290_109 rfl rfl rfl ?_
      refine x_ic (v := 5) r290_110 rfl rfl ?_
      refine x_ar r290_111 rfl (by decide) rfl ?_
      refine x_ic (v := 1) r290_112 rfl rfl ?_
      refine x_ld (v := .int v3) r290_113 rfl rfl rfl ?_
      refine x_ic (v := 5) r290_114 rfl rfl ?_
      refine x_ar r290_115 rfl (by decide) rfl ?_
      refine x_ar r290_116 rfl trivial rfl ?_
      obtain ⟨q38, h39, h⟩ := Option.bind_eq_some_iff.mp h
      obtain ⟨x40, h41, h⟩ := Option.bind_eq_some_iff.mp h
      refine x_call1 (as := [.ref 0, .int (v3 / (5 : Int32)), .int ((1 : Int32) + (v3 - v3 / (5 : Int32) * (5 : Int32)))]) (rest := [.long ((Int64.ofNat 31) * v1)]) r290_117 rfl rfl rfl (by decide) (Nat.le_of_ble_eq_true rfl) (m21_okv h39 h41) (Nat.le_trans (by decide) hd) (Nat.zero_le _) (Nat.zero_le _) rfl ?_
      refine x_ar r290_120 rfl trivial rfl ?_
      refine x_ar r290_121 rfl trivial rfl ?_
      obtain ⟨x42, e43, h⟩ := am_ltE h
      refine am_topJ e43 ?_
      refine x_sto (lc' := [.ref 0, .long x42, am_dead, .int v3]) r290_122 rfl rfl rfl rfl ?_
      obtain ⟨x44, e45, h⟩ := am_ltE h
      refine x_sto (lc' := [.ref 0, .long x42, am_dead, .int x44]) r290_123 rfl rfl (by subst e45; rfl) rfl ?_
      refine x_goto r290_126 ?_
      exact x_forget (lc0 := [.ref 0, .long x42, am_dead, .int x44]) ⟨Or.inl rfl, Or.inl rfl, Or.inl rfl, Or.inl rfl, trivial⟩ (ih q38.2 x42 x44 h k0)
theorem m290_w {d mc ms : Nat} {N : Nat} {D : am_D} {Q : am_O → am_AH → Prop} (hd : 16 ≤ d) {r : Int64 × am_D} (h : m290 N D = some r) (hQ : Q (.inl (some (.long r.1))) (am_mk r.2)) : am_X xs L 290 d mc ms 0 [.ref 0, am_dead, am_dead, am_dead] [] (am_mk D) 0 0 Q := by
  unfold m290 at h
  refine x_sp r290_0 rfl rfl rfl rfl rfl rfl trivial rfl ?_
  obtain ⟨x1, e2, h⟩ := am_ltE h
  refine am_topJ e2 ?_
  refine x_sto (lc' := [.ref 0, .long x1, am_dead, am_dead]) r290_3 rfl rfl rfl rfl ?_
  refine x_ic (v := 0) r290_4 rfl rfl ?_
  refine x_sto (lc' := [.ref 0, .long x1, am_dead, .int (0 : Int32)]) r290_5 rfl rfl rfl rfl ?_
  obtain ⟨q12, h13, h⟩ := Option.bind_eq_some_iff.mp h
  refine x_forget (lc0 := [.ref 0, .long x1, am_dead, .int (0 : Int32)]) ⟨Or.inl rfl, Or.inl rfl, Or.inl rfl, Or.inl rfl, trivial⟩ (m290_L6_w hd N x1 (0 : Int32) h13 ?_)
  refine x_ic (v := 0) r290_31 rfl rfl ?_
  refine x_sto (lc' := [.ref 0, .long q12, am_dead, .int (0 : Int32)]) r290_32 rfl rfl rfl rfl ?_
  obtain ⟨q35, h36, h⟩ := Option.bind_eq_some_iff.mp h
  refine x_forget (lc0 := [.ref 0, .long q12, am_dead, .int (0 : Int32)]) ⟨Or.inl rfl, Or.inl rfl, Or.inl rfl, Or.inl rfl, trivial⟩ (m290_L33_w hd N q12 (0 : Int32) h36 ?_)
  refine x_ic (v := 0) r290_95 rfl rfl ?_
  refine x_sto (lc' := [.ref 0, .long q35, am_dead, .int (0 : Int32)]) r290_96 rfl rfl rfl rfl ?_
  obtain ⟨q46, h47, h⟩ := Option.bind_eq_some_iff.mp h
  refine x_forget (lc0 := [.ref 0, .long q35, am_dead, .int (0 : Int32)]) ⟨Or.inl rfl, Or.inl rfl, Or.inl rfl, Or.inl rfl, trivial⟩ (m290_L97_w hd N D q35 (0 : Int32) h47 ?_)
  refine x_ld (v := .long q46.1) r290_129 rfl rfl rfl ?_
  cases h
  exact x_ret (ret := some .long) (C := True) (v := some (.long _)) r290_130 rt290 rfl rfl rfl rfl rfl rfl rfl rfl trivial hQ
theorem m290_ok {N : Nat} {D : am_D} {r : Int64 × am_D} (h : m290 N D = some r) : am_Y xs L 290 16 0 0 [.ref 0] D (.inl (some (.long r.1))) r.2 := am_Yof (mi := am_m290) (lc := [.ref 0, am_dead, am_dead, am_dead]) pg290 (Nat.le_of_ble_eq_true rfl) (am_rc0 rfl) rfl (fun Q hQ => m290_w (Nat.le_refl _) h hQ)
theorem r176_0 : am_at 176 0 = some (.aload_n 0, 1, [0]) := by decide +kernel
theorem r176_1 : am_at 176 1 = some (.getfield 9, 3, [2, 0, 3, 219]) := by decide +kernel
theorem r176_4 : am_at 176 4 = some (.iload 4, 2, [4]) := by decide +kernel
theorem r176_6 : am_at 176 6 = some (.invokestatic 94, 3, [180, 2, 820, 0]) := by decide +kernel
theorem r176_9 : am_at 176 9 = some (.istore 6, 2, [6]) := by decide +kernel
theorem r176_11 : am_at 176 11 = some (.iload 6, 2, [6]) := by decide +kernel
theorem r176_13 : am_at 176 13 = some (.invokestatic 104, 3, [251, 1, 831, 0]) := by decide +kernel
theorem r176_16 : am_at 176 16 = some (.aload_n 0, 1, [0]) := by decide +kernel
theorem r176_17 : am_at 176 17 = some (.getfield 18, 3, [2, 2, 3, 221]) := by decide +kernel
theorem r176_20 : am_at 176 20 = some (.iconst (2), 1, []) := by decide +kernel
theorem r176_21 : am_at 176 21 = some (.iload_n 1, 1, [1]) := by decide +kernel
theorem r176_22 : am_at 176 22 = some (.imul, 1, []) := by decide +kernel
theorem r176_23 : am_at 176 23 = some (.iload 5, 2, [5]) := by decide +kernel
theorem r176_25 : am_at 176 25 = some (.iadd, 1, []) := by decide +kernel
theorem r176_26 : am_at 176 26 = some (.invokestatic 94, 3, [180, 2, 820, 0]) := by decide +kernel
theorem r176_29 : am_at 176 29 = some (.isub, 1, []) := by decide +kernel
theorem r176_30 : am_at 176 30 = some (.istore 7, 2, [7]) := by decide +kernel
theorem r176_32 : am_at 176 32 = some (.iconst (2), 1, []) := by decide +kernel
theorem r176_33 : am_at 176 33 = some (.iload_n 1, 1, [1]) := by decide +kernel
theorem r176_34 : am_at 176 34 = some (.imul, 1, []) := by decide +kernel
theorem r176_35 : am_at 176 35 = some (.iconst (1), 1, []) := by decide +kernel
theorem r176_36 : am_at 176 36 = some (.iadd, 1, []) := by decide +kernel
theorem r176_37 : am_at 176 37 = some (.iload 5, 2, [5]) := by decide +kernel
theorem r176_39 : am_at 176 39 = some (.isub, 1, []) := by decide +kernel
theorem r176_40 : am_at 176 40 = some (.istore 8, 2, [8]) := by decide +kernel
theorem r176_42 : am_at 176 42 = some (.iload 6, 2, [6]) := by decide +kernel
theorem r176_44 : am_at 176 44 = some (.iload 7, 2, [7]) := by decide +kernel
theorem r176_46 : am_at 176 46 = some (.invokestatic 107, 3, [255, 2, 837, 0]) := by decide +kernel
theorem r176_49 : am_at 176 49 = some (.istore 9, 2, [9]) := by decide +kernel
theorem r176_51 : am_at 176 51 = some (.iconst (2), 1, []) := by decide +kernel
theorem r176_52 : am_at 176 52 = some (.iload_n 1, 1, [1]) := by decide +kernel
theorem r176_53 : am_at 176 53 = some (.iconst (1), 1, []) := by decide +kernel
theorem r176_54 : am_at 176 54 = some (.iadd, 1, []) := by decide +kernel
theorem r176_55 : am_at 176 55 = some (.imul, 1, []) := by decide +kernel
theorem r176_56 : am_at 176 56 = some (.istore 10, 2, [10]) := by decide +kernel
theorem r176_58 : am_at 176 58 = some (.aload_n 0, 1, [0]) := by decide +kernel
theorem r176_59 : am_at 176 59 = some (.getfield 18, 3, [2, 2, 3, 221]) := by decide +kernel
theorem r176_62 : am_at 176 62 = some (.iload 10, 2, [10]) := by decide +kernel
theorem r176_64 : am_at 176 64 = some (.iload 5, 2, [5]) := by decide +kernel
theorem r176_66 : am_at 176 66 = some (.iadd, 1, []) := by decide +kernel
theorem r176_67 : am_at 176 67 = some (.iload 7, 2, [7]) := by decide +kernel
theorem r176_69 : am_at 176 69 = some (.invokestatic 34, 3, [181, 3, 805, 0]) := by decide +kernel
theorem r176_72 : am_at 176 72 = some (.aload_n 0, 1, [0]) := by decide +kernel
theorem r176_73 : am_at 176 73 = some (.getfield 21, 3, [2, 3, 3, 222]) := by decide +kernel
theorem r176_76 : am_at 176 76 = some (.iload 10, 2, [10]) := by decide +kernel
theorem r176_78 : am_at 176 78 = some (.iload 5, 2, [5]) := by decide +kernel
theorem r176_80 : am_at 176 80 = some (.iadd, 1, []) := by decide +kernel
theorem r176_81 : am_at 176 81 = some (.iload 9, 2, [9]) := by decide +kernel
theorem r176_83 : am_at 176 83 = some (.invokestatic 34, 3, [181, 3, 805, 0]) := by decide +kernel
theorem r176_86 : am_at 176 86 = some (.aload_n 0, 1, [0]) := by decide +kernel
theorem r176_87 : am_at 176 87 = some (.getfield 18, 3, [2, 2, 3, 221]) := by decide +kernel
theorem r176_90 : am_at 176 90 = some (.iload 10, 2, [10]) := by decide +kernel
theorem r176_92 : am_at 176 92 = some (.iconst (1), 1, []) := by decide +kernel
theorem r176_93 : am_at 176 93 = some (.iadd, 1, []) := by decide +kernel
theorem r176_94 : am_at 176 94 = some (.iload 5, 2, [5]) := by decide +kernel
theorem r176_96 : am_at 176 96 = some (.isub, 1, []) := by decide +kernel
theorem r176_97 : am_at 176 97 = some (.aload_n 0, 1, [0]) := by decide +kernel
theorem r176_98 : am_at 176 98 = some (.getfield 18, 3, [2, 2, 3, 221]) := by decide +kernel
theorem r176_101 : am_at 176 101 = some (.iload 8, 2, [8]) := by decide +kernel
theorem r176_103 : am_at 176 103 = some (.invokestatic 94, 3, [180, 2, 820, 0]) := by decide +kernel
theorem r176_106 : am_at 176 106 = some (.invokestatic 34, 3, [181, 3, 805, 0]) := by decide +kernel
theorem r176_109 : am_at 176 109 = some (.aload_n 0, 1, [0]) := by decide +kernel
theorem r176_110 : am_at 176 110 = some (.getfield 21, 3, [2, 3, 3, 222]) := by decide +kernel
theorem r176_113 : am_at 176 113 = some (.iload 10, 2, [10]) := by decide +kernel
theorem r176_115 : am_at 176 115 = some (.iconst (1), 1, []) := by decide +kernel
theorem r176_116 : am_at 176 116 = some (.iadd, 1, []) := by decide +kernel
theorem r176_117 : am_at 176 117 = some (.iload 5, 2, [5]) := by decide +kernel
theorem r176_119 : am_at 176 119 = some (.isub, 1, []) := by decide +kernel
theorem r176_120 : am_at 176 120 = some (.aload_n 0, 1, [0]) := by decide +kernel
theorem r176_121 : am_at 176 121 = some (.getfield 21, 3, [2, 3, 3, 222]) := by decide +kernel
theorem r176_124 : am_at 176 124 = some (.iload 8, 2, [8]) := by decide +kernel
theorem r176_126 : am_at 176 126 = some (.invokestatic 94, 3, [180, 2, 820, 0]) := by decide +kernel
theorem r176_129 : am_at 176 129 = some (.invokestatic 34, 3, [181, 3, 805, 0]) := by decide +kernel
theorem r176_132 : am_at 176 132 = some (.iload 9, 2, [9]) := by decide +kernel
theorem r176_134 : am_at 176 134 = some (.aload_n 0, 1, [0]) := by decide +kernel
theorem r176_135 : am_at 176 135 = some (.getfield 21, 3, [2, 3, 3, 222]) := by decide +kernel
theorem r176_138 : am_at 176 138 = some (.iload 8, 2, [8]) := by decide +kernel
theorem r176_140 : am_at 176 140 = some (.invokestatic 94, 3, [180, 2, 820, 0]) := by decide +kernel
theorem r176_143 : am_at 176 143 = some (.iadd, 1, []) := by decide +kernel
theorem r176_144 : am_at 176 144 = some (.invokestatic 111, 3, [256, 1, 838, 0]) := by decide +kernel
theorem r176_147 : am_at 176 147 = some (.istore 11, 2, [11]) := by decide +kernel
theorem r176_149 : am_at 176 149 = some (.iload_n 3, 1, [3]) := by decide +kernel
theorem r176_150 : am_at 176 150 = some (.iconst (1), 1, []) := by decide +kernel
theorem r176_151 : am_at 176 151 = some (.iload 4, 2, [4]) := by decide +kernel
theorem r176_153 : am_at 176 153 = some (.ishl, 1, []) := by decide +kernel
theorem r176_154 : am_at 176 154 = some (.iconst (-1), 1, []) := by decide +kernel
theorem r176_155 : am_at 176 155 = some (.ixor, 1, []) := by decide +kernel
theorem r176_156 : am_at 176 156 = some (.iand, 1, []) := by decide +kernel
theorem r176_157 : am_at 176 157 = some (.istore 12, 2, [12]) := by decide +kernel
theorem r176_159 : am_at 176 159 = some (.iload_n 2, 1, [2]) := by decide +kernel
theorem r176_160 : am_at 176 160 = some (.invokestatic 68, 3, [187, 1, 832, 0]) := by decide +kernel
theorem r176_163 : am_at 176 163 = some (.ifCond .ne (7), 3, [170]) := by decide +kernel
theorem r176_166 : am_at 176 166 = some (.iconst (1), 1, []) := by decide +kernel
theorem r176_167 : am_at 176 167 = some (.goto (4), 3, [171]) := by decide +kernel
theorem r176_170 : am_at 176 170 = some (.iconst (-1), 1, []) := by decide +kernel
theorem r176_171 : am_at 176 171 = some (.istore 13, 2, [13]) := by decide +kernel
theorem r176_173 : am_at 176 173 = some (.aload_n 0, 1, [0]) := by decide +kernel
theorem r176_174 : am_at 176 174 = some (.iload_n 2, 1, [2]) := by decide +kernel
theorem r176_175 : am_at 176 175 = some (.iload 12, 2, [12]) := by decide +kernel
theorem r176_177 : am_at 176 177 = some (.invokevirtual 114, 3, [177, 3, 839, 0]) := by decide +kernel
theorem r176_180 : am_at 176 180 = some (.ifCond .ne (27), 3, [207]) := by decide +kernel
theorem r176_183 : am_at 176 183 = some (.iload 13, 2, [13]) := by decide +kernel
theorem r176_185 : am_at 176 185 = some (.iload 11, 2, [11]) := by decide +kernel
theorem r176_187 : am_at 176 187 = some (.aload_n 0, 1, [0]) := by decide +kernel
theorem r176_188 : am_at 176 188 = some (.iconst (0), 1, []) := by decide +kernel
theorem r176_189 : am_at 176 189 = some (.iload 12, 2, [12]) := by decide +kernel
theorem r176_191 : am_at 176 191 = some (.invokevirtual 117, 3, [178, 3, 827, 0]) := by decide +kernel
theorem r176_194 : am_at 176 194 = some (.aload_n 0, 1, [0]) := by decide +kernel
theorem r176_195 : am_at 176 195 = some (.iconst (1), 1, []) := by decide +kernel
theorem r176_196 : am_at 176 196 = some (.iload 12, 2, [12]) := by decide +kernel
theorem r176_198 : am_at 176 198 = some (.invokevirtual 117, 3, [178, 3, 827, 0]) := by decide +kernel
theorem r176_201 : am_at 176 201 = some (.iadd, 1, []) := by decide +kernel
theorem r176_202 : am_at 176 202 = some (.iconst (5), 1, []) := by decide +kernel
theorem r176_203 : am_at 176 203 = some (.idiv, 1, []) := by decide +kernel
theorem r176_204 : am_at 176 204 = some (.iadd, 1, []) := by decide +kernel
theorem r176_205 : am_at 176 205 = some (.imul, 1, []) := by decide +kernel
theorem r176_206 : am_at 176 206 = some (.ireturn, 1, []) := by decide +kernel
theorem r176_207 : am_at 176 207 = some (.iload 13, 2, [13]) := by decide +kernel
theorem r176_209 : am_at 176 209 = some (.iload 11, 2, [11]) := by decide +kernel
theorem r176_211 : am_at 176 211 = some (.imul, 1, []) := by decide +kernel
theorem r176_212 : am_at 176 212 = some (.aload_n 0, 1, [0]) := by decide +kernel
theorem r176_213 : am_at 176 213 = some (.iload_n 1, 1, [1]) := by decide +kernel
theorem r176_214 : am_at 176 214 = some (.iconst (1), 1, []) := by decide +kernel
theorem r176_215 : am_at 176 215 = some (.iadd, 1, []) := by decide +kernel
theorem r176_216 : am_at 176 216 = some (.iload_n 2, 1, [2]) := by decide +kernel
theorem r176_217 : am_at 176 217 = some (.invokestatic 80, 3, [185, 1, 822, 0]) := by decide +kernel
theorem r176_220 : am_at 176 220 = some (.iconst (0), 1, []) := by decide +kernel
theorem r176_221 : am_at 176 221 = some (.iload 12, 2, [12]) := by decide +kernel
theorem r176_223 : am_at 176 223 = some (.invokevirtual 64, 3, [173, 5, 808, 0]) := by decide +kernel
theorem r176_226 : am_at 176 226 = some (.iadd, 1, []) := by decide +kernel
theorem r176_227 : am_at 176 227 = some (.ireturn, 1, []) := by decide +kernel
theorem rt176 : am_rtt 176 = some (some .int) := by decide +kernel
set_option maxRecDepth 100000 in
theorem pg176 : am_pg[176]? = some am_m176 := rfl
theorem m176b_w {d mc ms : Nat} {N : Nat} {D : am_D} {v1 : Int32} {v2 : Int32} {v3 : Int32} {v4 : Int32} {v5 : Int32} {rec : am_D → Int32 → Int32 → Int32 → Int32 → Option (Int32 × am_D)} {dr : Nat} (hrec : ∀ (D : am_D) (v1 v2 v3 v4 : Int32) (r : Int32 × am_D), rec D v1 v2 v3 v4 = some r → am_Y xs L 173 dr 0 0 [.ref 99, .int v1, .int v2, .int v3, .int v4] D (.inl (some (.int r.1))) r.2) (hdr : dr + 1 ≤ d) {Q : am_O → am_AH → Prop} (hd : 3 ≤ d) {r : Int32 × am_D} (h : m176b rec N D v1 v2 v3 v4 v5 = some r) (hQ : Q (.inl (some (.int r.1))) (am_mk r.2)) : am_X xs L 176 d mc ms 0 [.ref 99, .int v1, .int v2, .int v3, .int v4, .int v5, am_dead, am_dead, am_dead, am_dead, am_dead, am_dead, am_dead, am_dead] [] (am_mk D) 0 0 Q := by
  unfold m176b at h
  refine x_ld (v := .ref 99) r176_0 rfl rfl rfl ?_
  refine y_gf (cd := 102) (v := .ref 100) r176_1 rfl rfl rfl ?_
  refine x_ld (v := .int v4) r176_4 rfl rfl rfl ?_
  refine x_call1 (as := [.ref 100, .int v4]) (rest := []) r176_6 rfl rfl rfl (by decide) (Nat.le_of_ble_eq_true rfl) (am_rows_at (n := 9) rfl (by decide)) (Nat.le_trans (by decide) hd) (Nat.zero_le _) (Nat.zero_le _) rfl ?_
  obtain ⟨x1, e2, h⟩ := am_ltE h
  refine am_topI e2 ?_
  refine x_sto (lc' := [.ref 99, .int v1, .int v2, .int v3, .int v4, .int v5, .int x1, am_dead, am_dead, am_dead, am_dead, am_dead, am_dead, am_dead]) r176_9 rfl rfl rfl rfl ?_
  refine x_ld (v := .int x1) r176_11 rfl rfl rfl ?_
  refine x_call1 (as := [.int x1]) (rest := []) r176_13 rfl rfl rfl (by decide) (Nat.le_of_ble_eq_true rfl) (m251_ok rfl) (Nat.le_trans (by decide) hd) (Nat.zero_le _) (Nat.zero_le _) rfl ?_
  refine x_ld (v := .ref 99) r176_16 rfl rfl rfl ?_
  refine y_gf (cd := 104) (v := .ref 102) r176_17 rfl rfl rfl ?_
  refine x_ic (v := 2) r176_20 rfl rfl ?_
  refine x_ld (v := .int v1) r176_21 rfl rfl rfl ?_
  refine x_ar r176_22 rfl trivial rfl ?_
  refine x_ld (v := .int v5) r176_23 rfl rfl rfl ?_
  refine x_ar r176_25 rfl trivial rfl ?_
  refine x_call1 (as := [.ref 102, .int (((2 : Int32) * v1) + v5)]) (rest := [.int (m251 x1)]) r176_26 rfl rfl rfl (by decide) (Nat.le_of_ble_eq_true rfl) (am_rows_at (n := 20) rfl (by decide)) (Nat.le_trans (by decide) hd) (Nat.zero_le _) (Nat.zero_le _) rfl ?_
  refine x_ar r176_29 rfl trivial rfl ?_
  obtain ⟨x3, e4, h⟩ := am_ltE h
  refine am_topI e4 ?_
  refine x_sto (lc' := [.ref 99, .int v1, .int v2, .int v3, .int v4, .int v5, .int x1, .int x3, am_dead, am_dead, am_dead, am_dead, am_dead, am_dead]) r176_30 rfl rfl rfl rfl ?_
  refine x_ic (v := 2) r176_32 rfl rfl ?_
  refine x_ld (v := .int v1) r176_33 rfl rfl rfl ?_
  refine x_ar r176_34 rfl trivial rfl ?_
  refine x_ic (v := 1) r176_35 rfl rfl ?_
  refine x_ar r176_36 rfl trivial rfl ?_
  refine x_ld (v := .int v5) r176_37 rfl rfl rfl ?_
  refine x_ar r176_39 rfl trivial rfl ?_
  obtain ⟨x5, e6, h⟩ := am_ltE h
  refine am_topI e6 ?_
  refine x_sto (lc' := [.ref 99, .int v1, .int v2, .int v3, .int v4, .int v5, .int x1, .int x3, .int x5, am_dead, am_dead, am_dead, am_dead, am_dead]) r176_40 rfl rfl rfl rfl ?_
  refine x_ld (v := .int x1) r176_42 rfl rfl rfl ?_
  refine x_ld (v := .int x3) r176_44 rfl rfl rfl ?_
  refine x_call1 (as := [.int x1, .int x3]) (rest := []) r176_46 rfl rfl rfl (by decide) (Nat.le_of_ble_eq_true rfl) (m255_ok rfl) (Nat.le_trans (by decide) hd) (Nat.zero_le _) (Nat.zero_le _) rfl ?_
  obtain ⟨x7, e8, h⟩ := am_ltE h
  refine am_topI e8 ?_
  refine x_sto (lc' := [.ref 99, .int v1, .int v2, .int v3, .int v4, .int v5, .int x1, .int x3, .int x5, .int x7, am_dead, am_dead, am_dead, am_dead]) r176_49 rfl rfl rfl rfl ?_
  refine x_ic (v := 2) r176_51 rfl rfl ?_
  refine x_ld (v := .int v1) r176_52 rfl rfl rfl ?_
  refine x_ic (v := 1) r176_53 rfl rfl ?_
  refine x_ar r176_54 rfl trivial rfl ?_
  refine x_ar r176_55 rfl trivial rfl ?_
  obtain ⟨x9, e10, h⟩ := am_ltE h
  refine am_topI e10 ?_
  refine x_sto (lc' := [.ref 99, .int v1, .int v2, .int v3, .int v4, .int v5, .int x1, .int x3, .int x5, .int x7, .int x9, am_dead, am_dead, am_dead]) r176_56 rfl rfl rfl rfl ?_
  refine x_ld (v := .ref 99) r176_58 rfl rfl rfl ?_
  refine y_gf (cd := 104) (v := .ref 102) r176_59 rfl rfl rfl ?_
  refine x_ld (v := .int x9) r176_62 rfl rfl rfl ?_
  refine x_ld (v := .int v5) r176_64 rfl rfl rfl ?_
  refine x_ar r176_66 rfl trivial rfl ?_
  refine x_ld (v := .int x3) r176_67 rfl rfl rfl ?_
  obtain ⟨D11, e12, h⟩ := am_ltE h
  refine x_call0 (as := [.ref 102, .int (x9 + v5), .int x3]) (rest := []) r176_69 rfl rfl rfl (by decide) (Nat.le_of_ble_eq_true rfl) (am_rows_put (n := 20) rfl (by decide) e12) (Nat.le_trans (by decide) hd) (Nat.zero_le _) (Nat.zero_le _) rfl ?_
  refine x_ld (v := .ref 99) r176_72 rfl rfl rfl ?_
  refine y_gf (cd := 105) (v := .ref 103) r176_73 rfl rfl rfl ?_
  refine x_ld (v := .int x9) r176_76 rfl rfl rfl ?_
  refine x_ld (v := .int v5) r176_78 rfl rfl rfl ?_
  refine x_ar r176_80 rfl trivial rfl ?_
  refine x_ld (v := .int x7) r176_81 rfl rfl rfl ?_
  obtain ⟨D13, e14, h⟩ := am_ltE h
  refine x_call0 (as := [.ref 103, .int (x9 + v5), .int x7]) (rest := []) r176_83 rfl rfl rfl (by decide) (Nat.le_of_ble_eq_true rfl) (am_rows_put (n := 20) rfl (by decide) e14) (Nat.le_trans (by decide) hd) (Nat.zero_le _) (Nat.zero_le _) rfl ?_
  refine x_ld (v := .ref 99) r176_86 rfl rfl rfl ?_
  refine y_gf (cd := 104) (v := .ref 102) r176_87 rfl rfl rfl ?_
  refine x_ld (v := .int x9) r176_90 rfl rfl rfl ?_
  refine x_ic (v := 1) r176_92 rfl rfl ?_
  refine x_ar r176_93 rfl trivial rfl ?_
  refine x_ld (v := .int v5) r176_94 rfl rfl rfl ?_
  refine x_ar r176_96 rfl trivial rfl ?_
  refine x_ld (v := .ref 99) r176_97 rfl rfl rfl ?_
  refine y_gf (cd := 104) (v := .ref 102) r176_98 rfl rfl rfl ?_
  refine x_ld (v := .int x5) r176_101 rfl rfl rfl ?_
  refine x_call1 (as := [.ref 102, .int x5]) (rest := [.int ((x9 + (1 : Int32)) - v5), .ref 102]) r176_103 rfl rfl rfl (by decide) (Nat.le_of_ble_eq_true rfl) (am_rows_at (n := 20) rfl (by decide)) (Nat.le_trans (by decide) hd) (Nat.zero_le _) (Nat.zero_le _) rfl ?_
  obtain ⟨D15, e16, h⟩ := am_ltE h
  refine x_call0 (as := [.ref 102, .int ((x9 + (1 : Int32)) - v5), .int (am_rat (D13.1 102) 20 x5)]) (rest := []) r176_106 rfl rfl rfl (by decide) (Nat.le_of_ble_eq_true rfl) (am_rows_put (n := 20) rfl (by decide) e16) (Nat.le_trans (by decide) hd) (Nat.zero_le _) (Nat.zero_le _) rfl ?_
  refine x_ld (v := .ref 99) r176_109 rfl rfl rfl ?_
  refine y_gf (cd := 105) (v := .ref 103) r176_110 rfl rfl rfl ?_
  refine x_ld (v := .int x9) r176_113 rfl rfl rfl ?_
  refine x_ic (v := 1) r176_115 rfl rfl ?_
  refine x_ar r176_116 rfl trivial rfl ?_
  refine x_ld (v := .int v5) r176_117 rfl rfl rfl ?_
  refine x_ar r176_119 rfl trivial rfl ?_
  refine x_ld (v := .ref 99) r176_120 rfl rfl rfl ?_
  refine y_gf (cd := 105) (v := .ref 103) r176_121 rfl rfl rfl ?_
  refine x_ld (v := .int x5) r176_124 rfl rfl rfl ?_
  refine x_call1 (as := [.ref 103, .int x5]) (rest := [.int ((x9 + (1 : Int32)) - v5), .ref 103]) r176_126 rfl rfl rfl (by decide) (Nat.le_of_ble_eq_true rfl) (am_rows_at (n := 20) rfl (by decide)) (Nat.le_trans (by decide) hd) (Nat.zero_le _) (Nat.zero_le _) rfl ?_
  obtain ⟨D17, e18, h⟩ := am_ltE h
  refine x_call0 (as := [.ref 103, .int ((x9 + (1 : Int32)) - v5), .int (am_rat (D15.1 103) 20 x5)]) (rest := []) r176_129 rfl rfl rfl (by decide) (Nat.le_of_ble_eq_true rfl) (am_rows_put (n := 20) rfl (by decide) e18) (Nat.le_trans (by decide) hd) (Nat.zero_le _) (Nat.zero_le _) rfl ?_
  refine x_ld (v := .int x7) r176_132 rfl rfl rfl ?_
  refine x_ld (v := .ref 99) r176_134 rfl rfl rfl ?_
  refine y_gf (cd := 105) (v := .ref 103) r176_135 rfl rfl rfl ?_
  refine x_ld (v := .int x5) r176_138 rfl rfl rfl ?_
  refine x_call1 (as := [.ref 103, .int x5]) (rest := [.int x7]) r176_140 rfl rfl rfl (by decide) (Nat.le_of_ble_eq_true rfl) (am_rows_at (n := 20) rfl (by decide)) (Nat.le_trans (by decide) hd) (Nat.zero_le _) (Nat.zero_le _) rfl ?_
  refine x_ar r176_143 rfl trivial rfl ?_
  refine x_call1 (as := [.int (x7 + (am_rat (D17.1 103) 20 x5))]) (rest := []) r176_144 rfl rfl rfl (by decide) (Nat.le_of_ble_eq_true rfl) (m256_ok rfl) (Nat.le_trans (by decide) hd) (Nat.zero_le _) (Nat.zero_le _) rfl ?_
  obtain ⟨x19, e20, h⟩ := am_ltE h
  refine am_topI e20 ?_
  refine x_sto (lc' := [.ref 99, .int v1, .int v2, .int v3, .int v4, .int v5, .int x1, .int x3, .int x5, .int x7, .int x9, .int x19, am_dead, am_dead]) r176_147 rfl rfl rfl rfl ?_
  refine x_ld (v := .int v3) r176_149 rfl rfl rfl ?_
  refine x_ic (v := 1) r176_150 rfl rfl ?_
  refine x_ld (v := .int v4) r176_151 rfl rfl rfl ?_
  refine x_ar r176_153 rfl trivial rfl ?_
  refine x_ic (v := -1) r176_154 rfl rfl ?_
  refine x_ar r176_155 rfl trivial rfl ?_
  refine x_ar r176_156 rfl trivial rfl ?_
  obtain ⟨x21, e22, h⟩ := am_ltE h
  refine am_topI e22 ?_
  refine x_sto (lc' := [.ref 99, .int v1, .int v2, .int v3, .int v4, .int v5, .int x1, .int x3, .int x5, .int x7, .int x9, .int x19, .int x21, am_dead]) r176_157 rfl rfl rfl rfl ?_
  refine x_ld (v := .int v2) r176_159 rfl rfl rfl ?_
  refine x_call1 (as := [.int v2]) (rest := []) r176_160 rfl rfl rfl (by decide) (Nat.le_of_ble_eq_true rfl) (m187_ok rfl) (Nat.le_trans (by decide) hd) (Nat.zero_le _) (Nat.zero_le _) rfl ?_
  obtain ⟨q23, h25, h⟩ := am_ltE h
  replace h25 := h25.symm
  have kj24 : am_X xs L 176 d mc ms 171 [.ref 99, .int v1, .int v2, .int v3, .int v4, .int v5, .int x1, .int x3, .int x5, .int x7, .int x9, .int x19, .int x21, am_dead] [.int q23] (am_mk D17) 0 0 Q := by
    refine x_sto (lc' := [.ref 99, .int v1, .int v2, .int v3, .int v4, .int v5, .int x1, .int x3, .int x5, .int x7, .int x9, .int x19, .int x21, .int q23]) r176_171 rfl rfl rfl rfl ?_
    refine x_ld (v := .ref 99) r176_173 rfl rfl rfl ?_
    refine x_ld (v := .int v2) r176_174 rfl rfl rfl ?_
    refine x_ld (v := .int x21) r176_175 rfl rfl rfl ?_
    obtain ⟨q27, h28, h⟩ := Option.bind_eq_some_iff.mp h
    refine x_call1 (as := [.ref 99, .int v2, .int x21]) (rest := []) r176_177 rfl rfl rfl (by decide) (Nat.le_of_ble_eq_true rfl) (m177_ok h28) (Nat.le_trans (by decide) hd) (Nat.zero_le _) (Nat.zero_le _) rfl ?_
    rcases am_ifE h with ⟨c29, h⟩ | ⟨c29, h⟩
    · refine x_ifneT r176_180 c29 rfl ?_
      refine x_ld (v := .int q23) r176_183 rfl rfl rfl ?_
      refine x_ld (v := .int x19) r176_185 rfl rfl rfl ?_
      refine x_ld (v := .ref 99) r176_187 rfl rfl rfl ?_
      refine x_ic (v := 0) r176_188 rfl rfl ?_
      refine x_ld (v := .int x21) r176_189 rfl rfl rfl ?_
      obtain ⟨q30, h31, h⟩ := Option.bind_eq_some_iff.mp h
      refine x_call1 (as := [.ref 99, .int (0 : Int32), .int x21]) (rest := [.int x19, .int q23]) r176_191 rfl rfl rfl (by decide) (Nat.le_of_ble_eq_true rfl) (m178_ok h31) (Nat.le_trans (by decide) hd) (Nat.zero_le _) (Nat.zero_le _) rfl ?_
      refine x_ld (v := .ref 99) r176_194 rfl rfl rfl ?_
      refine x_ic (v := 1) r176_195 rfl rfl ?_
      refine x_ld (v := .int x21) r176_196 rfl rfl rfl ?_
      obtain ⟨q32, h33, h⟩ := Option.bind_eq_some_iff.mp h
      refine x_call1 (as := [.ref 99, .int (1 : Int32), .int x21]) (rest := [.int q30, .int x19, .int q23]) r176_198 rfl rfl rfl (by decide) (Nat.le_of_ble_eq_true rfl) (m178_ok h33) (Nat.le_trans (by decide) hd) (Nat.zero_le _) (Nat.zero_le _) rfl ?_
      refine x_ar r176_201 rfl trivial rfl ?_
      refine x_ic (v := 5) r176_202 rfl rfl ?_
      refine x_ar r176_203 rfl (by decide) rfl ?_
      refine x_ar r176_204 rfl trivial rfl ?_
      refine x_ar r176_205 rfl trivial rfl ?_
      cases h
      exact x_ret (ret := some .int) (C := True) (v := some (.int _)) r176_206 rt176 rfl rfl rfl rfl rfl rfl rfl rfl trivial hQ
    · refine x_ifneF r176_180 c29 ?_
      refine x_ld (v := .int q23) r176_207 rfl rfl rfl ?_
      refine x_ld (v := .int x19) r176_209 rfl rfl rfl ?_
      refine x_ar r176_211 rfl trivial rfl ?_
      refine x_ld (v := .ref 99) r176_212 rfl rfl rfl ?_
      refine x_ld (v := .int v1) r176_213 rfl rfl rfl ?_
      refine x_ic (v := 1) r176_214 rfl rfl ?_
      refine x_ar r176_215 rfl trivial rfl ?_
      refine x_ld (v := .int v2) r176_216 rfl rfl rfl ?_
      refine x_call1 (as := [.int v2]) (rest := [.int (v1 + (1 : Int32)), .ref 99, .int (q23 * x19)]) r176_217 rfl rfl rfl (by decide) (Nat.le_of_ble_eq_true rfl) (m185_ok rfl) (Nat.le_trans (by decide) hd) (Nat.zero_le _) (Nat.zero_le _) rfl ?_
      refine x_ic (v := 0) r176_220 rfl rfl ?_
      refine x_ld (v := .int x21) r176_221 rfl rfl rfl ?_
      obtain ⟨q34, h35, h⟩ := Option.bind_eq_some_iff.mp h
      refine x_call1 (as := [.ref 99, .int (v1 + (1 : Int32)), .int (m185 v2), .int (0 : Int32), .int x21]) (rest := [.int (q23 * x19)]) r176_223 rfl rfl rfl (by decide) (Nat.le_of_ble_eq_true rfl) (hrec _ _ _ _ _ _ h35) hdr (Nat.zero_le _) (Nat.zero_le _) rfl ?_
      refine x_ar r176_226 rfl trivial rfl ?_
      cases h
      exact x_ret (ret := some .int) (C := True) (v := some (.int _)) r176_227 rt176 rfl rfl rfl rfl rfl rfl rfl rfl trivial hQ
  rcases am_ifE h25 with ⟨c26, h25⟩ | ⟨c26, h25⟩
  · refine x_ifneT r176_163 c26 rfl ?_
    refine x_ic (v := 1) r176_166 rfl rfl ?_
    refine x_goto r176_167 ?_
    subst h25
    exact kj24
  · refine x_ifneF r176_163 c26 ?_
    refine x_ic (v := -1) r176_170 rfl rfl ?_
    subst h25
    exact kj24
theorem m176b_ok {d : Nat} {N : Nat} {D : am_D} {v1 : Int32} {v2 : Int32} {v3 : Int32} {v4 : Int32} {v5 : Int32} {rec : am_D → Int32 → Int32 → Int32 → Int32 → Option (Int32 × am_D)} {dr : Nat} (hrec : ∀ (D : am_D) (v1 v2 v3 v4 : Int32) (r : Int32 × am_D), rec D v1 v2 v3 v4 = some r → am_Y xs L 173 dr 0 0 [.ref 99, .int v1, .int v2, .int v3, .int v4] D (.inl (some (.int r.1))) r.2) (hdr : dr + 1 ≤ d) (hd : 3 ≤ d) {r : Int32 × am_D} (h : m176b rec N D v1 v2 v3 v4 v5 = some r) : am_Y xs L 176 d 0 0 [.ref 99, .int v1, .int v2, .int v3, .int v4, .int v5] D (.inl (some (.int r.1))) r.2 := am_Yof (mi := am_m176) (lc := [.ref 99, .int v1, .int v2, .int v3, .int v4, .int v5, am_dead, am_dead, am_dead, am_dead, am_dead, am_dead, am_dead, am_dead]) pg176 (Nat.le_of_ble_eq_true rfl) (am_rc1 (ci := 2) rfl rfl rfl rfl rfl) rfl (fun Q hQ => m176b_w hrec hdr hd h hQ)
theorem r173_0 : am_at 173 0 = some (.iload_n 2, 1, [2]) := by decide +kernel
theorem r173_1 : am_at 173 1 = some (.istore 5, 2, [5]) := by decide +kernel
theorem r173_3 : am_at 173 3 = some (.iload_n 3, 1, [3]) := by decide +kernel
theorem r173_4 : am_at 173 4 = some (.istore 6, 2, [6]) := by decide +kernel
theorem r173_6 : am_at 173 6 = some (.iload 6, 2, [6]) := by decide +kernel
theorem r173_8 : am_at 173 8 = some (.iconst (4), 1, []) := by decide +kernel
theorem r173_9 : am_at 173 9 = some (.if_icmp .ge (28), 3, [37]) := by decide +kernel
theorem r173_12 : am_at 173 12 = some (.aload_n 0, 1, [0]) := by decide +kernel
theorem r173_13 : am_at 173 13 = some (.iload_n 1, 1, [1]) := by decide +kernel
theorem r173_14 : am_at 173 14 = some (.iload 5, 2, [5]) := by decide +kernel
theorem r173_16 : am_at 173 16 = some (.iload 4, 2, [4]) := by decide +kernel
theorem r173_18 : am_at 173 18 = some (.invokevirtual 76, 3, [174, 4, 812, 0]) := by decide +kernel
theorem r173_21 : am_at 173 21 = some (.ifCond .ne (16), 3, [37]) := by decide +kernel
theorem r173_24 : am_at 173 24 = some (.iload 5, 2, [5]) := by decide +kernel
theorem r173_26 : am_at 173 26 = some (.invokestatic 80, 3, [185, 1, 822, 0]) := by decide +kernel
theorem r173_29 : am_at 173 29 = some (.istore 5, 2, [5]) := by decide +kernel
theorem r173_31 : am_at 173 31 = some (.iinc 6 (1), 3, [6]) := by decide +kernel
theorem r173_34 : am_at 173 34 = some (.goto (-28), 3, [6]) := by decide +kernel
theorem r173_37 : am_at 173 37 = some (.iload 6, 2, [6]) := by decide +kernel
theorem r173_39 : am_at 173 39 = some (.iconst (4), 1, []) := by decide +kernel
theorem r173_40 : am_at 173 40 = some (.if_icmp .ge (9), 3, [49]) := by decide +kernel
theorem r173_43 : am_at 173 43 = some (.iload_n 1, 1, [1]) := by decide +kernel
theorem r173_44 : am_at 173 44 = some (.bipush (9), 2, []) := by decide +kernel
theorem r173_46 : am_at 173 46 = some (.if_icmp .lt (10), 3, [56]) := by decide +kernel
theorem r173_49 : am_at 173 49 = some (.aload_n 0, 1, [0]) := by decide +kernel
theorem r173_50 : am_at 173 50 = some (.iload 4, 2, [4]) := by decide +kernel
theorem r173_52 : am_at 173 52 = some (.invokevirtual 83, 3, [179, 2, 823, 0]) := by decide +kernel
theorem r173_55 : am_at 173 55 = some (.ireturn, 1, []) := by decide +kernel
theorem r173_56 : am_at 173 56 = some (.iload 5, 2, [5]) := by decide +kernel
theorem r173_58 : am_at 173 58 = some (.invokestatic 68, 3, [187, 1, 832, 0]) := by decide +kernel
theorem r173_61 : am_at 173 61 = some (.ifCond .ne (7), 3, [68]) := by decide +kernel
theorem r173_64 : am_at 173 64 = some (.iconst (1), 1, []) := by decide +kernel
theorem r173_65 : am_at 173 65 = some (.goto (4), 3, [69]) := by decide +kernel
theorem r173_68 : am_at 173 68 = some (.iconst (-1), 1, []) := by decide +kernel
theorem r173_69 : am_at 173 69 = some (.istore 7, 2, [7]) := by decide +kernel
theorem r173_71 : am_at 173 71 = some (.iconst (0), 1, []) := by decide +kernel
theorem r173_72 : am_at 173 72 = some (.istore 8, 2, [8]) := by decide +kernel
theorem r173_74 : am_at 173 74 = some (.iconst (0), 1, []) := by decide +kernel
theorem r173_75 : am_at 173 75 = some (.istore 9, 2, [9]) := by decide +kernel
theorem r173_77 : am_at 173 77 = some (.iconst (0), 1, []) := by decide +kernel
theorem r173_78 : am_at 173 78 = some (.istore 10, 2, [10]) := by decide +kernel
theorem r173_80 : am_at 173 80 = some (.iload 10, 2, [10]) := by decide +kernel
theorem r173_82 : am_at 173 82 = some (.iconst (2), 1, []) := by decide +kernel
theorem r173_83 : am_at 173 83 = some (.aload_n 0, 1, [0]) := by decide +kernel
theorem r173_84 : am_at 173 84 = some (.getfield 24, 3, [2, 4, 0, 223]) := by decide +kernel
theorem r173_87 : am_at 173 87 = some (.imul, 1, []) := by decide +kernel
theorem r173_88 : am_at 173 88 = some (.if_icmp .ge (103), 3, [191]) := by decide +kernel
theorem r173_91 : am_at 173 91 = some (.iload 10, 2, [10]) := by decide +kernel
theorem r173_93 : am_at 173 93 = some (.iconst (2), 1, []) := by decide +kernel
theorem r173_94 : am_at 173 94 = some (.idiv, 1, []) := by decide +kernel
theorem r173_95 : am_at 173 95 = some (.istore 11, 2, [11]) := by decide +kernel
theorem r173_97 : am_at 173 97 = some (.iload 10, 2, [10]) := by decide +kernel
theorem r173_99 : am_at 173 99 = some (.iconst (2), 1, []) := by decide +kernel
theorem r173_100 : am_at 173 100 = some (.irem, 1, []) := by decide +kernel
theorem r173_101 : am_at 173 101 = some (.istore 12, 2, [12]) := by decide +kernel
theorem r173_103 : am_at 173 103 = some (.aload_n 0, 1, [0]) := by decide +kernel
theorem r173_104 : am_at 173 104 = some (.iload_n 1, 1, [1]) := by decide +kernel
theorem r173_105 : am_at 173 105 = some (.iload 5, 2, [5]) := by decide +kernel
theorem r173_107 : am_at 173 107 = some (.iload 4, 2, [4]) := by decide +kernel
theorem r173_109 : am_at 173 109 = some (.iload 11, 2, [11]) := by decide +kernel
theorem r173_111 : am_at 173 111 = some (.iload 12, 2, [12]) := by decide +kernel
theorem r173_113 : am_at 173 113 = some (.invokevirtual 86, 3, [175, 6, 816, 0]) := by decide +kernel
theorem r173_116 : am_at 173 116 = some (.ifCond .eq (69), 3, [185]) := by decide +kernel
theorem r173_119 : am_at 173 119 = some (.iload 7, 2, [7]) := by decide +kernel
theorem r173_121 : am_at 173 121 = some (.aload_n 0, 1, [0]) := by decide +kernel
theorem r173_122 : am_at 173 122 = some (.iload_n 1, 1, [1]) := by decide +kernel
theorem r173_123 : am_at 173 123 = some (.iload 5, 2, [5]) := by decide +kernel
theorem r173_125 : am_at 173 125 = some (.iload 4, 2, [4]) := by decide +kernel
theorem r173_127 : am_at 173 127 = some (.iload 11, 2, [11]) := by decide +kernel
theorem r173_129 : am_at 173 129 = some (.iload 12, 2, [12]) := by decide +kernel
theorem r173_131 : am_at 173 131 = some (.invokevirtual 90, 3, [176, 6, 833, 0]) := by decide +kernel
theorem r173_134 : am_at 173 134 = some (.imul, 1, []) := by decide +kernel
theorem r173_135 : am_at 173 135 = some (.istore 13, 2, [13]) := by decide +kernel
theorem r173_137 : am_at 173 137 = some (.iload 8, 2, [8]) := by decide +kernel
theorem r173_139 : am_at 173 139 = some (.ifCond .eq (10), 3, [149]) := by decide +kernel
theorem r173_142 : am_at 173 142 = some (.iload 13, 2, [13]) := by decide +kernel
theorem r173_144 : am_at 173 144 = some (.iload 9, 2, [9]) := by decide +kernel
theorem r173_146 : am_at 173 146 = some (.if_icmp .le (39), 3, [185]) := by decide +kernel
theorem r173_149 : am_at 173 149 = some (.iconst (1), 1, []) := by decide +kernel
theorem r173_150 : am_at 173 150 = some (.istore 8, 2, [8]) := by decide +kernel
theorem r173_152 : am_at 173 152 = some (.iload 13, 2, [13]) := by decide +kernel
theorem r173_154 : am_at 173 154 = some (.istore 9, 2, [9]) := by decide +kernel
theorem r173_156 : am_at 173 156 = some (.iload_n 1, 1, [1]) := by decide +kernel
theorem r173_157 : am_at 173 157 = some (.ifCond .ne (28), 3, [185]) := by decide +kernel
theorem r173_160 : am_at 173 160 = some (.iload 5, 2, [5]) := by decide +kernel
theorem r173_162 : am_at 173 162 = some (.iload_n 2, 1, [2]) := by decide +kernel
theorem r173_163 : am_at 173 163 = some (.if_icmp .ne (22), 3, [185]) := by decide +kernel
theorem r173_166 : am_at 173 166 = some (.aload_n 0, 1, [0]) := by decide +kernel
theorem r173_167 : am_at 173 167 = some (.aload_n 0, 1, [0]) := by decide +kernel
theorem r173_168 : am_at 173 168 = some (.getfield 9, 3, [2, 0, 3, 219]) := by decide +kernel
theorem r173_171 : am_at 173 171 = some (.iload 11, 2, [11]) := by decide +kernel
theorem r173_173 : am_at 173 173 = some (.invokestatic 94, 3, [180, 2, 820, 0]) := by decide +kernel
theorem r173_176 : am_at 173 176 = some (.putfield 52, 3, [2, 6, 0, 226]) := by decide +kernel
theorem r173_179 : am_at 173 179 = some (.aload_n 0, 1, [0]) := by decide +kernel
theorem r173_180 : am_at 173 180 = some (.iload 12, 2, [12]) := by decide +kernel
theorem r173_182 : am_at 173 182 = some (.putfield 55, 3, [2, 7, 0, 228]) := by decide +kernel
theorem r173_185 : am_at 173 185 = some (.iinc 10 (1), 3, [10]) := by decide +kernel
theorem r173_188 : am_at 173 188 = some (.goto (-108), 3, [80]) := by decide +kernel
theorem r173_191 : am_at 173 191 = some (.iload 7, 2, [7]) := by decide +kernel
theorem r173_193 : am_at 173 193 = some (.iload 9, 2, [9]) := by decide +kernel
theorem r173_195 : am_at 173 195 = some (.imul, 1, []) := by decide +kernel
theorem r173_196 : am_at 173 196 = some (.ireturn, 1, []) := by decide +kernel
theorem rt173 : am_rtt 173 = some (some .int) := by decide +kernel
set_option maxRecDepth 100000 in
theorem pg173 : am_pg[173]? = some am_m173 := rfl
theorem m173b_L6_w {d : Nat} {N : Nat} {D : am_D} {v1 : Int32} {v2 : Int32} {v4 : Int32} {mc ms : Nat} {Q : am_O → am_AH → Prop} {rec : am_D → Int32 → Int32 → Int32 → Int32 → Option (Int32 × am_D)} {dr : Nat} (hrec : ∀ (D : am_D) (v1 v2 v3 v4 : Int32) (r : Int32 × am_D), rec D v1 v2 v3 v4 = some r → am_Y xs L 173 dr 0 0 [.ref 99, .int v1, .int v2, .int v3, .int v4] D (.inl (some (.int r.1))) r.2) (hdr : dr + 3 + 1 ≤ d) (hd : 5 ≤ d) : ∀ (n : Nat) (v5 : Int32) (v6 : Int32) {q : Int32 × Int32} (h : m173b_L6 rec N D v1 v2 v4  n v5 v6 = some q) (k0 : am_X xs L 173 d mc ms 37 [.ref 99, .int v1, .int v2, am_dead, .int v4, .int q.1, .int q.2, am_dead, am_dead, am_dead, am_dead, am_dead, am_dead, am_dead] [] (am_mk D) 0 0 Q), am_X xs L 173 d mc ms 6 [.ref 99, .int v1, .int v2, am_dead, .int v4, .int v5, .int v6, am_dead, am_dead, am_dead, am_dead, am_dead, am_dead, am_dead] [] (am_mk D) 0 0 Q := by
  intro n
  induction n with
  | zero =>
    intro v5 v6 q h k0
    exact (nomatch (show none = some q from h))
  | succ n ih =>
    intro v5 v6 q h k0
    rw [m173b_L6] at h
    refine x_ld (v := .int v6) r173_6 rfl rfl rfl ?_
    refine x_ic (v := 4) r173_8 rfl rfl ?_
    rcases am_ifE h with ⟨c1, h⟩ | ⟨c1, h⟩
    · refine x_icgeT r173_9 c1 ?_
      refine x_forget (lc0 := [.ref 99, .int v1, .int v2, am_dead, .int v4, .int v5, .int v6, am_dead, am_dead, am_dead, am_dead, am_dead, am_dead, am_dead]) ⟨Or.inl rfl, Or.inl rfl, Or.inl rfl, Or.inl rfl, Or.inl rfl, Or.inl rfl, Or.inl rfl, Or.inl rfl, Or.inl rfl, Or.inl rfl, Or.inl rfl, Or.inl rfl, Or.inl rfl, Or.inl rfl, trivial⟩ ?_
      cases h
      exact k0
    · refine x_icgeF r173_9 c1 rfl ?_
      refine x_ld (v := .ref 99) r173_12 rfl rfl rfl ?_
      refine x_ld (v := .int v1) r173_13 rfl rfl rfl ?_
      refine x_ld (v := .int v5) r173_14 rfl rfl rfl ?_
      refine x_ld (v := .int v4) r173_16 rfl rfl rfl ?_
      obtain ⟨q2, h3, h⟩ := Option.bind_eq_some_iff.mp h
      refine x_call1 (as := [.ref 99, .int v1, .int v5, .int v4]) (rest := []) r173_18 rfl rfl rfl (by decide) (Nat.le_of_ble_eq_true rfl) (m174_ok h3) (Nat.le_trans (by decide) hd) (Nat.zero_le _) (Nat.zero_le _) rfl ?_
      rcases am_ifE h with ⟨c4, h⟩ | ⟨c4, h⟩
      · refine x_ifneT r173_21 c4 rfl ?_
        refine x_ld (v := .int v5) r173_24 rfl rfl rfl ?_
        refine x_call1 (as := [.int v5]) (rest := []) r173_26 rfl rfl rfl (by decide) (Nat.le_of_ble_eq_true rfl) (m185_ok rfl) (Nat.le_trans (by decide) hd) (Nat.zero_le _) (Nat.zero_le _) rfl ?_
        obtain ⟨x5, e6, h⟩ := am_ltE h
        refine am_topI e6 ?_
        refine x_sto (lc' := [.ref 99, .int v1, .int v2, am_dead, .int v4, .int x5, .int v6, am_dead, am_dead, am_dead, am_dead, am_dead, am_dead, am_dead]) r173_29 rfl rfl rfl rfl ?_
        obtain ⟨x7, e8, h⟩ := am_ltE h
        refine x_sto (lc' := [.ref 99, .int v1, .int v2, am_dead, .int v4, .int x5, .int x7, am_dead, am_dead, am_dead, am_dead, am_dead, am_dead, am_dead]) r173_31 rfl rfl (by subst e8; rfl) rfl ?_
        refine x_goto r173_34 ?_
        exact x_forget (lc0 := [.ref 99, .int v1, .int v2, am_dead, .int v4, .int x5, .int x7, am_dead, am_dead, am_dead, am_dead, am_dead, am_dead, am_dead]) ⟨Or.inl rfl, Or.inl rfl, Or.inl rfl, Or.inl rfl, Or.inl rfl, Or.inl rfl, Or.inl rfl, Or.inl rfl, Or.inl rfl, Or.inl rfl, Or.inl rfl, Or.inl rfl, Or.inl rfl, Or.inl rfl, trivial⟩ (ih x5 x7 h k0)
      · refine x_ifneF r173_21 c4 ?_
        refine x_forget (lc0 := [.ref 99, .int v1, .int v2, am_dead, .int v4, .int v5, .int v6, am_dead, am_dead, am_dead, am_dead, am_dead, am_dead, am_dead]) ⟨Or.inl rfl, Or.inl rfl, Or.inl rfl, Or.inl rfl, Or.inl rfl, Or.inl rfl, Or.inl rfl, Or.inl rfl, Or.inl rfl, Or.inl rfl, Or.inl rfl, Or.inl rfl, Or.inl rfl, Or.inl rfl, trivial⟩ ?_
        cases h
        exact k0
theorem m173b_L80_w {d : Nat} {N : Nat} {v1 : Int32} {v2 : Int32} {v4 : Int32} {v5 : Int32} {v7 : Int32} {mc ms : Nat} {Q : am_O → am_AH → Prop} {rec : am_D → Int32 → Int32 → Int32 → Int32 → Option (Int32 × am_D)} {dr : Nat} (hrec : ∀ (D : am_D) (v1 v2 v3 v4 : Int32) (r : Int32 × am_D), rec D v1 v2 v3 v4 = some r → am_Y xs L 173 dr 0 0 [.ref 99, .int v1, .int v2, .int v3, .int v4] D (.inl (some (.int r.1))) r.2) (hdr : dr + 3 + 1 ≤ d) (hd : 5 ≤ d) : ∀ (n : Nat) (D : am_D) (v8 : Int32) (v9 : Int32) (v10 : Int32) {q : Int32 × am_D} (h : m173b_L80 rec N v1 v2 v4 v5 v7  n D v8 v9 v10 = some q) (k0 : am_X xs L 173 d mc ms 191 [.ref 99, am_dead, am_dead, am_dead, am_dead, am_dead, am_dead, .int v7, am_dead, .int q.1, am_dead, am_dead, am_dead, am_dead] [] (am_mk q.2) 0 0 Q), am_X xs L 173 d mc ms 80 [.ref 99, .int v1, .int v2, am_dead, .int v4, .int v5, am_dead, .int v7, .int v8, .int v9, .int v10, am_dead, am_dead, am_dead] [] (am_mk D) 0 0 Q := by
  intro n
  induction n with
  | zero =>
    intro D v8 v9 v10 q h k0
    exact (nomatch (show none = some q from h))
  | succ n ih =>
    intro D v8 v9 v10 q h k0
    rw [m173b_L80] at h
    refine x_ld (v := .int v10) r173_80 rfl rfl rfl ?_
    refine x_ic (v := 2) r173_82 rfl rfl ?_
    refine x_ld (v := .ref 99) r173_83 rfl rfl rfl ?_
    refine y_gf (cd := 0) (v := .int (D.1 99 4)) r173_84 rfl rfl rfl ?_
    refine x_ar r173_87 rfl trivial rfl ?_
    rcases am_ifE h with ⟨c19, h⟩ | ⟨c19, h⟩
    · refine x_icgeT r173_88 c19 ?_
      refine x_forget (lc0 := [.ref 99, am_dead, am_dead, am_dead, am_dead, am_dead, am_dead, .int v7, am_dead, .int v9, am_dead, am_dead, am_dead, am_dead]) ⟨Or.inl rfl, Or.inr ⟨rfl, rfl⟩, Or.inr ⟨rfl, rfl⟩, Or.inl rfl, Or.inr ⟨rfl, rfl⟩, Or.inr ⟨rfl, rfl⟩, Or.inl rfl, Or.inl rfl, Or.inr ⟨rfl, rfl⟩, Or.inl rfl, Or.inr ⟨rfl, rfl⟩, Or.inl rfl, Or.inl rfl, Or.inl rfl, trivial⟩ ?_
      cases h
      exact k0
    · refine x_icgeF r173_88 c19 rfl ?_
      refine x_ld (v := .int v10) r173_91 rfl rfl rfl ?_
      refine x_ic (v := 2) r173_93 rfl rfl ?_
      refine x_ar r173_94 rfl (by decide) rfl ?_
      obtain ⟨x20, e21, h⟩ := am_ltE h
      refine am_topI e21 ?_
      refine x_sto (lc' := [.ref 99, .int v1, .int v2, am_dead, .int v4, .int v5, am_dead, .int v7, .int v8, .int v9, .int v10, .int x20, am_dead, am_dead]) r173_95 rfl rfl rfl rfl ?_
      refine x_ld (v := .int v10) r173_97 rfl rfl rfl ?_
      refine x_ic (v := 2) r173_99 rfl rfl ?_
      refine x_ar r173_100 rfl (by decide) rfl ?_
      obtain ⟨x22, e23, h⟩ := am_ltE h
      refine am_topI e23 ?_
      refine x_sto (lc' := [.ref 99, .int v1, .int v2, am_dead, .int v4, .int v5, am_dead, .int v7, .int v8, .int v9, .int v10, .int x20, .int x22, am_dead]) r173_101 rfl rfl rfl rfl ?_
      refine x_ld (v := .ref 99) r173_103 rfl rfl rfl ?_
      refine x_ld (v := .int v1) r173_104 rfl rfl rfl ?_
      refine x_ld (v := .int v5) r173_105 rfl rfl rfl ?_
      refine x_ld (v := .int v4) r173_107 rfl rfl rfl ?_
      refine x_ld (v := .int x20) r173_109 rfl rfl rfl ?_
      refine x_ld (v := .int x22) r173_111 rfl rfl rfl ?_
      refine x_call1 (as := [.ref 99, .int v1, .int v5, .int v4, .int x20, .int x22]) (rest := []) r173_113 rfl rfl rfl (by decide) (Nat.le_of_ble_eq_true rfl) (m175_ok rfl) (Nat.le_trans (by decide) hd) (Nat.zero_le _) (Nat.zero_le _) rfl ?_
      obtain ⟨q24, h26, h⟩ := Option.bind_eq_some_iff.mp h
      have kj25 : am_X xs L 173 d mc ms 185 [.ref 99, .int v1, .int v2, am_dead, .int v4, .int v5, am_dead, .int v7, .int q24.1, .int q24.2.1, .int v10, .int x20, .int x22, am_dead] [] (am_mk q24.2.2) 0 0 Q := by
        obtain ⟨x46, e47, h⟩ := am_ltE h
        refine x_sto (lc' := [.ref 99, .int v1, .int v2, am_dead, .int v4, .int v5, am_dead, .int v7, .int q24.1, .int q24.2.1, .int x46, .int x20, .int x22, am_dead]) r173_185 rfl rfl (by subst e47; rfl) rfl ?_
        refine x_goto r173_188 ?_
        exact x_forget (lc0 := [.ref 99, .int v1, .int v2, am_dead, .int v4, .int v5, am_dead, .int v7, .int q24.1, .int q24.2.1, .int x46, am_dead, am_dead, am_dead]) ⟨Or.inl rfl, Or.inl rfl, Or.inl rfl, Or.inl rfl, Or.inl rfl, Or.inl rfl, Or.inl rfl, Or.inl rfl, Or.inl rfl, Or.inl rfl, Or.inl rfl, Or.inr ⟨rfl, rfl⟩, Or.inr ⟨rfl, rfl⟩, Or.inl rfl, trivial⟩ (ih q24.2.2 q24.1 q24.2.1 x46 h k0)
      rcases am_ifE h26 with ⟨c27, h26⟩ | ⟨c27, h26⟩
      · refine x_ifeqT r173_116 c27 ?_
        cases h26
        exact kj25
      · refine x_ifeqF r173_116 c27 rfl ?_
        refine x_ld (v := .int v7) r173_119 rfl rfl rfl ?_
        refine x_ld (v := .ref 99) r173_121 rfl rfl rfl ?_
        refine x_ld (v := .int v1) r173_122 rfl rfl rfl ?_
        refine x_ld (v := .int v5) r173_123 rfl rfl rfl ?_
        refine x_ld (v := .int v4) r173_125 rfl rfl rfl ?_
        refine x_ld (v := .int x20) r173_127 rfl rfl rfl ?_
        refine x_ld (v := .int x22) r173_129 rfl rfl rfl ?_
        obtain ⟨q28, h29, h26⟩ := Option.bind_eq_some_iff.mp h26
        refine x_call1 (as := [.ref 99, .int v1, .int v5, .int v4, .int x20, .int x22]) (rest := [.int v7]) r173_131 rfl rfl rfl (by decide) (Nat.le_of_ble_eq_true rfl) (m176b_ok (d := dr + 3) hrec (by omega) (by omega) h29) hdr (Nat.zero_le _) (Nat.zero_le _) rfl ?_
        refine x_ar r173_134 rfl trivial rfl ?_
        obtain ⟨x30, e31, h26⟩ := am_ltE h26
        refine am_topI e31 ?_
        refine x_sto (lc' := [.ref 99, .int v1, .int v2, am_dead, .int v4, .int v5, am_dead, .int v7, .int v8, .int v9, .int v10, .int x20, .int x22, .int x30]) r173_135 rfl rfl rfl rfl ?_
        refine x_ld (v := .int v8) r173_137 rfl rfl rfl ?_
        rcases am_ifE h26 with ⟨c32, h26⟩ | ⟨c32, h26⟩
        · refine x_ifeqT r173_139 c32 ?_
          refine x_ic (v := 1) r173_149 rfl rfl ?_
          refine x_sto (lc' := [.ref 99, .int v1, .int v2, am_dead, .int v4, .int v5, am_dead, .int v7, .int (1 : Int32), .int v9, .int v10, .int x20, .int x22, .int x30]) r173_150 rfl rfl rfl rfl ?_
          refine x_ld (v := .int x30) r173_152 rfl rfl rfl ?_
          refine x_sto (lc' := [.ref 99, .int v1, .int v2, am_dead, .int v4, .int v5, am_dead, .int v7, .int (1 : Int32), .int x30, .int v10, .int x20, .int x22, .int x30]) r173_154 rfl rfl rfl rfl ?_
          refine x_ld (v := .int v1) r173_156 rfl rfl rfl ?_
          rcases am_ifE h26 with ⟨c33, h26⟩ | ⟨c33, h26⟩
          · refine x_ifneT r173_157 c33 rfl ?_
            refine x_ld (v := .int v5) r173_160 rfl rfl rfl ?_
            refine x_ld (v := .int v2) r173_162 rfl rfl rfl ?_
            rcases am_ifE h26 with ⟨c34, h26⟩ | ⟨c34, h26⟩
            · refine x_icneT r173_163 c34 rfl ?_
              refine x_ld (v := .ref 99) r173_166 rfl rfl rfl ?_
              refine x_ld (v := .ref 99) r173_167 rfl rfl rfl ?_
              refine y_gf (cd := 102) (v := .ref 100) r173_168 rfl rfl rfl ?_
              refine x_ld (v := .int x20) r173_171 rfl rfl rfl ?_
              refine x_call1 (as := [.ref 100, .int x20]) (rest := [.ref 99]) r173_173 rfl rfl rfl (by decide) (Nat.le_of_ble_eq_true rfl) (am_rows_at (n := 9) rfl (by decide)) (Nat.le_trans (by decide) hd) (Nat.zero_le _) (Nat.zero_le _) rfl ?_
              obtain ⟨D35, e36, h26⟩ := am_ltE h26
              refine y_pf0 r173_176 rfl e36 rfl ?_
              refine x_ld (v := .ref 99) r173_179 rfl rfl rfl ?_
              refine x_ld (v := .int x22) r173_180 rfl rfl rfl ?_
              obtain ⟨D37, e38, h26⟩ := am_ltE h26
              refine y_pf0 r173_182 rfl e38 rfl ?_
              refine x_forget (lc0 := [.ref 99, .int v1, .int v2, am_dead, .int v4, .int v5, am_dead, .int v7, .int (1 : Int32), .int x30, .int v10, .int x20, .int x22, am_dead]) ⟨Or.inl rfl, Or.inl rfl, Or.inl rfl, Or.inl rfl, Or.inl rfl, Or.inl rfl, Or.inl rfl, Or.inl rfl, Or.inl rfl, Or.inl rfl, Or.inl rfl, Or.inl rfl, Or.inl rfl, Or.inr ⟨rfl, rfl⟩, trivial⟩ ?_
              cases h26
              exact kj25
            · refine x_icneF r173_163 c34 ?_
              refine x_forget (lc0 := [.ref 99, .int v1, .int v2, am_dead, .int v4, .int v5, am_dead, .int v7, .int (1 : Int32), .int x30, .int v10, .int x20, .int x22, am_dead]) ⟨Or.inl rfl, Or.inl rfl, Or.inl rfl, Or.inl rfl, Or.inl rfl, Or.inl rfl, Or.inl rfl, Or.inl rfl, Or.inl rfl, Or.inl rfl, Or.inl rfl, Or.inl rfl, Or.inl rfl, Or.inr ⟨rfl, rfl⟩, trivial⟩ ?_
              cases h26
              exact kj25
          · refine x_ifneF r173_157 c33 ?_
            refine x_forget (lc0 := [.ref 99, .int v1, .int v2, am_dead, .int v4, .int v5, am_dead, .int v7, .int (1 : Int32), .int x30, .int v10, .int x20, .int x22, am_dead]) ⟨Or.inl rfl, Or.inl rfl, Or.inl rfl, Or.inl rfl, Or.inl rfl, Or.inl rfl, Or.inl rfl, Or.inl rfl, Or.inl rfl, Or.inl rfl, Or.inl rfl, Or.inl rfl, Or.inl rfl, Or.inr ⟨rfl, rfl⟩, trivial⟩ ?_
            cases h26
            exact kj25
        · refine x_ifeqF r173_139 c32 rfl ?_
          refine x_ld (v := .int x30) r173_142 rfl rfl rfl ?_
          refine x_ld (v := .int v9) r173_144 rfl rfl rfl ?_
          rcases am_ifE h26 with ⟨c39, h26⟩ | ⟨c39, h26⟩
          · refine x_icleT r173_146 c39 ?_
            refine x_forget (lc0 := [.ref 99, .int v1, .int v2, am_dead, .int v4, .int v5, am_dead, .int v7, .int v8, .int v9, .int v10, .int x20, .int x22, am_dead]) ⟨Or.inl rfl, Or.inl rfl, Or.inl rfl, Or.inl rfl, Or.inl rfl, Or.inl rfl, Or.inl rfl, Or.inl rfl, Or.inl rfl, Or.inl rfl, Or.inl rfl, Or.inl rfl, Or.inl rfl, Or.inr ⟨rfl, rfl⟩, trivial⟩ ?_
            cases h26
            exact kj25
          · refine x_icleF r173_146 c39 rfl ?_
            refine x_ic (v := 1) r173_149 rfl rfl ?_
            refine x_sto (lc' := [.ref 99, .int v1, .int v2, am_dead, .int v4, .int v5, am_dead, .int v7, .int (1 : Int32), .int v9, .int v10, .int x20, .int x22, .int x30]) r173_150 rfl rfl rfl rfl ?_
            refine x_ld (v := .int x30) r173_152 rfl rfl rfl ?_
            refine x_sto (lc' := [.ref 99, .int v1, .int v2, am_dead, .int v4, .int v5, am_dead, .int v7, .int (1 : Int32), .int x30, .int v10, .int x20, .int x22, .int x30]) r173_154 rfl rfl rfl rfl ?_
            refine x_ld (v := .int v1) r173_156 rfl rfl rfl ?_
            rcases am_ifE h26 with ⟨c40, h26⟩ | ⟨c40, h26⟩
            · refine x_ifneT r173_157 c40 rfl ?_
              refine x_ld (v := .int v5) r173_160 rfl rfl rfl ?_
              refine x_ld (v := .int v2) r173_162 rfl rfl rfl ?_
              rcases am_ifE h26 with ⟨c41, h26⟩ | ⟨c41, h26⟩
              · refine x_icneT r173_163 c41 rfl ?_
                refine x_ld (v := .ref 99) r173_166 rfl rfl rfl ?_
                refine x_ld (v := .ref 99) r173_167 rfl rfl rfl ?_
                refine y_gf (cd := 102) (v := .ref 100) r173_168 rfl rfl rfl ?_
                refine x_ld (v := .int x20) r173_171 rfl rfl rfl ?_
                refine x_call1 (as := [.ref 100, .int x20]) (rest := [.ref 99]) r173_173 rfl rfl rfl (by decide) (Nat.le_of_ble_eq_true rfl) (am_rows_at (n := 9) rfl (by decide)) (Nat.le_trans (by decide) hd) (Nat.zero_le _) (Nat.zero_le _) rfl ?_
                obtain ⟨D42, e43, h26⟩ := am_ltE h26
                refine y_pf0 r173_176 rfl e43 rfl ?_
                refine x_ld (v := .ref 99) r173_179 rfl rfl rfl ?_
                refine x_ld (v := .int x22) r173_180 rfl rfl rfl ?_
                obtain ⟨D44, e45, h26⟩ := am_ltE h26
                refine y_pf0 r173_182 rfl e45 rfl ?_
                refine x_forget (lc0 := [.ref 99, .int v1, .int v2, am_dead, .int v4, .int v5, am_dead, .int v7, .int (1 : Int32), .int x30, .int v10, .int x20, .int x22, am_dead]) ⟨Or.inl rfl, Or.inl rfl, Or.inl rfl, Or.inl rfl, Or.inl rfl, Or.inl rfl, Or.inl rfl, Or.inl rfl, Or.inl rfl, Or.inl rfl, Or.inl rfl, Or.inl rfl, Or.inl rfl, Or.inr ⟨rfl, rfl⟩, trivial⟩ ?_
                cases h26
                exact kj25
              · refine x_icneF r173_163 c41 ?_
                refine x_forget (lc0 := [.ref 99, .int v1, .int v2, am_dead, .int v4, .int v5, am_dead, .int v7, .int (1 : Int32), .int x30, .int v10, .int x20, .int x22, am_dead]) ⟨Or.inl rfl, Or.inl rfl, Or.inl rfl, Or.inl rfl, Or.inl rfl, Or.inl rfl, Or.inl rfl, Or.inl rfl, Or.inl rfl, Or.inl rfl, Or.inl rfl, Or.inl rfl, Or.inl rfl, Or.inr ⟨rfl, rfl⟩, trivial⟩ ?_
                cases h26
                exact kj25
            · refine x_ifneF r173_157 c40 ?_
              refine x_forget (lc0 := [.ref 99, .int v1, .int v2, am_dead, .int v4, .int v5, am_dead, .int v7, .int (1 : Int32), .int x30, .int v10, .int x20, .int x22, am_dead]) ⟨Or.inl rfl, Or.inl rfl, Or.inl rfl, Or.inl rfl, Or.inl rfl, Or.inl rfl, Or.inl rfl, Or.inl rfl, Or.inl rfl, Or.inl rfl, Or.inl rfl, Or.inl rfl, Or.inl rfl, Or.inr ⟨rfl, rfl⟩, trivial⟩ ?_
              cases h26
              exact kj25
theorem m173b_w {d mc ms : Nat} {N : Nat} {D : am_D} {v1 : Int32} {v2 : Int32} {v3 : Int32} {v4 : Int32} {rec : am_D → Int32 → Int32 → Int32 → Int32 → Option (Int32 × am_D)} {dr : Nat} (hrec : ∀ (D : am_D) (v1 v2 v3 v4 : Int32) (r : Int32 × am_D), rec D v1 v2 v3 v4 = some r → am_Y xs L 173 dr 0 0 [.ref 99, .int v1, .int v2, .int v3, .int v4] D (.inl (some (.int r.1))) r.2) (hdr : dr + 3 + 1 ≤ d) {Q : am_O → am_AH → Prop} (hd : 5 ≤ d) {r : Int32 × am_D} (h : m173b rec N D v1 v2 v3 v4 = some r) (hQ : Q (.inl (some (.int r.1))) (am_mk r.2)) : am_X xs L 173 d mc ms 0 [.ref 99, .int v1, .int v2, .int v3, .int v4, am_dead, am_dead, am_dead, am_dead, am_dead, am_dead, am_dead, am_dead, am_dead] [] (am_mk D) 0 0 Q := by
  unfold m173b at h
  refine x_ld (v := .int v2) r173_0 rfl rfl rfl ?_
  refine x_sto (lc' := [.ref 99, .int v1, .int v2, .int v3, .int v4, .int v2, am_dead, am_dead, am_dead, am_dead, am_dead, am_dead, am_dead, am_dead]) r173_1 rfl rfl rfl rfl ?_
  refine x_ld (v := .int v3) r173_3 rfl rfl rfl ?_
  refine x_sto (lc' := [.ref 99, .int v1, .int v2, .int v3, .int v4, .int v2, .int v3, am_dead, am_dead, am_dead, am_dead, am_dead, am_dead, am_dead]) r173_4 rfl rfl rfl rfl ?_
  obtain ⟨q9, h10, h⟩ := Option.bind_eq_some_iff.mp h
  refine x_forget (lc0 := [.ref 99, .int v1, .int v2, am_dead, .int v4, .int v2, .int v3, am_dead, am_dead, am_dead, am_dead, am_dead, am_dead, am_dead]) ⟨Or.inl rfl, Or.inl rfl, Or.inl rfl, Or.inr ⟨rfl, rfl⟩, Or.inl rfl, Or.inl rfl, Or.inl rfl, Or.inl rfl, Or.inl rfl, Or.inl rfl, Or.inl rfl, Or.inl rfl, Or.inl rfl, Or.inl rfl, trivial⟩ (m173b_L6_w hrec hdr hd N v2 v3 h10 ?_)
  refine x_ld (v := .int q9.2) r173_37 rfl rfl rfl ?_
  refine x_ic (v := 4) r173_39 rfl rfl ?_
  rcases am_ifE h with ⟨c11, h⟩ | ⟨c11, h⟩
  · refine x_icgeT r173_40 c11 ?_
    refine x_ld (v := .ref 99) r173_49 rfl rfl rfl ?_
    refine x_ld (v := .int v4) r173_50 rfl rfl rfl ?_
    obtain ⟨q12, h13, h⟩ := Option.bind_eq_some_iff.mp h
    refine x_call1 (as := [.ref 99, .int v4]) (rest := []) r173_52 rfl rfl rfl (by decide) (Nat.le_of_ble_eq_true rfl) (m179_ok h13) (Nat.le_trans (by decide) hd) (Nat.zero_le _) (Nat.zero_le _) rfl ?_
    cases h
    exact x_ret (ret := some .int) (C := True) (v := some (.int _)) r173_55 rt173 rfl rfl rfl rfl rfl rfl rfl rfl trivial hQ
  · refine x_icgeF r173_40 c11 rfl ?_
    refine x_ld (v := .int v1) r173_43 rfl rfl rfl ?_
    refine x_bi (v := 9) r173_44 rfl rfl ?_
    rcases am_ifE h with ⟨c14, h⟩ | ⟨c14, h⟩
    · refine x_icltT r173_46 c14 ?_
      refine x_ld (v := .int q9.1) r173_56 rfl rfl rfl ?_
      refine x_call1 (as := [.int q9.1]) (rest := []) r173_58 rfl rfl rfl (by decide) (Nat.le_of_ble_eq_true rfl) (m187_ok rfl) (Nat.le_trans (by decide) hd) (Nat.zero_le _) (Nat.zero_le _) rfl ?_
      obtain ⟨q15, h17, h⟩ := am_ltE h
      replace h17 := h17.symm
      have kj16 : am_X xs L 173 d mc ms 69 [.ref 99, .int v1, .int v2, am_dead, .int v4, .int q9.1, .int q9.2, am_dead, am_dead, am_dead, am_dead, am_dead, am_dead, am_dead] [.int q15] (am_mk D) 0 0 Q := by
        refine x_sto (lc' := [.ref 99, .int v1, .int v2, am_dead, .int v4, .int q9.1, .int q9.2, .int q15, am_dead, am_dead, am_dead, am_dead, am_dead, am_dead]) r173_69 rfl rfl rfl rfl ?_
        refine x_ic (v := 0) r173_71 rfl rfl ?_
        refine x_sto (lc' := [.ref 99, .int v1, .int v2, am_dead, .int v4, .int q9.1, .int q9.2, .int q15, .int (0 : Int32), am_dead, am_dead, am_dead, am_dead, am_dead]) r173_72 rfl rfl rfl rfl ?_
        refine x_ic (v := 0) r173_74 rfl rfl ?_
        refine x_sto (lc' := [.ref 99, .int v1, .int v2, am_dead, .int v4, .int q9.1, .int q9.2, .int q15, .int (0 : Int32), .int (0 : Int32), am_dead, am_dead, am_dead, am_dead]) r173_75 rfl rfl rfl rfl ?_
        refine x_ic (v := 0) r173_77 rfl rfl ?_
        refine x_sto (lc' := [.ref 99, .int v1, .int v2, am_dead, .int v4, .int q9.1, .int q9.2, .int q15, .int (0 : Int32), .int (0 : Int32), .int (0 : Int32), am_dead, am_dead, am_dead]) r173_78 rfl rfl rfl rfl ?_
        obtain ⟨q48, h49, h⟩ := Option.bind_eq_some_iff.mp h
        refine x_forget (lc0 := [.ref 99, .int v1, .int v2, am_dead, .int v4, .int q9.1, am_dead, .int q15, .int (0 : Int32), .int (0 : Int32), .int (0 : Int32), am_dead, am_dead, am_dead]) ⟨Or.inl rfl, Or.inl rfl, Or.inl rfl, Or.inl rfl, Or.inl rfl, Or.inl rfl, Or.inr ⟨rfl, rfl⟩, Or.inl rfl, Or.inl rfl, Or.inl rfl, Or.inl rfl, Or.inl rfl, Or.inl rfl, Or.inl rfl, trivial⟩ (m173b_L80_w hrec hdr hd N D (0 : Int32) (0 : Int32) (0 : Int32) h49 ?_)
        refine x_ld (v := .int q15) r173_191 rfl rfl rfl ?_
        refine x_ld (v := .int q48.1) r173_193 rfl rfl rfl ?_
        refine x_ar r173_195 rfl trivial rfl ?_
        cases h
        exact x_ret (ret := some .int) (C := True) (v := some (.int _)) r173_196 rt173 rfl rfl rfl rfl rfl rfl rfl rfl trivial hQ
      rcases am_ifE h17 with ⟨c18, h17⟩ | ⟨c18, h17⟩
      · refine x_ifneT r173_61 c18 rfl ?_
        refine x_ic (v := 1) r173_64 rfl rfl ?_
        refine x_goto r173_65 ?_
        subst h17
        exact kj16
      · refine x_ifneF r173_61 c18 ?_
        refine x_ic (v := -1) r173_68 rfl rfl ?_
        subst h17
        exact kj16
    · refine x_icltF r173_46 c14 rfl ?_
      refine x_ld (v := .ref 99) r173_49 rfl rfl rfl ?_
      refine x_ld (v := .int v4) r173_50 rfl rfl rfl ?_
      obtain ⟨q50, h51, h⟩ := Option.bind_eq_some_iff.mp h
      refine x_call1 (as := [.ref 99, .int v4]) (rest := []) r173_52 rfl rfl rfl (by decide) (Nat.le_of_ble_eq_true rfl) (m179_ok h51) (Nat.le_trans (by decide) hd) (Nat.zero_le _) (Nat.zero_le _) rfl ?_
      cases h
      exact x_ret (ret := some .int) (C := True) (v := some (.int _)) r173_55 rt173 rfl rfl rfl rfl rfl rfl rfl rfl trivial hQ
theorem m173b_ok {d : Nat} {N : Nat} {D : am_D} {v1 : Int32} {v2 : Int32} {v3 : Int32} {v4 : Int32} {rec : am_D → Int32 → Int32 → Int32 → Int32 → Option (Int32 × am_D)} {dr : Nat} (hrec : ∀ (D : am_D) (v1 v2 v3 v4 : Int32) (r : Int32 × am_D), rec D v1 v2 v3 v4 = some r → am_Y xs L 173 dr 0 0 [.ref 99, .int v1, .int v2, .int v3, .int v4] D (.inl (some (.int r.1))) r.2) (hdr : dr + 3 + 1 ≤ d) (hd : 5 ≤ d) {r : Int32 × am_D} (h : m173b rec N D v1 v2 v3 v4 = some r) : am_Y xs L 173 d 0 0 [.ref 99, .int v1, .int v2, .int v3, .int v4] D (.inl (some (.int r.1))) r.2 := am_Yof (mi := am_m173) (lc := [.ref 99, .int v1, .int v2, .int v3, .int v4, am_dead, am_dead, am_dead, am_dead, am_dead, am_dead, am_dead, am_dead, am_dead]) pg173 (Nat.le_of_ble_eq_true rfl) (am_rc1 (ci := 2) rfl rfl rfl rfl rfl) rfl (fun Q hQ => m173b_w hrec hdr hd h hQ)
theorem m173r_ok {N : Nat} : ∀ (n : Nat) (D : am_D) (v1 v2 v3 v4 : Int32) (r : Int32 × am_D), m173r N n D v1 v2 v3 v4 = some r → am_Y xs L 173 (5 + 4 * n) 0 0 [.ref 99, .int v1, .int v2, .int v3, .int v4] D (.inl (some (.int r.1))) r.2
  | 0, D, v1, v2, v3, v4, r, h => nomatch (show none = some r from h)
  | n + 1, D, v1, v2, v3, v4, r, h => m173b_ok (dr := 5 + 4 * n) (m173r_ok n) (by omega) (by omega) (show m173b (m173r N n) N D v1 v2 v3 v4 = some r from h)
theorem m173_ok {N : Nat} {D : am_D} {v1 v2 v3 v4 : Int32} {r : Int32 × am_D} (h : m173 N D v1 v2 v3 v4 = some r) : am_Y xs L 173 53 0 0 [.ref 99, .int v1, .int v2, .int v3, .int v4] D (.inl (some (.int r.1))) r.2 := m173r_ok 12 D v1 v2 v3 v4 r h
theorem r5_0 : am_at 5 0 = some (.iload_n 1, 1, [1]) := by decide +kernel
theorem r5_1 : am_at 5 1 = some (.invokestatic 58, 3, [40, 1, 516, 0]) := by decide +kernel
theorem r5_4 : am_at 5 4 = some (.ifCond .eq (10), 3, [14]) := by decide +kernel
theorem r5_7 : am_at 5 7 = some (.iload_n 2, 1, [2]) := by decide +kernel
theorem r5_8 : am_at 5 8 = some (.invokestatic 62, 3, [41, 1, 460, 0]) := by decide +kernel
theorem r5_11 : am_at 5 11 = some (.ifCond .ne (13), 3, [24]) := by decide +kernel
theorem r5_14 : am_at 5 14 = some (.new 65, 3, [9, 1, 0, 67, 69, 463, 34, 11, 473]) := by decide +kernel
theorem r5_24 : am_at 5 24 = some (.iload_n 3, 1, [3]) := by decide +kernel
theorem r5_25 : am_at 5 25 = some (.invokestatic 128, 3, [43, 1, 651, 0]) := by decide +kernel
theorem r5_28 : am_at 5 28 = some (.ifCond .ne (13), 3, [41]) := by decide +kernel
theorem r5_31 : am_at 5 31 = some (.new 93, 3, [9, 2, 0, 131, 97, 427, 36, 21, 437]) := by decide +kernel
theorem r5_41 : am_at 5 41 = some (.aload_n 0, 1, [0]) := by decide +kernel
theorem r5_42 : am_at 5 42 = some (.getfield 10, 3, [7, 0, 3, 257]) := by decide +kernel
theorem r5_45 : am_at 5 45 = some (.iload_n 1, 1, [1]) := by decide +kernel
theorem r5_46 : am_at 5 46 = some (.iload_n 2, 1, [2]) := by decide +kernel
theorem r5_47 : am_at 5 47 = some (.iload_n 3, 1, [3]) := by decide +kernel
theorem r5_48 : am_at 5 48 = some (.invokevirtual 133, 3, [220, 4, 753, 0]) := by decide +kernel
theorem r5_51 : am_at 5 51 = some (.ifCond .eq (13), 3, [64]) := by decide +kernel
theorem r5_54 : am_at 5 54 = some (.new 76, 3, [9, 3, 0, 137, 80, 308, 38, 22, 350]) := by decide +kernel
theorem r5_64 : am_at 5 64 = some (.aload_n 0, 1, [0]) := by decide +kernel
theorem r5_65 : am_at 5 65 = some (.getfield 22, 3, [7, 2, 3, 259]) := by decide +kernel
theorem r5_68 : am_at 5 68 = some (.aload_n 0, 1, [0]) := by decide +kernel
theorem r5_69 : am_at 5 69 = some (.getfield 10, 3, [7, 0, 3, 257]) := by decide +kernel
theorem r5_72 : am_at 5 72 = some (.invokevirtual 81, 3, [168, 2, 572, 0]) := by decide +kernel
theorem r5_75 : am_at 5 75 = some (.aload_n 0, 1, [0]) := by decide +kernel
theorem r5_76 : am_at 5 76 = some (.getfield 10, 3, [7, 0, 3, 257]) := by decide +kernel
theorem r5_79 : am_at 5 79 = some (.iload_n 1, 1, [1]) := by decide +kernel
theorem r5_80 : am_at 5 80 = some (.iload_n 2, 1, [2]) := by decide +kernel
theorem r5_81 : am_at 5 81 = some (.iload_n 3, 1, [3]) := by decide +kernel
theorem r5_82 : am_at 5 82 = some (.invokevirtual 139, 3, [223, 4, 760, 0]) := by decide +kernel
theorem r5_85 : am_at 5 85 = some (.ireturn, 1, []) := by decide +kernel
theorem rt5 : am_rtt 5 = some (some .int) := by decide +kernel
set_option maxRecDepth 100000 in
theorem pg5 : am_pg[5]? = some am_m5 := rfl
theorem m5_w {d mc ms : Nat} {N : Nat} {D : am_D} {v1 : Int32} {v2 : Int32} {v3 : Int32} {Q : am_O → am_AH → Prop} (hd : 7 ≤ d) {r : (Int32 ⊕ Nat) × am_D} (h : m5 N D v1 v2 v3 = some r) (hE : ∀ E, r.1 = .inr E → 0 + 1 ≤ mc ∧ 0 + 6 ≤ ms) (hQ : Q (am_oI r.1) (am_mk r.2)) : am_X xs L 5 d mc ms 0 [.ref 0, .int v1, .int v2, .int v3] [] (am_mk D) 0 0 Q := by
  unfold m5 at h
  refine x_ld (v := .int v1) r5_0 rfl rfl rfl ?_
  refine x_call1 (as := [.int v1]) (rest := []) r5_1 rfl rfl rfl (by decide) (Nat.le_of_ble_eq_true rfl) (m40_ok rfl) (Nat.le_trans (by decide) hd) (Nat.zero_le _) (Nat.zero_le _) rfl ?_
  rcases am_ifE h with ⟨c1, h⟩ | ⟨c1, h⟩
  · refine x_ifeqT r5_4 c1 ?_
    cases h
    exact x_thr r5_14 (hE _ rfl).1 (hE _ rfl).2 (Nat.le_of_ble_eq_true rfl) hQ
  · refine x_ifeqF r5_4 c1 rfl ?_
    refine x_ld (v := .int v2) r5_7 rfl rfl rfl ?_
    refine x_call1 (as := [.int v2]) (rest := []) r5_8 rfl rfl rfl (by decide) (Nat.le_of_ble_eq_true rfl) (m41_ok rfl) (Nat.le_trans (by decide) hd) (Nat.zero_le _) (Nat.zero_le _) rfl ?_
    rcases am_ifE h with ⟨c2, h⟩ | ⟨c2, h⟩
    · refine x_ifneT r5_11 c2 rfl ?_
      cases h
      exact x_thr r5_14 (hE _ rfl).1 (hE _ rfl).2 (Nat.le_of_ble_eq_true rfl) hQ
    · refine x_ifneF r5_11 c2 ?_
      refine x_ld (v := .int v3) r5_24 rfl rfl rfl ?_
      refine x_call1 (as := [.int v3]) (rest := []) r5_25 rfl rfl rfl (by decide) (Nat.le_of_ble_eq_true rfl) (m43_ok rfl) (Nat.le_trans (by decide) hd) (Nat.zero_le _) (Nat.zero_le _) rfl ?_
      rcases am_ifE h with ⟨c3, h⟩ | ⟨c3, h⟩
      · refine x_ifneT r5_28 c3 rfl ?_
        cases h
        exact x_thr r5_31 (hE _ rfl).1 (hE _ rfl).2 (Nat.le_of_ble_eq_true rfl) hQ
      · refine x_ifneF r5_28 c3 ?_
        refine x_ld (v := .ref 0) r5_41 rfl rfl rfl ?_
        refine y_gf (cd := 3) (v := .ref 1) r5_42 rfl rfl rfl ?_
        refine x_ld (v := .int v1) r5_45 rfl rfl rfl ?_
        refine x_ld (v := .int v2) r5_46 rfl rfl rfl ?_
        refine x_ld (v := .int v3) r5_47 rfl rfl rfl ?_
        refine x_call1 (as := [.ref 1, .int v1, .int v2, .int v3]) (rest := []) r5_48 rfl rfl rfl (by decide) (Nat.le_of_ble_eq_true rfl) (m220_ok rfl) (Nat.le_trans (by decide) hd) (Nat.zero_le _) (Nat.zero_le _) rfl ?_
        rcases am_ifE h with ⟨c4, h⟩ | ⟨c4, h⟩
        · refine x_ifeqT r5_51 c4 ?_
          refine x_ld (v := .ref 0) r5_64 rfl rfl rfl ?_
          refine y_gf (cd := 25) (v := .ref 23) r5_65 rfl rfl rfl ?_
          refine x_ld (v := .ref 0) r5_68 rfl rfl rfl ?_
          refine y_gf (cd := 3) (v := .ref 1) r5_69 rfl rfl rfl ?_
          obtain ⟨q5, h6, h⟩ := Option.bind_eq_some_iff.mp h
          refine x_call0 (as := [.ref 23, .ref 1]) (rest := []) r5_72 rfl rfl rfl (by decide) (Nat.le_of_ble_eq_true rfl) (m168_ok h6) (Nat.le_trans (by decide) hd) (Nat.zero_le _) (Nat.zero_le _) rfl ?_
          refine x_ld (v := .ref 0) r5_75 rfl rfl rfl ?_
          refine y_gf (cd := 3) (v := .ref 1) r5_76 rfl rfl rfl ?_
          refine x_ld (v := .int v1) r5_79 rfl rfl rfl ?_
          refine x_ld (v := .int v2) r5_80 rfl rfl rfl ?_
          refine x_ld (v := .int v3) r5_81 rfl rfl rfl ?_
          obtain ⟨q7, h8, h⟩ := Option.bind_eq_some_iff.mp h
          refine x_call1 (as := [.ref 1, .int v1, .int v2, .int v3]) (rest := []) r5_82 rfl rfl rfl (by decide) (Nat.le_of_ble_eq_true rfl) (m223_ok h8) (Nat.le_trans (by decide) hd) (Nat.zero_le _) (Nat.zero_le _) rfl ?_
          cases h
          exact x_ret (ret := some .int) (C := True) (v := some (.int _)) r5_85 rt5 rfl rfl rfl rfl rfl rfl rfl rfl trivial hQ
        · refine x_ifeqF r5_51 c4 rfl ?_
          cases h
          exact x_thr r5_54 (hE _ rfl).1 (hE _ rfl).2 (Nat.le_of_ble_eq_true rfl) hQ
theorem m5_okv {N : Nat} {D : am_D} {v1 : Int32} {v2 : Int32} {v3 : Int32} {r : (Int32 ⊕ Nat) × am_D} {v : Int32} (h : m5 N D v1 v2 v3 = some r) (hv : am_inl r.1 = some v) : am_Y xs L 5 7 0 0 [.ref 0, .int v1, .int v2, .int v3] D (.inl (some (.int v))) r.2 := am_Yof (mi := am_m5) (lc := [.ref 0, .int v1, .int v2, .int v3]) pg5 (Nat.le_of_ble_eq_true rfl) (am_rc1 (ci := 7) rfl rfl rfl rfl rfl) rfl (fun Q hQ => m5_w (Nat.le_refl _) h (fun E e => by rw [e] at hv; cases hv) (by rw [am_inlE hv]; exact hQ))
theorem m5_exv {N : Nat} {D : am_D} {v1 : Int32} {v2 : Int32} {v3 : Int32} {r : (Int32 ⊕ Nat) × am_D} {E : Nat} (h : m5 N D v1 v2 v3 = some r) (hv : r.1 = .inr E) : am_Y xs L 5 7 1 6 [.ref 0, .int v1, .int v2, .int v3] D (.inr E) r.2 := am_Yof (mi := am_m5) (lc := [.ref 0, .int v1, .int v2, .int v3]) pg5 (Nat.le_of_ble_eq_true rfl) (am_rc1 (ci := 7) rfl rfl rfl rfl rfl) rfl (fun Q hQ => m5_w (Nat.le_refl _) h (fun E e => ⟨Nat.le_refl _, Nat.le_refl _⟩) (by rw [hv]; exact hQ))
theorem r6_0 : am_at 6 0 = some (.iload_n 1, 1, [1]) := by decide +kernel
theorem r6_1 : am_at 6 1 = some (.invokestatic 58, 3, [40, 1, 516, 0]) := by decide +kernel
theorem r6_4 : am_at 6 4 = some (.ifCond .ne (13), 3, [17]) := by decide +kernel
theorem r6_7 : am_at 6 7 = some (.new 65, 3, [9, 1, 0, 107, 69, 463, 34, 6, 473]) := by decide +kernel
theorem r6_17 : am_at 6 17 = some (.aload_n 0, 1, [0]) := by decide +kernel
theorem r6_18 : am_at 6 18 = some (.getfield 10, 3, [7, 0, 3, 257]) := by decide +kernel
theorem r6_21 : am_at 6 21 = some (.iload_n 1, 1, [1]) := by decide +kernel
theorem r6_22 : am_at 6 22 = some (.invokevirtual 142, 3, [221, 2, 541, 0]) := by decide +kernel
theorem r6_25 : am_at 6 25 = some (.ifCond .eq (13), 3, [38]) := by decide +kernel
theorem r6_28 : am_at 6 28 = some (.new 76, 3, [9, 3, 0, 145, 80, 308, 38, 20, 350]) := by decide +kernel
theorem r6_38 : am_at 6 38 = some (.aload_n 0, 1, [0]) := by decide +kernel
theorem r6_39 : am_at 6 39 = some (.getfield 22, 3, [7, 2, 3, 259]) := by decide +kernel
theorem r6_42 : am_at 6 42 = some (.aload_n 0, 1, [0]) := by decide +kernel
theorem r6_43 : am_at 6 43 = some (.getfield 10, 3, [7, 0, 3, 257]) := by decide +kernel
theorem r6_46 : am_at 6 46 = some (.invokevirtual 81, 3, [168, 2, 572, 0]) := by decide +kernel
theorem r6_49 : am_at 6 49 = some (.aload_n 0, 1, [0]) := by decide +kernel
theorem r6_50 : am_at 6 50 = some (.getfield 10, 3, [7, 0, 3, 257]) := by decide +kernel
theorem r6_53 : am_at 6 53 = some (.iload_n 1, 1, [1]) := by decide +kernel
theorem r6_54 : am_at 6 54 = some (.invokevirtual 147, 3, [224, 2, 729, 0]) := by decide +kernel
theorem r6_57 : am_at 6 57 = some (.ireturn, 1, []) := by decide +kernel
theorem rt6 : am_rtt 6 = some (some .int) := by decide +kernel
set_option maxRecDepth 100000 in
theorem pg6 : am_pg[6]? = some am_m6 := rfl
theorem m6_w {d mc ms : Nat} {N : Nat} {D : am_D} {v1 : Int32} {Q : am_O → am_AH → Prop} (hd : 6 ≤ d) {r : (Int32 ⊕ Nat) × am_D} (h : m6 N D v1 = some r) (hE : ∀ E, r.1 = .inr E → 0 + 1 ≤ mc ∧ 0 + 6 ≤ ms) (hQ : Q (am_oI r.1) (am_mk r.2)) : am_X xs L 6 d mc ms 0 [.ref 0, .int v1] [] (am_mk D) 0 0 Q := by
  unfold m6 at h
  refine x_ld (v := .int v1) r6_0 rfl rfl rfl ?_
  refine x_call1 (as := [.int v1]) (rest := []) r6_1 rfl rfl rfl (by decide) (Nat.le_of_ble_eq_true rfl) (m40_ok rfl) (Nat.le_trans (by decide) hd) (Nat.zero_le _) (Nat.zero_le _) rfl ?_
  rcases am_ifE h with ⟨c1, h⟩ | ⟨c1, h⟩
  · refine x_ifneT r6_4 c1 rfl ?_
    cases h
    exact x_thr r6_7 (hE _ rfl).1 (hE _ rfl).2 (Nat.le_of_ble_eq_true rfl) hQ
  · refine x_ifneF r6_4 c1 ?_
    refine x_ld (v := .ref 0) r6_17 rfl rfl rfl ?_
    refine y_gf (cd := 3) (v := .ref 1) r6_18 rfl rfl rfl ?_
    refine x_ld (v := .int v1) r6_21 rfl rfl rfl ?_
    obtain ⟨q2, h3, h⟩ := Option.bind_eq_some_iff.mp h
    refine x_call1 (as := [.ref 1, .int v1]) (rest := []) r6_22 rfl rfl rfl (by decide) (Nat.le_of_ble_eq_true rfl) (m221_ok h3) (Nat.le_trans (by decide) hd) (Nat.zero_le _) (Nat.zero_le _) rfl ?_
    rcases am_ifE h with ⟨c4, h⟩ | ⟨c4, h⟩
    · refine x_ifeqT r6_25 c4 ?_
      refine x_ld (v := .ref 0) r6_38 rfl rfl rfl ?_
      refine y_gf (cd := 25) (v := .ref 23) r6_39 rfl rfl rfl ?_
      refine x_ld (v := .ref 0) r6_42 rfl rfl rfl ?_
      refine y_gf (cd := 3) (v := .ref 1) r6_43 rfl rfl rfl ?_
      obtain ⟨q5, h6, h⟩ := Option.bind_eq_some_iff.mp h
      refine x_call0 (as := [.ref 23, .ref 1]) (rest := []) r6_46 rfl rfl rfl (by decide) (Nat.le_of_ble_eq_true rfl) (m168_ok h6) (Nat.le_trans (by decide) hd) (Nat.zero_le _) (Nat.zero_le _) rfl ?_
      refine x_ld (v := .ref 0) r6_49 rfl rfl rfl ?_
      refine y_gf (cd := 3) (v := .ref 1) r6_50 rfl rfl rfl ?_
      refine x_ld (v := .int v1) r6_53 rfl rfl rfl ?_
      obtain ⟨q7, h8, h⟩ := Option.bind_eq_some_iff.mp h
      refine x_call1 (as := [.ref 1, .int v1]) (rest := []) r6_54 rfl rfl rfl (by decide) (Nat.le_of_ble_eq_true rfl) (m224_ok h8) (Nat.le_trans (by decide) hd) (Nat.zero_le _) (Nat.zero_le _) rfl ?_
      cases h
      exact x_ret (ret := some .int) (C := True) (v := some (.int _)) r6_57 rt6 rfl rfl rfl rfl rfl rfl rfl rfl trivial hQ
    · refine x_ifeqF r6_25 c4 rfl ?_
      cases h
      exact x_thr r6_28 (hE _ rfl).1 (hE _ rfl).2 (Nat.le_of_ble_eq_true rfl) hQ
theorem m6_okv {N : Nat} {D : am_D} {v1 : Int32} {r : (Int32 ⊕ Nat) × am_D} {v : Int32} (h : m6 N D v1 = some r) (hv : am_inl r.1 = some v) : am_Y xs L 6 6 0 0 [.ref 0, .int v1] D (.inl (some (.int v))) r.2 := am_Yof (mi := am_m6) (lc := [.ref 0, .int v1]) pg6 (Nat.le_of_ble_eq_true rfl) (am_rc1 (ci := 7) rfl rfl rfl rfl rfl) rfl (fun Q hQ => m6_w (Nat.le_refl _) h (fun E e => by rw [e] at hv; cases hv) (by rw [am_inlE hv]; exact hQ))
theorem m6_exv {N : Nat} {D : am_D} {v1 : Int32} {r : (Int32 ⊕ Nat) × am_D} {E : Nat} (h : m6 N D v1 = some r) (hv : r.1 = .inr E) : am_Y xs L 6 6 1 6 [.ref 0, .int v1] D (.inr E) r.2 := am_Yof (mi := am_m6) (lc := [.ref 0, .int v1]) pg6 (Nat.le_of_ble_eq_true rfl) (am_rc1 (ci := 7) rfl rfl rfl rfl rfl) rfl (fun Q hQ => m6_w (Nat.le_refl _) h (fun E e => ⟨Nat.le_refl _, Nat.le_refl _⟩) (by rw [hv]; exact hQ))
theorem r24_0 : am_at 24 0 = some (.iload_n 1, 1, [1]) := by decide +kernel
theorem r24_1 : am_at 24 1 = some (.invokestatic 58, 3, [40, 1, 516, 0]) := by decide +kernel
theorem r24_4 : am_at 24 4 = some (.ifCond .ne (13), 3, [17]) := by decide +kernel
theorem r24_7 : am_at 24 7 = some (.new 65, 3, [9, 1, 0, 107, 69, 463, 34, 6, 473]) := by decide +kernel
theorem r24_17 : am_at 24 17 = some (.iload_n 2, 1, [2]) := by decide +kernel
theorem r24_18 : am_at 24 18 = some (.invokestatic 128, 3, [43, 1, 651, 0]) := by decide +kernel
theorem r24_21 : am_at 24 21 = some (.ifCond .ne (14), 3, [35]) := by decide +kernel
theorem r24_24 : am_at 24 24 = some (.new 93, 3, [9, 2, 1, 348, 97, 427, 36, 25, 437]) := by decide +kernel
theorem r24_35 : am_at 24 35 = some (.aload_n 0, 1, [0]) := by decide +kernel
theorem r24_36 : am_at 24 36 = some (.getfield 36, 3, [7, 4, 3, 261]) := by decide +kernel
theorem r24_39 : am_at 24 39 = some (.aload_n 0, 1, [0]) := by decide +kernel
theorem r24_40 : am_at 24 40 = some (.getfield 10, 3, [7, 0, 3, 257]) := by decide +kernel
theorem r24_43 : am_at 24 43 = some (.iload_n 1, 1, [1]) := by decide +kernel
theorem r24_44 : am_at 24 44 = some (.invokevirtual 350, 3, [189, 3, 856, 0]) := by decide +kernel
theorem r24_47 : am_at 24 47 = some (.iload_n 2, 1, [2]) := by decide +kernel
theorem r24_48 : am_at 24 48 = some (.ifCond .ne (13), 3, [61]) := by decide +kernel
theorem r24_51 : am_at 24 51 = some (.aload_n 0, 1, [0]) := by decide +kernel
theorem r24_52 : am_at 24 52 = some (.getfield 36, 3, [7, 4, 3, 261]) := by decide +kernel
theorem r24_55 : am_at 24 55 = some (.invokevirtual 354, 3, [192, 1, 872, 0]) := by decide +kernel
theorem r24_58 : am_at 24 58 = some (.goto (10), 3, [68]) := by decide +kernel
theorem r24_61 : am_at 24 61 = some (.aload_n 0, 1, [0]) := by decide +kernel
theorem r24_62 : am_at 24 62 = some (.getfield 36, 3, [7, 4, 3, 261]) := by decide +kernel
theorem r24_65 : am_at 24 65 = some (.invokevirtual 358, 3, [196, 1, 890, 0]) := by decide +kernel
theorem r24_68 : am_at 24 68 = some (.l2i, 1, []) := by decide +kernel
theorem r24_69 : am_at 24 69 = some (.ireturn, 1, []) := by decide +kernel
theorem rt24 : am_rtt 24 = some (some .int) := by decide +kernel
set_option maxRecDepth 100000 in
theorem pg24 : am_pg[24]? = some am_m24 := rfl
theorem m24_w {d mc ms : Nat} {N : Nat} {D : am_D} {v1 : Int32} {v2 : Int32} {Q : am_O → am_AH → Prop} (hd : 4 ≤ d) {r : (Int32 ⊕ Nat) × am_D} (h : m24 N D v1 v2 = some r) (hE : ∀ E, r.1 = .inr E → 0 + 1 ≤ mc ∧ 0 + 6 ≤ ms) (hQ : Q (am_oI r.1) (am_mk r.2)) : am_X xs L 24 d mc ms 0 [.ref 0, .int v1, .int v2] [] (am_mk D) 0 0 Q := by
  unfold m24 at h
  refine x_ld (v := .int v1) r24_0 rfl rfl rfl ?_
  refine x_call1 (as := [.int v1]) (rest := []) r24_1 rfl rfl rfl (by decide) (Nat.le_of_ble_eq_true rfl) (m40_ok rfl) (Nat.le_trans (by decide) hd) (Nat.zero_le _) (Nat.zero_le _) rfl ?_
  rcases am_ifE h with ⟨c1, h⟩ | ⟨c1, h⟩
  · refine x_ifneT r24_4 c1 rfl ?_
    cases h
    exact x_thr r24_7 (hE _ rfl).1 (hE _ rfl).2 (Nat.le_of_ble_eq_true rfl) hQ
  · refine x_ifneF r24_4 c1 ?_
    refine x_ld (v := .int v2) r24_17 rfl rfl rfl ?_
    refine x_call1 (as := [.int v2]) (rest := []) r24_18 rfl rfl rfl (by decide) (Nat.le_of_ble_eq_true rfl) (m43_ok rfl) (Nat.le_trans (by decide) hd) (Nat.zero_le _) (Nat.zero_le _) rfl ?_
    rcases am_ifE h with ⟨c2, h⟩ | ⟨c2, h⟩
    · refine x_ifneT r24_21 c2 rfl ?_
      cases h
      exact x_thr r24_24 (hE _ rfl).1 (hE _ rfl).2 (Nat.le_of_ble_eq_true rfl) hQ
    · refine x_ifneF r24_21 c2 ?_
      refine x_ld (v := .ref 0) r24_35 rfl rfl rfl ?_
      refine y_gf (cd := 95) (v := .ref 93) r24_36 rfl rfl rfl ?_
      refine x_ld (v := .ref 0) r24_39 rfl rfl rfl ?_
      refine y_gf (cd := 3) (v := .ref 1) r24_40 rfl rfl rfl ?_
      refine x_ld (v := .int v1) r24_43 rfl rfl rfl ?_
      obtain ⟨q3, h4, h⟩ := Option.bind_eq_some_iff.mp h
      refine x_call0 (as := [.ref 93, .ref 1, .int v1]) (rest := []) r24_44 rfl rfl rfl (by decide) (Nat.le_of_ble_eq_true rfl) (m189_ok h4) (Nat.le_trans (by decide) hd) (Nat.zero_le _) (Nat.zero_le _) rfl ?_
      refine x_ld (v := .int v2) r24_47 rfl rfl rfl ?_
      rcases am_ifE h with ⟨c5, h⟩ | ⟨c5, h⟩
      · refine x_ifneT r24_48 c5 rfl ?_
        refine x_ld (v := .ref 0) r24_51 rfl rfl rfl ?_
        refine y_gf (cd := 95) (v := .ref 93) r24_52 rfl rfl rfl ?_
        obtain ⟨q6, h7, h⟩ := Option.bind_eq_some_iff.mp h
        refine x_call1 (as := [.ref 93]) (rest := []) r24_55 rfl rfl rfl (by decide) (Nat.le_of_ble_eq_true rfl) (m192_ok h7) (Nat.le_trans (by decide) hd) (Nat.zero_le _) (Nat.zero_le _) rfl ?_
        refine x_goto r24_58 ?_
        refine x_ar r24_68 rfl trivial rfl ?_
        cases h
        exact x_ret (ret := some .int) (C := True) (v := some (.int _)) r24_69 rt24 rfl rfl rfl rfl rfl rfl rfl rfl trivial hQ
      · refine x_ifneF r24_48 c5 ?_
        refine x_ld (v := .ref 0) r24_61 rfl rfl rfl ?_
        refine y_gf (cd := 95) (v := .ref 93) r24_62 rfl rfl rfl ?_
        obtain ⟨q8, h9, h⟩ := Option.bind_eq_some_iff.mp h
        refine x_call1 (as := [.ref 93]) (rest := []) r24_65 rfl rfl rfl (by decide) (Nat.le_of_ble_eq_true rfl) (m196_ok h9) (Nat.le_trans (by decide) hd) (Nat.zero_le _) (Nat.zero_le _) rfl ?_
        refine x_ar r24_68 rfl trivial rfl ?_
        cases h
        exact x_ret (ret := some .int) (C := True) (v := some (.int _)) r24_69 rt24 rfl rfl rfl rfl rfl rfl rfl rfl trivial hQ
theorem m24_okv {N : Nat} {D : am_D} {v1 : Int32} {v2 : Int32} {r : (Int32 ⊕ Nat) × am_D} {v : Int32} (h : m24 N D v1 v2 = some r) (hv : am_inl r.1 = some v) : am_Y xs L 24 4 0 0 [.ref 0, .int v1, .int v2] D (.inl (some (.int v))) r.2 := am_Yof (mi := am_m24) (lc := [.ref 0, .int v1, .int v2]) pg24 (Nat.le_of_ble_eq_true rfl) (am_rc1 (ci := 7) rfl rfl rfl rfl rfl) rfl (fun Q hQ => m24_w (Nat.le_refl _) h (fun E e => by rw [e] at hv; cases hv) (by rw [am_inlE hv]; exact hQ))
theorem m24_exv {N : Nat} {D : am_D} {v1 : Int32} {v2 : Int32} {r : (Int32 ⊕ Nat) × am_D} {E : Nat} (h : m24 N D v1 v2 = some r) (hv : r.1 = .inr E) : am_Y xs L 24 4 1 6 [.ref 0, .int v1, .int v2] D (.inr E) r.2 := am_Yof (mi := am_m24) (lc := [.ref 0, .int v1, .int v2]) pg24 (Nat.le_of_ble_eq_true rfl) (am_rc1 (ci := 7) rfl rfl rfl rfl rfl) rfl (fun Q hQ => m24_w (Nat.le_refl _) h (fun E e => ⟨Nat.le_refl _, Nat.le_refl _⟩) (by rw [hv]; exact hQ))
theorem r25_0 : am_at 25 0 = some (.iload_n 1, 1, [1]) := by decide +kernel
theorem r25_1 : am_at 25 1 = some (.invokestatic 58, 3, [40, 1, 516, 0]) := by decide +kernel
theorem r25_4 : am_at 25 4 = some (.ifCond .eq (17), 3, [21]) := by decide +kernel
theorem r25_7 : am_at 25 7 = some (.iload_n 2, 1, [2]) := by decide +kernel
theorem r25_8 : am_at 25 8 = some (.invokestatic 58, 3, [40, 1, 516, 0]) := by decide +kernel
theorem r25_11 : am_at 25 11 = some (.ifCond .eq (10), 3, [21]) := by decide +kernel
theorem r25_14 : am_at 25 14 = some (.iload_n 3, 1, [3]) := by decide +kernel
theorem r25_15 : am_at 25 15 = some (.invokestatic 62, 3, [41, 1, 460, 0]) := by decide +kernel
theorem r25_18 : am_at 25 18 = some (.ifCond .ne (13), 3, [31]) := by decide +kernel
theorem r25_21 : am_at 25 21 = some (.new 65, 3, [9, 1, 0, 67, 69, 463, 34, 11, 473]) := by decide +kernel
theorem r25_31 : am_at 25 31 = some (.aload_n 0, 1, [0]) := by decide +kernel
theorem r25_32 : am_at 25 32 = some (.getfield 36, 3, [7, 4, 3, 261]) := by decide +kernel
theorem r25_35 : am_at 25 35 = some (.aload_n 0, 1, [0]) := by decide +kernel
theorem r25_36 : am_at 25 36 = some (.getfield 10, 3, [7, 0, 3, 257]) := by decide +kernel
theorem r25_39 : am_at 25 39 = some (.iload_n 1, 1, [1]) := by decide +kernel
theorem r25_40 : am_at 25 40 = some (.invokevirtual 350, 3, [189, 3, 856, 0]) := by decide +kernel
theorem r25_43 : am_at 25 43 = some (.iload_n 2, 1, [2]) := by decide +kernel
theorem r25_44 : am_at 25 44 = some (.iload_n 1, 1, [1]) := by decide +kernel
theorem r25_45 : am_at 25 45 = some (.if_icmp .eq (21), 3, [66]) := by decide +kernel
theorem r25_48 : am_at 25 48 = some (.aload_n 0, 1, [0]) := by decide +kernel
theorem r25_49 : am_at 25 49 = some (.getfield 36, 3, [7, 4, 3, 261]) := by decide +kernel
theorem r25_52 : am_at 25 52 = some (.iload_n 2, 1, [2]) := by decide +kernel
theorem r25_53 : am_at 25 53 = some (.aload_n 0, 1, [0]) := by decide +kernel
theorem r25_54 : am_at 25 54 = some (.getfield 36, 3, [7, 4, 3, 261]) := by decide +kernel
theorem r25_57 : am_at 25 57 = some (.iload_n 3, 1, [3]) := by decide +kernel
theorem r25_58 : am_at 25 58 = some (.invokevirtual 361, 3, [190, 2, 920, 0]) := by decide +kernel
theorem r25_61 : am_at 25 61 = some (.invokevirtual 364, 3, [199, 3, 924, 0]) := by decide +kernel
theorem r25_64 : am_at 25 64 = some (.l2i, 1, []) := by decide +kernel
theorem r25_65 : am_at 25 65 = some (.ireturn, 1, []) := by decide +kernel
theorem r25_66 : am_at 25 66 = some (.aload_n 0, 1, [0]) := by decide +kernel
theorem r25_67 : am_at 25 67 = some (.getfield 10, 3, [7, 0, 3, 257]) := by decide +kernel
theorem r25_70 : am_at 25 70 = some (.iload_n 3, 1, [3]) := by decide +kernel
theorem r25_71 : am_at 25 71 = some (.invokevirtual 242, 3, [203, 2, 484, 0]) := by decide +kernel
theorem r25_74 : am_at 25 74 = some (.iload_n 1, 1, [1]) := by decide +kernel
theorem r25_75 : am_at 25 75 = some (.if_icmp .ne (14), 3, [89]) := by decide +kernel
theorem r25_78 : am_at 25 78 = some (.aload_n 0, 1, [0]) := by decide +kernel
theorem r25_79 : am_at 25 79 = some (.getfield 36, 3, [7, 4, 3, 261]) := by decide +kernel
theorem r25_82 : am_at 25 82 = some (.invokevirtual 358, 3, [196, 1, 890, 0]) := by decide +kernel
theorem r25_85 : am_at 25 85 = some (.l2i, 1, []) := by decide +kernel
theorem r25_86 : am_at 25 86 = some (.goto (4), 3, [90]) := by decide +kernel
theorem r25_89 : am_at 25 89 = some (.iconst (0), 1, []) := by decide +kernel
theorem r25_90 : am_at 25 90 = some (.ireturn, 1, []) := by decide +kernel
theorem rt25 : am_rtt 25 = some (some .int) := by decide +kernel
set_option maxRecDepth 100000 in
theorem pg25 : am_pg[25]? = some am_m25 := rfl
theorem m25_w {d mc ms : Nat} {N : Nat} {D : am_D} {v1 : Int32} {v2 : Int32} {v3 : Int32} {Q : am_O → am_AH → Prop} (hd : 5 ≤ d) {r : (Int32 ⊕ Nat) × am_D} (h : m25 N D v1 v2 v3 = some r) (hE : ∀ E, r.1 = .inr E → 0 + 1 ≤ mc ∧ 0 + 6 ≤ ms) (hQ : Q (am_oI r.1) (am_mk r.2)) : am_X xs L 25 d mc ms 0 [.ref 0, .int v1, .int v2, .int v3] [] (am_mk D) 0 0 Q := by
  unfold m25 at h
  refine x_ld (v := .int v1) r25_0 rfl rfl rfl ?_
  refine x_call1 (as := [.int v1]) (rest := []) r25_1 rfl rfl rfl (by decide) (Nat.le_of_ble_eq_true rfl) (m40_ok rfl) (Nat.le_trans (by decide) hd) (Nat.zero_le _) (Nat.zero_le _) rfl ?_
  rcases am_ifE h with ⟨c1, h⟩ | ⟨c1, h⟩
  · refine x_ifeqT r25_4 c1 ?_
    cases h
    exact x_thr r25_21 (hE _ rfl).1 (hE _ rfl).2 (Nat.le_of_ble_eq_true rfl) hQ
  · refine x_ifeqF r25_4 c1 rfl ?_
    refine x_ld (v := .int v2) r25_7 rfl rfl rfl ?_
    refine x_call1 (as := [.int v2]) (rest := []) r25_8 rfl rfl rfl (by decide) (Nat.le_of_ble_eq_true rfl) (m40_ok rfl) (Nat.le_trans (by decide) hd) (Nat.zero_le _) (Nat.zero_le _) rfl ?_
    rcases am_ifE h with ⟨c2, h⟩ | ⟨c2, h⟩
    · refine x_ifeqT r25_11 c2 ?_
      cases h
      exact x_thr r25_21 (hE _ rfl).1 (hE _ rfl).2 (Nat.le_of_ble_eq_true rfl) hQ
    · refine x_ifeqF r25_11 c2 rfl ?_
      refine x_ld (v := .int v3) r25_14 rfl rfl rfl ?_
      refine x_call1 (as := [.int v3]) (rest := []) r25_15 rfl rfl rfl (by decide) (Nat.le_of_ble_eq_true rfl) (m41_ok rfl) (Nat.le_trans (by decide) hd) (Nat.zero_le _) (Nat.zero_le _) rfl ?_
      rcases am_ifE h with ⟨c3, h⟩ | ⟨c3, h⟩
      · refine x_ifneT r25_18 c3 rfl ?_
        cases h
        exact x_thr r25_21 (hE _ rfl).1 (hE _ rfl).2 (Nat.le_of_ble_eq_true rfl) hQ
      · refine x_ifneF r25_18 c3 ?_
        refine x_ld (v := .ref 0) r25_31 rfl rfl rfl ?_
        refine y_gf (cd := 95) (v := .ref 93) r25_32 rfl rfl rfl ?_
        refine x_ld (v := .ref 0) r25_35 rfl rfl rfl ?_
        refine y_gf (cd := 3) (v := .ref 1) r25_36 rfl rfl rfl ?_
        refine x_ld (v := .int v1) r25_39 rfl rfl rfl ?_
        obtain ⟨q4, h5, h⟩ := Option.bind_eq_some_iff.mp h
        refine x_call0 (as := [.ref 93, .ref 1, .int v1]) (rest := []) r25_40 rfl rfl rfl (by decide) (Nat.le_of_ble_eq_true rfl) (m189_ok h5) (Nat.le_trans (by decide) hd) (Nat.zero_le _) (Nat.zero_le _) rfl ?_
        refine x_ld (v := .int v2) r25_43 rfl rfl rfl ?_
        refine x_ld (v := .int v1) r25_44 rfl rfl rfl ?_
        rcases am_ifE h with ⟨c6, h⟩ | ⟨c6, h⟩
        · refine x_iceqT r25_45 c6 ?_
          refine x_ld (v := .ref 0) r25_66 rfl rfl rfl ?_
          refine y_gf (cd := 3) (v := .ref 1) r25_67 rfl rfl rfl ?_
          refine x_ld (v := .int v3) r25_70 rfl rfl rfl ?_
          refine x_call1 (as := [.ref 1, .int v3]) (rest := []) r25_71 rfl rfl rfl (by decide) (Nat.le_of_ble_eq_true rfl) (m203_ok rfl) (Nat.le_trans (by decide) hd) (Nat.zero_le _) (Nat.zero_le _) rfl ?_
          refine x_ld (v := .int v1) r25_74 rfl rfl rfl ?_
          rcases am_ifE h with ⟨c7, h⟩ | ⟨c7, h⟩
          · refine x_icneT r25_75 c7 rfl ?_
            refine x_ld (v := .ref 0) r25_78 rfl rfl rfl ?_
            refine y_gf (cd := 95) (v := .ref 93) r25_79 rfl rfl rfl ?_
            obtain ⟨q8, h9, h⟩ := Option.bind_eq_some_iff.mp h
            refine x_call1 (as := [.ref 93]) (rest := []) r25_82 rfl rfl rfl (by decide) (Nat.le_of_ble_eq_true rfl) (m196_ok h9) (Nat.le_trans (by decide) hd) (Nat.zero_le _) (Nat.zero_le _) rfl ?_
            refine x_ar r25_85 rfl trivial rfl ?_
            refine x_goto r25_86 ?_
            cases h
            exact x_ret (ret := some .int) (C := True) (v := some (.int _)) r25_90 rt25 rfl rfl rfl rfl rfl rfl rfl rfl trivial hQ
          · refine x_icneF r25_75 c7 ?_
            refine x_ic (v := 0) r25_89 rfl rfl ?_
            cases h
            exact x_ret (ret := some .int) (C := True) (v := some (.int _)) r25_90 rt25 rfl rfl rfl rfl rfl rfl rfl rfl trivial hQ
        · refine x_iceqF r25_45 c6 rfl ?_
          refine x_ld (v := .ref 0) r25_48 rfl rfl rfl ?_
          refine y_gf (cd := 95) (v := .ref 93) r25_49 rfl rfl rfl ?_
          refine x_ld (v := .int v2) r25_52 rfl rfl rfl ?_
          refine x_ld (v := .ref 0) r25_53 rfl rfl rfl ?_
          refine y_gf (cd := 95) (v := .ref 93) r25_54 rfl rfl rfl ?_
          refine x_ld (v := .int v3) r25_57 rfl rfl rfl ?_
          refine x_call1 (as := [.ref 93, .int v3]) (rest := [.int v2, .ref 93]) r25_58 rfl rfl rfl (by decide) (Nat.le_of_ble_eq_true rfl) (m190_ok rfl) (Nat.le_trans (by decide) hd) (Nat.zero_le _) (Nat.zero_le _) rfl ?_
          obtain ⟨q10, h11, h⟩ := Option.bind_eq_some_iff.mp h
          refine x_call1 (as := [.ref 93, .int v2, .int (m190 q4 v3)]) (rest := []) r25_61 rfl rfl rfl (by decide) (Nat.le_of_ble_eq_true rfl) (m199_ok h11) (Nat.le_trans (by decide) hd) (Nat.zero_le _) (Nat.zero_le _) rfl ?_
          refine x_ar r25_64 rfl trivial rfl ?_
          cases h
          exact x_ret (ret := some .int) (C := True) (v := some (.int _)) r25_65 rt25 rfl rfl rfl rfl rfl rfl rfl rfl trivial hQ
theorem m25_okv {N : Nat} {D : am_D} {v1 : Int32} {v2 : Int32} {v3 : Int32} {r : (Int32 ⊕ Nat) × am_D} {v : Int32} (h : m25 N D v1 v2 v3 = some r) (hv : am_inl r.1 = some v) : am_Y xs L 25 5 0 0 [.ref 0, .int v1, .int v2, .int v3] D (.inl (some (.int v))) r.2 := am_Yof (mi := am_m25) (lc := [.ref 0, .int v1, .int v2, .int v3]) pg25 (Nat.le_of_ble_eq_true rfl) (am_rc1 (ci := 7) rfl rfl rfl rfl rfl) rfl (fun Q hQ => m25_w (Nat.le_refl _) h (fun E e => by rw [e] at hv; cases hv) (by rw [am_inlE hv]; exact hQ))
theorem m25_exv {N : Nat} {D : am_D} {v1 : Int32} {v2 : Int32} {v3 : Int32} {r : (Int32 ⊕ Nat) × am_D} {E : Nat} (h : m25 N D v1 v2 v3 = some r) (hv : r.1 = .inr E) : am_Y xs L 25 5 1 6 [.ref 0, .int v1, .int v2, .int v3] D (.inr E) r.2 := am_Yof (mi := am_m25) (lc := [.ref 0, .int v1, .int v2, .int v3]) pg25 (Nat.le_of_ble_eq_true rfl) (am_rc1 (ci := 7) rfl rfl rfl rfl rfl) rfl (fun Q hQ => m25_w (Nat.le_refl _) h (fun E e => ⟨Nat.le_refl _, Nat.le_refl _⟩) (by rw [hv]; exact hQ))
theorem r26_0 : am_at 26 0 = some (.iload_n 1, 1, [1]) := by decide +kernel
theorem r26_1 : am_at 26 1 = some (.invokestatic 58, 3, [40, 1, 516, 0]) := by decide +kernel
theorem r26_4 : am_at 26 4 = some (.ifCond .eq (10), 3, [14]) := by decide +kernel
theorem r26_7 : am_at 26 7 = some (.iload_n 2, 1, [2]) := by decide +kernel
theorem r26_8 : am_at 26 8 = some (.invokestatic 58, 3, [40, 1, 516, 0]) := by decide +kernel
theorem r26_11 : am_at 26 11 = some (.ifCond .ne (13), 3, [24]) := by decide +kernel
theorem r26_14 : am_at 26 14 = some (.new 65, 3, [9, 1, 0, 107, 69, 463, 34, 6, 473]) := by decide +kernel
theorem r26_24 : am_at 26 24 = some (.aload_n 0, 1, [0]) := by decide +kernel
theorem r26_25 : am_at 26 25 = some (.getfield 36, 3, [7, 4, 3, 261]) := by decide +kernel
theorem r26_28 : am_at 26 28 = some (.aload_n 0, 1, [0]) := by decide +kernel
theorem r26_29 : am_at 26 29 = some (.getfield 10, 3, [7, 0, 3, 257]) := by decide +kernel
theorem r26_32 : am_at 26 32 = some (.iload_n 1, 1, [1]) := by decide +kernel
theorem r26_33 : am_at 26 33 = some (.invokevirtual 350, 3, [189, 3, 856, 0]) := by decide +kernel
theorem r26_36 : am_at 26 36 = some (.aload_n 0, 1, [0]) := by decide +kernel
theorem r26_37 : am_at 26 37 = some (.getfield 36, 3, [7, 4, 3, 261]) := by decide +kernel
theorem r26_40 : am_at 26 40 = some (.invokevirtual 358, 3, [196, 1, 890, 0]) := by decide +kernel
theorem r26_43 : am_at 26 43 = some (.lstore_n 3, 1, [3]) := by decide +kernel
theorem r26_44 : am_at 26 44 = some (.lload_n 3, 1, [3]) := by decide +kernel
theorem r26_45 : am_at 26 45 = some (.lconst 0, 1, []) := by decide +kernel
theorem r26_46 : am_at 26 46 = some (.lcmp, 1, []) := by decide +kernel
theorem r26_47 : am_at 26 47 = some (.ifCond .ne (5), 3, [52]) := by decide +kernel
theorem r26_50 : am_at 26 50 = some (.iconst (0), 1, []) := by decide +kernel
theorem r26_51 : am_at 26 51 = some (.ireturn, 1, []) := by decide +kernel
theorem r26_52 : am_at 26 52 = some (.iload_n 2, 1, [2]) := by decide +kernel
theorem r26_53 : am_at 26 53 = some (.iload_n 1, 1, [1]) := by decide +kernel
theorem r26_54 : am_at 26 54 = some (.if_icmp .ne (14), 3, [68]) := by decide +kernel
theorem r26_57 : am_at 26 57 = some (.aload_n 0, 1, [0]) := by decide +kernel
theorem r26_58 : am_at 26 58 = some (.getfield 10, 3, [7, 0, 3, 257]) := by decide +kernel
theorem r26_61 : am_at 26 61 = some (.iload_n 2, 1, [2]) := by decide +kernel
theorem r26_62 : am_at 26 62 = some (.invokevirtual 89, 3, [204, 2, 419, 0]) := by decide +kernel
theorem r26_65 : am_at 26 65 = some (.goto (12), 3, [77]) := by decide +kernel
theorem r26_68 : am_at 26 68 = some (.aload_n 0, 1, [0]) := by decide +kernel
theorem r26_69 : am_at 26 69 = some (.getfield 36, 3, [7, 4, 3, 261]) := by decide +kernel
theorem r26_72 : am_at 26 72 = some (.iload_n 2, 1, [2]) := by decide +kernel
theorem r26_73 : am_at 26 73 = some (.lload_n 3, 1, [3]) := by decide +kernel
theorem r26_74 : am_at 26 74 = some (.invokevirtual 368, 3, [200, 3, 907, 0]) := by decide +kernel
theorem r26_77 : am_at 26 77 = some (.ireturn, 1, []) := by decide +kernel
theorem rt26 : am_rtt 26 = some (some .int) := by decide +kernel
set_option maxRecDepth 100000 in
theorem pg26 : am_pg[26]? = some am_m26 := rfl
theorem m26_w {d mc ms : Nat} {N : Nat} {D : am_D} {v1 : Int32} {v2 : Int32} {Q : am_O → am_AH → Prop} (hd : 6 ≤ d) {r : (Int32 ⊕ Nat) × am_D} (h : m26 N D v1 v2 = some r) (hE : ∀ E, r.1 = .inr E → 0 + 1 ≤ mc ∧ 0 + 6 ≤ ms) (hQ : Q (am_oI r.1) (am_mk r.2)) : am_X xs L 26 d mc ms 0 [.ref 0, .int v1, .int v2, am_dead, am_dead] [] (am_mk D) 0 0 Q := by
  unfold m26 at h
  refine x_ld (v := .int v1) r26_0 rfl rfl rfl ?_
  refine x_call1 (as := [.int v1]) (rest := []) r26_1 rfl rfl rfl (by decide) (Nat.le_of_ble_eq_true rfl) (m40_ok rfl) (Nat.le_trans (by decide) hd) (Nat.zero_le _) (Nat.zero_le _) rfl ?_
  rcases am_ifE h with ⟨c1, h⟩ | ⟨c1, h⟩
  · refine x_ifeqT r26_4 c1 ?_
    cases h
    exact x_thr r26_14 (hE _ rfl).1 (hE _ rfl).2 (Nat.le_of_ble_eq_true rfl) hQ
  · refine x_ifeqF r26_4 c1 rfl ?_
    refine x_ld (v := .int v2) r26_7 rfl rfl rfl ?_
    refine x_call1 (as := [.int v2]) (rest := []) r26_8 rfl rfl rfl (by decide) (Nat.le_of_ble_eq_true rfl) (m40_ok rfl) (Nat.le_trans (by decide) hd) (Nat.zero_le _) (Nat.zero_le _) rfl ?_
    rcases am_ifE h with ⟨c2, h⟩ | ⟨c2, h⟩
    · refine x_ifneT r26_11 c2 rfl ?_
      cases h
      exact x_thr r26_14 (hE _ rfl).1 (hE _ rfl).2 (Nat.le_of_ble_eq_true rfl) hQ
    · refine x_ifneF r26_11 c2 ?_
      refine x_ld (v := .ref 0) r26_24 rfl rfl rfl ?_
      refine y_gf (cd := 95) (v := .ref 93) r26_25 rfl rfl rfl ?_
      refine x_ld (v := .ref 0) r26_28 rfl rfl rfl ?_
      refine y_gf (cd := 3) (v := .ref 1) r26_29 rfl rfl rfl ?_
      refine x_ld (v := .int v1) r26_32 rfl rfl rfl ?_
      obtain ⟨q3, h4, h⟩ := Option.bind_eq_some_iff.mp h
      refine x_call0 (as := [.ref 93, .ref 1, .int v1]) (rest := []) r26_33 rfl rfl rfl (by decide) (Nat.le_of_ble_eq_true rfl) (m189_ok h4) (Nat.le_trans (by decide) hd) (Nat.zero_le _) (Nat.zero_le _) rfl ?_
      refine x_ld (v := .ref 0) r26_36 rfl rfl rfl ?_
      refine y_gf (cd := 95) (v := .ref 93) r26_37 rfl rfl rfl ?_
      obtain ⟨q5, h6, h⟩ := Option.bind_eq_some_iff.mp h
      refine x_call1 (as := [.ref 93]) (rest := []) r26_40 rfl rfl rfl (by decide) (Nat.le_of_ble_eq_true rfl) (m196_ok h6) (Nat.le_trans (by decide) hd) (Nat.zero_le _) (Nat.zero_le _) rfl ?_
      refine x_sto (lc' := [.ref 0, .int v1, .int v2, .long q5, am_dead]) r26_43 rfl rfl rfl rfl ?_
      refine x_ld (v := .long q5) r26_44 rfl rfl rfl ?_
      refine x_ar r26_45 rfl trivial rfl ?_
      refine x_ar r26_46 rfl trivial rfl ?_
      rcases am_ifE h with ⟨c7, h⟩ | ⟨c7, h⟩
      · refine x_ifneT r26_47 c7 rfl ?_
        refine x_ic (v := 0) r26_50 rfl rfl ?_
        cases h
        exact x_ret (ret := some .int) (C := True) (v := some (.int _)) r26_51 rt26 rfl rfl rfl rfl rfl rfl rfl rfl trivial hQ
      · refine x_ifneF r26_47 c7 ?_
        refine x_ld (v := .int v2) r26_52 rfl rfl rfl ?_
        refine x_ld (v := .int v1) r26_53 rfl rfl rfl ?_
        rcases am_ifE h with ⟨c8, h⟩ | ⟨c8, h⟩
        · refine x_icneT r26_54 c8 rfl ?_
          refine x_ld (v := .ref 0) r26_57 rfl rfl rfl ?_
          refine y_gf (cd := 3) (v := .ref 1) r26_58 rfl rfl rfl ?_
          refine x_ld (v := .int v2) r26_61 rfl rfl rfl ?_
          obtain ⟨q9, h10, h⟩ := Option.bind_eq_some_iff.mp h
          refine x_call1 (as := [.ref 1, .int v2]) (rest := []) r26_62 rfl rfl rfl (by decide) (Nat.le_of_ble_eq_true rfl) (m204_ok h10) (Nat.le_trans (by decide) hd) (Nat.zero_le _) (Nat.zero_le _) rfl ?_
          refine x_goto r26_65 ?_
          cases h
          exact x_ret (ret := some .int) (C := True) (v := some (.int _)) r26_77 rt26 rfl rfl rfl rfl rfl rfl rfl rfl trivial hQ
        · refine x_icneF r26_54 c8 ?_
          refine x_ld (v := .ref 0) r26_68 rfl rfl rfl ?_
          refine y_gf (cd := 95) (v := .ref 93) r26_69 rfl rfl rfl ?_
          refine x_ld (v := .int v2) r26_72 rfl rfl rfl ?_
          refine x_ld (v := .long q5) r26_73 rfl rfl rfl ?_
          obtain ⟨q11, h12, h⟩ := Option.bind_eq_some_iff.mp h
          refine x_call1 (as := [.ref 93, .int v2, .long q5]) (rest := []) r26_74 rfl rfl rfl (by decide) (Nat.le_of_ble_eq_true rfl) (m200_ok h12) (Nat.le_trans (by decide) hd) (Nat.zero_le _) (Nat.zero_le _) rfl ?_
          cases h
          exact x_ret (ret := some .int) (C := True) (v := some (.int _)) r26_77 rt26 rfl rfl rfl rfl rfl rfl rfl rfl trivial hQ
theorem m26_okv {N : Nat} {D : am_D} {v1 : Int32} {v2 : Int32} {r : (Int32 ⊕ Nat) × am_D} {v : Int32} (h : m26 N D v1 v2 = some r) (hv : am_inl r.1 = some v) : am_Y xs L 26 6 0 0 [.ref 0, .int v1, .int v2] D (.inl (some (.int v))) r.2 := am_Yof (mi := am_m26) (lc := [.ref 0, .int v1, .int v2, am_dead, am_dead]) pg26 (Nat.le_of_ble_eq_true rfl) (am_rc1 (ci := 7) rfl rfl rfl rfl rfl) rfl (fun Q hQ => m26_w (Nat.le_refl _) h (fun E e => by rw [e] at hv; cases hv) (by rw [am_inlE hv]; exact hQ))
theorem m26_exv {N : Nat} {D : am_D} {v1 : Int32} {v2 : Int32} {r : (Int32 ⊕ Nat) × am_D} {E : Nat} (h : m26 N D v1 v2 = some r) (hv : r.1 = .inr E) : am_Y xs L 26 6 1 6 [.ref 0, .int v1, .int v2] D (.inr E) r.2 := am_Yof (mi := am_m26) (lc := [.ref 0, .int v1, .int v2, am_dead, am_dead]) pg26 (Nat.le_of_ble_eq_true rfl) (am_rc1 (ci := 7) rfl rfl rfl rfl rfl) rfl (fun Q hQ => m26_w (Nat.le_refl _) h (fun E e => ⟨Nat.le_refl _, Nat.le_refl _⟩) (by rw [hv]; exact hQ))
end XE
