/-! methods as functions, with their walks (by wip/tools/decomp.py): 15 15 15 36 40 41 42 43 45 46 47 48 49 50 51 52 53 54 55 56 57 58 59 60 61 62 63 64 65 -/
section XE
variable {xs : Nat → Int32} {L : Nat}
theorem r152_0 : am_at 152 0 = some (.aload_n 1, 1, [1]) := by decide +kernel
theorem r152_1 : am_at 152 1 = some (.getfield 9, 3, [0, 0, 3, 132]) := by decide +kernel
theorem r152_4 : am_at 152 4 = some (.aload_n 0, 1, [0]) := by decide +kernel
theorem r152_5 : am_at 152 5 = some (.getfield 9, 3, [0, 0, 3, 132]) := by decide +kernel
theorem r152_8 : am_at 152 8 = some (.invokestatic 31, 3, [184, 2, 377, 0]) := by decide +kernel
theorem r152_11 : am_at 152 11 = some (.aload_n 1, 1, [1]) := by decide +kernel
theorem r152_12 : am_at 152 12 = some (.getfield 15, 3, [0, 1, 3, 134]) := by decide +kernel
theorem r152_15 : am_at 152 15 = some (.aload_n 0, 1, [0]) := by decide +kernel
theorem r152_16 : am_at 152 16 = some (.getfield 15, 3, [0, 1, 3, 134]) := by decide +kernel
theorem r152_19 : am_at 152 19 = some (.invokestatic 31, 3, [184, 2, 377, 0]) := by decide +kernel
theorem r152_22 : am_at 152 22 = some (.aload_n 1, 1, [1]) := by decide +kernel
theorem r152_23 : am_at 152 23 = some (.getfield 18, 3, [0, 2, 3, 136]) := by decide +kernel
theorem r152_26 : am_at 152 26 = some (.aload_n 0, 1, [0]) := by decide +kernel
theorem r152_27 : am_at 152 27 = some (.getfield 18, 3, [0, 2, 3, 136]) := by decide +kernel
theorem r152_30 : am_at 152 30 = some (.invokestatic 31, 3, [184, 2, 377, 0]) := by decide +kernel
theorem r152_33 : am_at 152 33 = some (.aload_n 1, 1, [1]) := by decide +kernel
theorem r152_34 : am_at 152 34 = some (.getfield 21, 3, [0, 3, 3, 138]) := by decide +kernel
theorem r152_37 : am_at 152 37 = some (.aload_n 0, 1, [0]) := by decide +kernel
theorem r152_38 : am_at 152 38 = some (.getfield 21, 3, [0, 3, 3, 138]) := by decide +kernel
theorem r152_41 : am_at 152 41 = some (.invokestatic 31, 3, [184, 2, 377, 0]) := by decide +kernel
theorem r152_44 : am_at 152 44 = some (.aload_n 0, 1, [0]) := by decide +kernel
theorem r152_45 : am_at 152 45 = some (.aload_n 1, 1, [1]) := by decide +kernel
theorem r152_46 : am_at 152 46 = some (.getfield 37, 3, [0, 4, 0, 140]) := by decide +kernel
theorem r152_49 : am_at 152 49 = some (.putfield 37, 3, [0, 4, 0, 140]) := by decide +kernel
theorem r152_52 : am_at 152 52 = some (.aload_n 0, 1, [0]) := by decide +kernel
theorem r152_53 : am_at 152 53 = some (.aload_n 1, 1, [1]) := by decide +kernel
theorem r152_54 : am_at 152 54 = some (.getfield 24, 3, [0, 5, 0, 142]) := by decide +kernel
theorem r152_57 : am_at 152 57 = some (.putfield 24, 3, [0, 5, 0, 142]) := by decide +kernel
theorem r152_60 : am_at 152 60 = some (.aload_n 0, 1, [0]) := by decide +kernel
theorem r152_61 : am_at 152 61 = some (.aload_n 1, 1, [1]) := by decide +kernel
theorem r152_62 : am_at 152 62 = some (.getfield 28, 3, [0, 6, 0, 143]) := by decide +kernel
theorem r152_65 : am_at 152 65 = some (.putfield 28, 3, [0, 6, 0, 143]) := by decide +kernel
theorem r152_68 : am_at 152 68 = some (.return_, 1, []) := by decide +kernel
theorem rt152 : am_rtt 152 = some (none) := by decide +kernel
set_option maxRecDepth 100000 in
theorem pg152 : am_pg[152]? = some am_m152 := rfl
theorem m152_13_2_w {d mc ms : Nat} {D : am_D} {Q : am_O → am_AH → Prop} (hd : 2 ≤ d) {r : am_D} (h : m152_13_2 D = r) (hQ : Q (.inl none) (am_mk r)) : am_X xs L 152 d mc ms 0 [.ref 13, .ref 2] [] (am_mk D) 0 0 Q := by
  unfold m152_13_2 at h
  refine x_ld (v := .ref 2) r152_0 rfl rfl rfl ?_
  refine y_gf (cd := 5) (v := .ref 3) r152_1 rfl rfl rfl ?_
  refine x_ld (v := .ref 13) r152_4 rfl rfl rfl ?_
  refine y_gf (cd := 16) (v := .ref 14) r152_5 rfl rfl rfl ?_
  obtain ⟨D1, e2, h⟩ := am_ltE h
  refine x_call0 (as := [.ref 3, .ref 14]) (rest := []) r152_8 rfl rfl rfl (by decide) (Nat.le_of_ble_eq_true rfl) (am_rows_copy (n := 28) (m := 28) rfl rfl (by decide) (by decide) e2) (Nat.le_trans (by decide) hd) (Nat.zero_le _) (Nat.zero_le _) rfl ?_
  refine x_ld (v := .ref 2) r152_11 rfl rfl rfl ?_
  refine y_gf (cd := 6) (v := .ref 4) r152_12 rfl rfl rfl ?_
  refine x_ld (v := .ref 13) r152_15 rfl rfl rfl ?_
  refine y_gf (cd := 17) (v := .ref 15) r152_16 rfl rfl rfl ?_
  obtain ⟨D3, e4, h⟩ := am_ltE h
  refine x_call0 (as := [.ref 4, .ref 15]) (rest := []) r152_19 rfl rfl rfl (by decide) (Nat.le_of_ble_eq_true rfl) (am_rows_copy (n := 28) (m := 28) rfl rfl (by decide) (by decide) e4) (Nat.le_trans (by decide) hd) (Nat.zero_le _) (Nat.zero_le _) rfl ?_
  refine x_ld (v := .ref 2) r152_22 rfl rfl rfl ?_
  refine y_gf (cd := 7) (v := .ref 5) r152_23 rfl rfl rfl ?_
  refine x_ld (v := .ref 13) r152_26 rfl rfl rfl ?_
  refine y_gf (cd := 18) (v := .ref 16) r152_27 rfl rfl rfl ?_
  obtain ⟨D5, e6, h⟩ := am_ltE h
  refine x_call0 (as := [.ref 5, .ref 16]) (rest := []) r152_30 rfl rfl rfl (by decide) (Nat.le_of_ble_eq_true rfl) (am_rows_copy (n := 28) (m := 28) rfl rfl (by decide) (by decide) e6) (Nat.le_trans (by decide) hd) (Nat.zero_le _) (Nat.zero_le _) rfl ?_
  refine x_ld (v := .ref 2) r152_33 rfl rfl rfl ?_
  refine y_gf (cd := 8) (v := .ref 6) r152_34 rfl rfl rfl ?_
  refine x_ld (v := .ref 13) r152_37 rfl rfl rfl ?_
  refine y_gf (cd := 19) (v := .ref 17) r152_38 rfl rfl rfl ?_
  obtain ⟨D7, e8, h⟩ := am_ltE h
  refine x_call0 (as := [.ref 6, .ref 17]) (rest := []) r152_41 rfl rfl rfl (by decide) (Nat.le_of_ble_eq_true rfl) (am_rows_copy (n := 28) (m := 28) rfl rfl (by decide) (by decide) e8) (Nat.le_trans (by decide) hd) (Nat.zero_le _) (Nat.zero_le _) rfl ?_
  refine x_ld (v := .ref 13) r152_44 rfl rfl rfl ?_
  refine x_ld (v := .ref 2) r152_45 rfl rfl rfl ?_
  refine y_gf (cd := 0) (v := .int (D7.1 2 4)) r152_46 rfl rfl rfl ?_
  obtain ⟨D9, e10, h⟩ := am_ltE h
  refine y_pf0 r152_49 rfl e10 rfl ?_
  refine x_ld (v := .ref 13) r152_52 rfl rfl rfl ?_
  refine x_ld (v := .ref 2) r152_53 rfl rfl rfl ?_
  refine y_gf (cd := 0) (v := .int (D9.1 2 5)) r152_54 rfl rfl rfl ?_
  obtain ⟨D11, e12, h⟩ := am_ltE h
  refine y_pf0 r152_57 rfl e12 rfl ?_
  refine x_ld (v := .ref 13) r152_60 rfl rfl rfl ?_
  refine x_ld (v := .ref 2) r152_61 rfl rfl rfl ?_
  refine y_gf (cd := 0) (v := .int (D11.1 2 6)) r152_62 rfl rfl rfl ?_
  obtain ⟨D13, e14, h⟩ := am_ltE h
  refine y_pf0 r152_65 rfl e14 rfl ?_
  subst h
  exact x_ret (ret := none) (C := True) (v := none) r152_68 rt152 rfl rfl rfl rfl rfl rfl rfl rfl trivial hQ
theorem m152_13_2_ok {D : am_D} {r : am_D} (h : m152_13_2 D = r) : am_Y xs L 152 2 0 0 [.ref 13, .ref 2] D (.inl none) r := am_Yof (mi := am_m152) (lc := [.ref 13, .ref 2]) pg152 (Nat.le_of_ble_eq_true rfl) (am_rc1 (ci := 0) rfl rfl rfl rfl rfl) rfl (fun Q hQ => m152_13_2_w (Nat.le_refl _) h hQ)
theorem r202_0 : am_at 202 0 = some (.aload_n 0, 1, [0]) := by decide +kernel
theorem r202_1 : am_at 202 1 = some (.getfield 12, 3, [4, 0, 3, 160]) := by decide +kernel
theorem r202_4 : am_at 202 4 = some (.aload_n 1, 1, [1]) := by decide +kernel
theorem r202_5 : am_at 202 5 = some (.getfield 12, 3, [4, 0, 3, 160]) := by decide +kernel
theorem r202_8 : am_at 202 8 = some (.invokevirtual 50, 3, [152, 2, 373, 0]) := by decide +kernel
theorem r202_11 : am_at 202 11 = some (.aload_n 1, 1, [1]) := by decide +kernel
theorem r202_12 : am_at 202 12 = some (.getfield 18, 3, [4, 1, 3, 163]) := by decide +kernel
theorem r202_15 : am_at 202 15 = some (.aload_n 0, 1, [0]) := by decide +kernel
theorem r202_16 : am_at 202 16 = some (.getfield 18, 3, [4, 1, 3, 163]) := by decide +kernel
theorem r202_19 : am_at 202 19 = some (.invokestatic 54, 3, [184, 2, 386, 0]) := by decide +kernel
theorem r202_22 : am_at 202 22 = some (.aload_n 1, 1, [1]) := by decide +kernel
theorem r202_23 : am_at 202 23 = some (.getfield 22, 3, [4, 2, 3, 164]) := by decide +kernel
theorem r202_26 : am_at 202 26 = some (.aload_n 0, 1, [0]) := by decide +kernel
theorem r202_27 : am_at 202 27 = some (.getfield 22, 3, [4, 2, 3, 164]) := by decide +kernel
theorem r202_30 : am_at 202 30 = some (.invokestatic 54, 3, [184, 2, 386, 0]) := by decide +kernel
theorem r202_33 : am_at 202 33 = some (.aload_n 1, 1, [1]) := by decide +kernel
theorem r202_34 : am_at 202 34 = some (.getfield 25, 3, [4, 3, 3, 166]) := by decide +kernel
theorem r202_37 : am_at 202 37 = some (.aload_n 0, 1, [0]) := by decide +kernel
theorem r202_38 : am_at 202 38 = some (.getfield 25, 3, [4, 3, 3, 166]) := by decide +kernel
theorem r202_41 : am_at 202 41 = some (.invokestatic 54, 3, [184, 2, 386, 0]) := by decide +kernel
theorem r202_44 : am_at 202 44 = some (.aload_n 1, 1, [1]) := by decide +kernel
theorem r202_45 : am_at 202 45 = some (.getfield 28, 3, [4, 4, 3, 169]) := by decide +kernel
theorem r202_48 : am_at 202 48 = some (.aload_n 0, 1, [0]) := by decide +kernel
theorem r202_49 : am_at 202 49 = some (.getfield 28, 3, [4, 4, 3, 169]) := by decide +kernel
theorem r202_52 : am_at 202 52 = some (.invokestatic 54, 3, [184, 2, 386, 0]) := by decide +kernel
theorem r202_55 : am_at 202 55 = some (.aload_n 1, 1, [1]) := by decide +kernel
theorem r202_56 : am_at 202 56 = some (.getfield 31, 3, [4, 5, 3, 171]) := by decide +kernel
theorem r202_59 : am_at 202 59 = some (.aload_n 0, 1, [0]) := by decide +kernel
theorem r202_60 : am_at 202 60 = some (.getfield 31, 3, [4, 5, 3, 171]) := by decide +kernel
theorem r202_63 : am_at 202 63 = some (.invokestatic 54, 3, [184, 2, 386, 0]) := by decide +kernel
theorem r202_66 : am_at 202 66 = some (.aload_n 0, 1, [0]) := by decide +kernel
theorem r202_67 : am_at 202 67 = some (.aload_n 1, 1, [1]) := by decide +kernel
theorem r202_68 : am_at 202 68 = some (.getfield 34, 3, [4, 6, 0, 173]) := by decide +kernel
theorem r202_71 : am_at 202 71 = some (.putfield 34, 3, [4, 6, 0, 173]) := by decide +kernel
theorem r202_74 : am_at 202 74 = some (.aload_n 0, 1, [0]) := by decide +kernel
theorem r202_75 : am_at 202 75 = some (.aload_n 1, 1, [1]) := by decide +kernel
theorem r202_76 : am_at 202 76 = some (.getfield 38, 3, [4, 7, 0, 175]) := by decide +kernel
theorem r202_79 : am_at 202 79 = some (.putfield 38, 3, [4, 7, 0, 175]) := by decide +kernel
theorem r202_82 : am_at 202 82 = some (.aload_n 0, 1, [0]) := by decide +kernel
theorem r202_83 : am_at 202 83 = some (.aload_n 1, 1, [1]) := by decide +kernel
theorem r202_84 : am_at 202 84 = some (.getfield 41, 3, [4, 8, 0, 178]) := by decide +kernel
theorem r202_87 : am_at 202 87 = some (.putfield 41, 3, [4, 8, 0, 178]) := by decide +kernel
theorem r202_90 : am_at 202 90 = some (.aload_n 0, 1, [0]) := by decide +kernel
theorem r202_91 : am_at 202 91 = some (.aload_n 1, 1, [1]) := by decide +kernel
theorem r202_92 : am_at 202 92 = some (.getfield 44, 3, [4, 9, 0, 180]) := by decide +kernel
theorem r202_95 : am_at 202 95 = some (.putfield 44, 3, [4, 9, 0, 180]) := by decide +kernel
theorem r202_98 : am_at 202 98 = some (.aload_n 0, 1, [0]) := by decide +kernel
theorem r202_99 : am_at 202 99 = some (.aload_n 1, 1, [1]) := by decide +kernel
theorem r202_100 : am_at 202 100 = some (.getfield 47, 3, [4, 10, 0, 182]) := by decide +kernel
theorem r202_103 : am_at 202 103 = some (.putfield 47, 3, [4, 10, 0, 182]) := by decide +kernel
theorem r202_106 : am_at 202 106 = some (.aload_n 0, 1, [0]) := by decide +kernel
theorem r202_107 : am_at 202 107 = some (.aload_n 1, 1, [1]) := by decide +kernel
theorem r202_108 : am_at 202 108 = some (.getfield 60, 3, [4, 11, 0, 184]) := by decide +kernel
theorem r202_111 : am_at 202 111 = some (.putfield 60, 3, [4, 11, 0, 184]) := by decide +kernel
theorem r202_114 : am_at 202 114 = some (.aload_n 0, 1, [0]) := by decide +kernel
theorem r202_115 : am_at 202 115 = some (.aload_n 1, 1, [1]) := by decide +kernel
theorem r202_116 : am_at 202 116 = some (.getfield 63, 3, [4, 12, 0, 187]) := by decide +kernel
theorem r202_119 : am_at 202 119 = some (.putfield 63, 3, [4, 12, 0, 187]) := by decide +kernel
theorem r202_122 : am_at 202 122 = some (.aload_n 0, 1, [0]) := by decide +kernel
theorem r202_123 : am_at 202 123 = some (.aload_n 1, 1, [1]) := by decide +kernel
theorem r202_124 : am_at 202 124 = some (.getfield 66, 3, [4, 13, 0, 189]) := by decide +kernel
theorem r202_127 : am_at 202 127 = some (.putfield 66, 3, [4, 13, 0, 189]) := by decide +kernel
theorem r202_130 : am_at 202 130 = some (.aload_n 0, 1, [0]) := by decide +kernel
theorem r202_131 : am_at 202 131 = some (.aload_n 1, 1, [1]) := by decide +kernel
theorem r202_132 : am_at 202 132 = some (.getfield 69, 3, [4, 14, 0, 191]) := by decide +kernel
theorem r202_135 : am_at 202 135 = some (.putfield 69, 3, [4, 14, 0, 191]) := by decide +kernel
theorem r202_138 : am_at 202 138 = some (.aload_n 0, 1, [0]) := by decide +kernel
theorem r202_139 : am_at 202 139 = some (.aload_n 1, 1, [1]) := by decide +kernel
theorem r202_140 : am_at 202 140 = some (.getfield 72, 3, [4, 15, 0, 193]) := by decide +kernel
theorem r202_143 : am_at 202 143 = some (.putfield 72, 3, [4, 15, 0, 193]) := by decide +kernel
theorem r202_146 : am_at 202 146 = some (.return_, 1, []) := by decide +kernel
theorem rt202 : am_rtt 202 = some (none) := by decide +kernel
set_option maxRecDepth 100000 in
theorem pg202 : am_pg[202]? = some am_m202 := rfl
theorem m202_12_1_w {d mc ms : Nat} {D : am_D} {Q : am_O → am_AH → Prop} (hd : 3 ≤ d) {r : am_D} (h : m202_12_1 D = r) (hQ : Q (.inl none) (am_mk r)) : am_X xs L 202 d mc ms 0 [.ref 12, .ref 1] [] (am_mk D) 0 0 Q := by
  unfold m202_12_1 at h
  refine x_ld (v := .ref 12) r202_0 rfl rfl rfl ?_
  refine y_gf (cd := 15) (v := .ref 13) r202_1 rfl rfl rfl ?_
  refine x_ld (v := .ref 1) r202_4 rfl rfl rfl ?_
  refine y_gf (cd := 4) (v := .ref 2) r202_5 rfl rfl rfl ?_
  obtain ⟨q1, h2, h⟩ := am_ltE h
  replace h2 := h2.symm
  refine x_call0 (as := [.ref 13, .ref 2]) (rest := []) r202_8 rfl rfl rfl (by decide) (Nat.le_of_ble_eq_true rfl) (m152_13_2_ok h2) (Nat.le_trans (by decide) hd) (Nat.zero_le _) (Nat.zero_le _) rfl ?_
  refine x_ld (v := .ref 1) r202_11 rfl rfl rfl ?_
  refine y_gf (cd := 9) (v := .ref 7) r202_12 rfl rfl rfl ?_
  refine x_ld (v := .ref 12) r202_15 rfl rfl rfl ?_
  refine y_gf (cd := 20) (v := .ref 18) r202_16 rfl rfl rfl ?_
  obtain ⟨D3, e4, h⟩ := am_ltE h
  refine x_call0 (as := [.ref 7, .ref 18]) (rest := []) r202_19 rfl rfl rfl (by decide) (Nat.le_of_ble_eq_true rfl) (am_rows_copy (n := 28) (m := 28) rfl rfl (by decide) (by decide) e4) (Nat.le_trans (by decide) hd) (Nat.zero_le _) (Nat.zero_le _) rfl ?_
  refine x_ld (v := .ref 1) r202_22 rfl rfl rfl ?_
  refine y_gf (cd := 10) (v := .ref 8) r202_23 rfl rfl rfl ?_
  refine x_ld (v := .ref 12) r202_26 rfl rfl rfl ?_
  refine y_gf (cd := 21) (v := .ref 19) r202_27 rfl rfl rfl ?_
  obtain ⟨D5, e6, h⟩ := am_ltE h
  refine x_call0 (as := [.ref 8, .ref 19]) (rest := []) r202_30 rfl rfl rfl (by decide) (Nat.le_of_ble_eq_true rfl) (am_rows_copy (n := 4) (m := 4) rfl rfl (by decide) (by decide) e6) (Nat.le_trans (by decide) hd) (Nat.zero_le _) (Nat.zero_le _) rfl ?_
  refine x_ld (v := .ref 1) r202_33 rfl rfl rfl ?_
  refine y_gf (cd := 11) (v := .ref 9) r202_34 rfl rfl rfl ?_
  refine x_ld (v := .ref 12) r202_37 rfl rfl rfl ?_
  refine y_gf (cd := 22) (v := .ref 20) r202_38 rfl rfl rfl ?_
  obtain ⟨D7, e8, h⟩ := am_ltE h
  refine x_call0 (as := [.ref 9, .ref 20]) (rest := []) r202_41 rfl rfl rfl (by decide) (Nat.le_of_ble_eq_true rfl) (am_rows_copy (n := 4) (m := 4) rfl rfl (by decide) (by decide) e8) (Nat.le_trans (by decide) hd) (Nat.zero_le _) (Nat.zero_le _) rfl ?_
  refine x_ld (v := .ref 1) r202_44 rfl rfl rfl ?_
  refine y_gf (cd := 12) (v := .ref 10) r202_45 rfl rfl rfl ?_
  refine x_ld (v := .ref 12) r202_48 rfl rfl rfl ?_
  refine y_gf (cd := 23) (v := .ref 21) r202_49 rfl rfl rfl ?_
  obtain ⟨D9, e10, h⟩ := am_ltE h
  refine x_call0 (as := [.ref 10, .ref 21]) (rest := []) r202_52 rfl rfl rfl (by decide) (Nat.le_of_ble_eq_true rfl) (am_rows_copy (n := 4) (m := 4) rfl rfl (by decide) (by decide) e10) (Nat.le_trans (by decide) hd) (Nat.zero_le _) (Nat.zero_le _) rfl ?_
  refine x_ld (v := .ref 1) r202_55 rfl rfl rfl ?_
  refine y_gf (cd := 13) (v := .ref 11) r202_56 rfl rfl rfl ?_
  refine x_ld (v := .ref 12) r202_59 rfl rfl rfl ?_
  refine y_gf (cd := 24) (v := .ref 22) r202_60 rfl rfl rfl ?_
  obtain ⟨D11, e12, h⟩ := am_ltE h
  refine x_call0 (as := [.ref 11, .ref 22]) (rest := []) r202_63 rfl rfl rfl (by decide) (Nat.le_of_ble_eq_true rfl) (am_rows_copy (n := 2) (m := 2) rfl rfl (by decide) (by decide) e12) (Nat.le_trans (by decide) hd) (Nat.zero_le _) (Nat.zero_le _) rfl ?_
  refine x_ld (v := .ref 12) r202_66 rfl rfl rfl ?_
  refine x_ld (v := .ref 1) r202_67 rfl rfl rfl ?_
  refine y_gf (cd := 0) (v := .int (D11.1 1 6)) r202_68 rfl rfl rfl ?_
  obtain ⟨D13, e14, h⟩ := am_ltE h
  refine y_pf0 r202_71 rfl e14 rfl ?_
  refine x_ld (v := .ref 12) r202_74 rfl rfl rfl ?_
  refine x_ld (v := .ref 1) r202_75 rfl rfl rfl ?_
  refine y_gf (cd := 0) (v := .int (D13.1 1 7)) r202_76 rfl rfl rfl ?_
  obtain ⟨D15, e16, h⟩ := am_ltE h
  refine y_pf0 r202_79 rfl e16 rfl ?_
  refine x_ld (v := .ref 12) r202_82 rfl rfl rfl ?_
  refine x_ld (v := .ref 1) r202_83 rfl rfl rfl ?_
  refine y_gf (cd := 0) (v := .int (D15.1 1 8)) r202_84 rfl rfl rfl ?_
  obtain ⟨D17, e18, h⟩ := am_ltE h
  refine y_pf0 r202_87 rfl e18 rfl ?_
  refine x_ld (v := .ref 12) r202_90 rfl rfl rfl ?_
  refine x_ld (v := .ref 1) r202_91 rfl rfl rfl ?_
  refine y_gf (cd := 0) (v := .int (D17.1 1 9)) r202_92 rfl rfl rfl ?_
  obtain ⟨D19, e20, h⟩ := am_ltE h
  refine y_pf0 r202_95 rfl e20 rfl ?_
  refine x_ld (v := .ref 12) r202_98 rfl rfl rfl ?_
  refine x_ld (v := .ref 1) r202_99 rfl rfl rfl ?_
  refine y_gf (cd := 0) (v := .int (D19.1 1 10)) r202_100 rfl rfl rfl ?_
  obtain ⟨D21, e22, h⟩ := am_ltE h
  refine y_pf0 r202_103 rfl e22 rfl ?_
  refine x_ld (v := .ref 12) r202_106 rfl rfl rfl ?_
  refine x_ld (v := .ref 1) r202_107 rfl rfl rfl ?_
  refine y_gf (cd := 0) (v := .int (D21.1 1 11)) r202_108 rfl rfl rfl ?_
  obtain ⟨D23, e24, h⟩ := am_ltE h
  refine y_pf0 r202_111 rfl e24 rfl ?_
  refine x_ld (v := .ref 12) r202_114 rfl rfl rfl ?_
  refine x_ld (v := .ref 1) r202_115 rfl rfl rfl ?_
  refine y_gf (cd := 0) (v := .int (D23.1 1 12)) r202_116 rfl rfl rfl ?_
  obtain ⟨D25, e26, h⟩ := am_ltE h
  refine y_pf0 r202_119 rfl e26 rfl ?_
  refine x_ld (v := .ref 12) r202_122 rfl rfl rfl ?_
  refine x_ld (v := .ref 1) r202_123 rfl rfl rfl ?_
  refine y_gf (cd := 0) (v := .int (D25.1 1 13)) r202_124 rfl rfl rfl ?_
  obtain ⟨D27, e28, h⟩ := am_ltE h
  refine y_pf0 r202_127 rfl e28 rfl ?_
  refine x_ld (v := .ref 12) r202_130 rfl rfl rfl ?_
  refine x_ld (v := .ref 1) r202_131 rfl rfl rfl ?_
  refine y_gf (cd := 0) (v := .int (D27.1 1 14)) r202_132 rfl rfl rfl ?_
  obtain ⟨D29, e30, h⟩ := am_ltE h
  refine y_pf0 r202_135 rfl e30 rfl ?_
  refine x_ld (v := .ref 12) r202_138 rfl rfl rfl ?_
  refine x_ld (v := .ref 1) r202_139 rfl rfl rfl ?_
  refine y_gf (cd := 0) (v := .int (D29.1 1 15)) r202_140 rfl rfl rfl ?_
  obtain ⟨D31, e32, h⟩ := am_ltE h
  refine y_pf0 r202_143 rfl e32 rfl ?_
  subst h
  exact x_ret (ret := none) (C := True) (v := none) r202_146 rt202 rfl rfl rfl rfl rfl rfl rfl rfl trivial hQ
theorem m202_12_1_ok {D : am_D} {r : am_D} (h : m202_12_1 D = r) : am_Y xs L 202 3 0 0 [.ref 12, .ref 1] D (.inl none) r := am_Yof (mi := am_m202) (lc := [.ref 12, .ref 1]) pg202 (Nat.le_of_ble_eq_true rfl) (am_rc1 (ci := 4) rfl rfl rfl rfl rfl) rfl (fun Q hQ => m202_12_1_w (Nat.le_refl _) h hQ)
theorem r15_0 : am_at 15 0 = some (.aload_n 0, 1, [0]) := by decide +kernel
theorem r15_1 : am_at 15 1 = some (.getfield 16, 3, [7, 1, 3, 333]) := by decide +kernel
theorem r15_4 : am_at 15 4 = some (.aload_n 0, 1, [0]) := by decide +kernel
theorem r15_5 : am_at 15 5 = some (.getfield 10, 3, [7, 0, 3, 332]) := by decide +kernel
theorem r15_8 : am_at 15 8 = some (.invokevirtual 207, 3, [202, 2, 369, 0]) := by decide +kernel
theorem r15_11 : am_at 15 11 = some (.aload_n 0, 1, [0]) := by decide +kernel
theorem r15_12 : am_at 15 12 = some (.iconst (1), 1, []) := by decide +kernel
theorem r15_13 : am_at 15 13 = some (.putfield 54, 3, [7, 7, 2, 339]) := by decide +kernel
theorem r15_16 : am_at 15 16 = some (.aload_n 0, 1, [0]) := by decide +kernel
theorem r15_17 : am_at 15 17 = some (.getfield 10, 3, [7, 0, 3, 332]) := by decide +kernel
theorem r15_20 : am_at 15 20 = some (.getfield 210, 3, [4, 0, 3, 162]) := by decide +kernel
theorem r15_23 : am_at 15 23 = some (.getfield 214, 3, [0, 4, 0, 141]) := by decide +kernel
theorem r15_26 : am_at 15 26 = some (.ireturn, 1, []) := by decide +kernel
theorem rt15 : am_rtt 15 = some (some .int) := by decide +kernel
set_option maxRecDepth 100000 in
theorem pg15 : am_pg[15]? = some am_m15 := rfl
theorem m15_w {d mc ms : Nat} {D : am_D} {Q : am_O → am_AH → Prop} (hd : 4 ≤ d) {r : Int32 × am_D} (h : m15 D = r) (hQ : Q (.inl (some (.int r.1))) (am_mk r.2)) : am_X xs L 15 d mc ms 0 [.ref 0] [] (am_mk D) 0 0 Q := by
  unfold m15 at h
  refine x_ld (v := .ref 0) r15_0 rfl rfl rfl ?_
  refine y_gf (cd := 14) (v := .ref 12) r15_1 rfl rfl rfl ?_
  refine x_ld (v := .ref 0) r15_4 rfl rfl rfl ?_
  refine y_gf (cd := 3) (v := .ref 1) r15_5 rfl rfl rfl ?_
  obtain ⟨q1, h2, h⟩ := am_ltE h
  replace h2 := h2.symm
  refine x_call0 (as := [.ref 12, .ref 1]) (rest := []) r15_8 rfl rfl rfl (by decide) (Nat.le_of_ble_eq_true rfl) (m202_12_1_ok h2) (Nat.le_trans (by decide) hd) (Nat.zero_le _) (Nat.zero_le _) rfl ?_
  refine x_ld (v := .ref 0) r15_11 rfl rfl rfl ?_
  refine x_ic (v := 1) r15_12 rfl rfl ?_
  obtain ⟨D3, e4, h⟩ := am_ltE h
  refine y_pf2 r15_13 rfl (by decide) e4 rfl ?_
  refine x_ld (v := .ref 0) r15_16 rfl rfl rfl ?_
  refine y_gf (cd := 3) (v := .ref 1) r15_17 rfl rfl rfl ?_
  refine y_gf (cd := 4) (v := .ref 2) r15_20 rfl rfl rfl ?_
  refine y_gf (cd := 0) (v := .int (D3.1 2 4)) r15_23 rfl rfl rfl ?_
  subst h
  exact x_ret (ret := some .int) (C := True) (v := some (.int _)) r15_26 rt15 rfl rfl rfl rfl rfl rfl rfl rfl trivial hQ
theorem m15_ok {D : am_D} {r : Int32 × am_D} (h : m15 D = r) : am_Y xs L 15 4 0 0 [.ref 0] D (.inl (some (.int r.1))) r.2 := am_Yof (mi := am_m15) (lc := [.ref 0]) pg15 (Nat.le_of_ble_eq_true rfl) (am_rc1 (ci := 7) rfl rfl rfl rfl rfl) rfl (fun Q hQ => m15_w (Nat.le_refl _) h hQ)
theorem r36_0 : am_at 36 0 = some (.dload_n 0, 1, [0]) := by decide +kernel
theorem r36_1 : am_at 36 1 = some (.dconst 0, 1, []) := by decide +kernel
theorem r36_2 : am_at 36 2 = some (.dcmp .g, 1, []) := by decide +kernel
theorem r36_3 : am_at 36 3 = some (.ifCond .gt (5), 3, [8]) := by decide +kernel
theorem r36_6 : am_at 36 6 = some (.lconst 0, 1, []) := by decide +kernel
theorem r36_7 : am_at 36 7 = some (.lreturn, 1, []) := by decide +kernel
theorem r36_8 : am_at 36 8 = some (.dload_n 0, 1, [0]) := by decide +kernel
theorem r36_9 : am_at 36 9 = some (.dstore 4, 2, [4]) := by decide +kernel
theorem r36_11 : am_at 36 11 = some (.iconst (0), 1, []) := by decide +kernel
theorem r36_12 : am_at 36 12 = some (.istore 6, 2, [6]) := by decide +kernel
theorem r36_14 : am_at 36 14 = some (.iconst (0), 1, []) := by decide +kernel
theorem r36_15 : am_at 36 15 = some (.istore 7, 2, [7]) := by decide +kernel
theorem r36_17 : am_at 36 17 = some (.iload 7, 2, [7]) := by decide +kernel
theorem r36_19 : am_at 36 19 = some (.bipush (64), 2, []) := by decide +kernel
theorem r36_21 : am_at 36 21 = some (.if_icmp .ge (29), 3, [50]) := by decide +kernel
theorem r36_24 : am_at 36 24 = some (.dload 4, 2, [4]) := by decide +kernel
theorem r36_26 : am_at 36 26 = some (.ldc2_w 464, 3, [2, 779, 4611686018427387904]) := by decide +kernel
theorem r36_29 : am_at 36 29 = some (.dcmp .l, 1, []) := by decide +kernel
theorem r36_30 : am_at 36 30 = some (.ifCond .lt (20), 3, [50]) := by decide +kernel
theorem r36_33 : am_at 36 33 = some (.dload 4, 2, [4]) := by decide +kernel
theorem r36_35 : am_at 36 35 = some (.ldc2_w 464, 3, [2, 779, 4611686018427387904]) := by decide +kernel
theorem r36_38 : am_at 36 38 = some (.ddiv, 1, []) := by decide +kernel
theorem r36_39 : am_at 36 39 = some (.dstore 4, 2, [4]) := by decide +kernel
theorem r36_41 : am_at 36 41 = some (.iinc 6 (1), 3, [6]) := by decide +kernel
theorem r36_44 : am_at 36 44 = some (.iinc 7 (1), 3, [7]) := by decide +kernel
theorem r36_47 : am_at 36 47 = some (.goto (-30), 3, [17]) := by decide +kernel
theorem r36_50 : am_at 36 50 = some (.iconst (0), 1, []) := by decide +kernel
theorem r36_51 : am_at 36 51 = some (.istore 7, 2, [7]) := by decide +kernel
theorem r36_53 : am_at 36 53 = some (.iload 7, 2, [7]) := by decide +kernel
theorem r36_55 : am_at 36 55 = some (.bipush (64), 2, []) := by decide +kernel
theorem r36_57 : am_at 36 57 = some (.if_icmp .ge (27), 3, [84]) := by decide +kernel
theorem r36_60 : am_at 36 60 = some (.dload 4, 2, [4]) := by decide +kernel
theorem r36_62 : am_at 36 62 = some (.dconst 1, 1, []) := by decide +kernel
theorem r36_63 : am_at 36 63 = some (.dcmp .g, 1, []) := by decide +kernel
theorem r36_64 : am_at 36 64 = some (.ifCond .ge (20), 3, [84]) := by decide +kernel
theorem r36_67 : am_at 36 67 = some (.dload 4, 2, [4]) := by decide +kernel
theorem r36_69 : am_at 36 69 = some (.ldc2_w 464, 3, [2, 779, 4611686018427387904]) := by decide +kernel
theorem r36_72 : am_at 36 72 = some (.dmul, 1, []) := by decide +kernel
theorem r36_73 : am_at 36 73 = some (.dstore 4, 2, [4]) := by decide +kernel
theorem r36_75 : am_at 36 75 = some (.iinc 6 (-1), 3, [6]) := by decide +kernel
theorem r36_78 : am_at 36 78 = some (.iinc 7 (1), 3, [7]) := by decide +kernel
theorem r36_81 : am_at 36 81 = some (.goto (-28), 3, [53]) := by decide +kernel
theorem r36_84 : am_at 36 84 = some (.dload 4, 2, [4]) := by decide +kernel
theorem r36_86 : am_at 36 86 = some (.dconst 1, 1, []) := by decide +kernel
theorem r36_87 : am_at 36 87 = some (.dsub, 1, []) := by decide +kernel
theorem r36_88 : am_at 36 88 = some (.lconst 1, 1, []) := by decide +kernel
theorem r36_89 : am_at 36 89 = some (.iload_n 2, 1, [2]) := by decide +kernel
theorem r36_90 : am_at 36 90 = some (.lshl, 1, []) := by decide +kernel
theorem r36_91 : am_at 36 91 = some (.l2d, 1, []) := by decide +kernel
theorem r36_92 : am_at 36 92 = some (.dmul, 1, []) := by decide +kernel
theorem r36_93 : am_at 36 93 = some (.d2l, 1, []) := by decide +kernel
theorem r36_94 : am_at 36 94 = some (.lstore 7, 2, [7]) := by decide +kernel
theorem r36_96 : am_at 36 96 = some (.iload 6, 2, [6]) := by decide +kernel
theorem r36_98 : am_at 36 98 = some (.iload_n 3, 1, [3]) := by decide +kernel
theorem r36_99 : am_at 36 99 = some (.iadd, 1, []) := by decide +kernel
theorem r36_100 : am_at 36 100 = some (.i2l, 1, []) := by decide +kernel
theorem r36_101 : am_at 36 101 = some (.iload_n 2, 1, [2]) := by decide +kernel
theorem r36_102 : am_at 36 102 = some (.lshl, 1, []) := by decide +kernel
theorem r36_103 : am_at 36 103 = some (.lload 7, 2, [7]) := by decide +kernel
theorem r36_105 : am_at 36 105 = some (.ladd, 1, []) := by decide +kernel
theorem r36_106 : am_at 36 106 = some (.lreturn, 1, []) := by decide +kernel
theorem rt36 : am_rtt 36 = some (some .long) := by decide +kernel
set_option maxRecDepth 100000 in
theorem pg36 : am_pg[36]? = some am_m36 := rfl
theorem m36_L17_w {d : Nat} {N : Nat} {D : am_D} {v2 : Int32} {v3 : Int32} {mc ms : Nat} {Q : am_O → am_AH → Prop} (hd : 1 ≤ d) : ∀ (n : Nat) (v4 : UInt64) (v6 : Int32) (v7 : Int32) {q : UInt64 × Int32} (h : m36_L17 N D v2 v3  n v4 v6 v7 = some q) (k0 : am_X xs L 36 d mc ms 50 [am_dead, am_dead, .int v2, .int v3, .double q.1, am_dead, .int q.2, am_dead, am_dead] [] (am_mk D) 0 0 Q), am_X xs L 36 d mc ms 17 [am_dead, am_dead, .int v2, .int v3, .double v4, am_dead, .int v6, .int v7, am_dead] [] (am_mk D) 0 0 Q := by
  intro n
  induction n with
  | zero =>
    intro v4 v6 v7 q h k0
    exact (nomatch (show none = some q from h))
  | succ n ih =>
    intro v4 v6 v7 q h k0
    rw [m36_L17] at h
    refine x_ld (v := .int v7) r36_17 rfl rfl rfl ?_
    refine x_bi (v := 64) r36_19 rfl rfl ?_
    rcases am_ifE h with ⟨c2, h⟩ | ⟨c2, h⟩
    · refine x_icgeT r36_21 c2 ?_
      refine x_forget (lc0 := [am_dead, am_dead, .int v2, .int v3, .double v4, am_dead, .int v6, am_dead, am_dead]) ⟨Or.inl rfl, Or.inl rfl, Or.inl rfl, Or.inl rfl, Or.inl rfl, Or.inl rfl, Or.inl rfl, Or.inr ⟨rfl, rfl⟩, Or.inl rfl, trivial⟩ ?_
      cases h
      exact k0
    · refine x_icgeF r36_21 c2 rfl ?_
      refine x_ld (v := .double v4) r36_24 rfl rfl rfl ?_
      refine x_sp r36_26 rfl rfl rfl rfl rfl rfl trivial rfl ?_
      refine x_ar r36_29 rfl trivial rfl ?_
      rcases am_ifE h with ⟨c3, h⟩ | ⟨c3, h⟩
      · refine x_ifltT r36_30 c3 ?_
        refine x_forget (lc0 := [am_dead, am_dead, .int v2, .int v3, .double v4, am_dead, .int v6, am_dead, am_dead]) ⟨Or.inl rfl, Or.inl rfl, Or.inl rfl, Or.inl rfl, Or.inl rfl, Or.inl rfl, Or.inl rfl, Or.inr ⟨rfl, rfl⟩, Or.inl rfl, trivial⟩ ?_
        cases h
        exact k0
      · refine x_ifltF r36_30 c3 rfl ?_
        refine x_ld (v := .double v4) r36_33 rfl rfl rfl ?_
        refine x_sp r36_35 rfl rfl rfl rfl rfl rfl trivial rfl ?_
        obtain ⟨g4, h⟩ := am_gdE h
        refine x_ar r36_38 rfl g4 rfl ?_
        obtain ⟨x5, e6, h⟩ := am_ltE h
        refine am_topD e6 ?_
        refine x_sto (lc' := [am_dead, am_dead, .int v2, .int v3, .double x5, am_dead, .int v6, .int v7, am_dead]) r36_39 rfl rfl rfl rfl ?_
        obtain ⟨x7, e8, h⟩ := am_ltE h
        refine x_sto (lc' := [am_dead, am_dead, .int v2, .int v3, .double x5, am_dead, .int x7, .int v7, am_dead]) r36_41 rfl rfl (by subst e8; rfl) rfl ?_
        obtain ⟨x9, e10, h⟩ := am_ltE h
        refine x_sto (lc' := [am_dead, am_dead, .int v2, .int v3, .double x5, am_dead, .int x7, .int x9, am_dead]) r36_44 rfl rfl (by subst e10; rfl) rfl ?_
        refine x_goto r36_47 ?_
        exact x_forget (lc0 := [am_dead, am_dead, .int v2, .int v3, .double x5, am_dead, .int x7, .int x9, am_dead]) ⟨Or.inl rfl, Or.inl rfl, Or.inl rfl, Or.inl rfl, Or.inl rfl, Or.inl rfl, Or.inl rfl, Or.inl rfl, Or.inl rfl, trivial⟩ (ih x5 x7 x9 h k0)
theorem m36_L53_w {d : Nat} {N : Nat} {D : am_D} {v2 : Int32} {v3 : Int32} {mc ms : Nat} {Q : am_O → am_AH → Prop} (hd : 1 ≤ d) : ∀ (n : Nat) (v4 : UInt64) (v6 : Int32) (v7 : Int32) {q : UInt64 × Int32} (h : m36_L53 N D v2 v3  n v4 v6 v7 = some q) (k0 : am_X xs L 36 d mc ms 84 [am_dead, am_dead, .int v2, .int v3, .double q.1, am_dead, .int q.2, am_dead, am_dead] [] (am_mk D) 0 0 Q), am_X xs L 36 d mc ms 53 [am_dead, am_dead, .int v2, .int v3, .double v4, am_dead, .int v6, .int v7, am_dead] [] (am_mk D) 0 0 Q := by
  intro n
  induction n with
  | zero =>
    intro v4 v6 v7 q h k0
    exact (nomatch (show none = some q from h))
  | succ n ih =>
    intro v4 v6 v7 q h k0
    rw [m36_L53] at h
    refine x_ld (v := .int v7) r36_53 rfl rfl rfl ?_
    refine x_bi (v := 64) r36_55 rfl rfl ?_
    rcases am_ifE h with ⟨c13, h⟩ | ⟨c13, h⟩
    · refine x_icgeT r36_57 c13 ?_
      refine x_forget (lc0 := [am_dead, am_dead, .int v2, .int v3, .double v4, am_dead, .int v6, am_dead, am_dead]) ⟨Or.inl rfl, Or.inl rfl, Or.inl rfl, Or.inl rfl, Or.inl rfl, Or.inl rfl, Or.inl rfl, Or.inr ⟨rfl, rfl⟩, Or.inl rfl, trivial⟩ ?_
      cases h
      exact k0
    · refine x_icgeF r36_57 c13 rfl ?_
      refine x_ld (v := .double v4) r36_60 rfl rfl rfl ?_
      refine x_ar r36_62 rfl trivial rfl ?_
      refine x_ar r36_63 rfl trivial rfl ?_
      rcases am_ifE h with ⟨c14, h⟩ | ⟨c14, h⟩
      · refine x_ifgeT r36_64 c14 ?_
        refine x_forget (lc0 := [am_dead, am_dead, .int v2, .int v3, .double v4, am_dead, .int v6, am_dead, am_dead]) ⟨Or.inl rfl, Or.inl rfl, Or.inl rfl, Or.inl rfl, Or.inl rfl, Or.inl rfl, Or.inl rfl, Or.inr ⟨rfl, rfl⟩, Or.inl rfl, trivial⟩ ?_
        cases h
        exact k0
      · refine x_ifgeF r36_64 c14 rfl ?_
        refine x_ld (v := .double v4) r36_67 rfl rfl rfl ?_
        refine x_sp r36_69 rfl rfl rfl rfl rfl rfl trivial rfl ?_
        obtain ⟨g15, h⟩ := am_gdE h
        refine x_ar r36_72 rfl g15 rfl ?_
        obtain ⟨x16, e17, h⟩ := am_ltE h
        refine am_topD e17 ?_
        refine x_sto (lc' := [am_dead, am_dead, .int v2, .int v3, .double x16, am_dead, .int v6, .int v7, am_dead]) r36_73 rfl rfl rfl rfl ?_
        obtain ⟨x18, e19, h⟩ := am_ltE h
        refine x_sto (lc' := [am_dead, am_dead, .int v2, .int v3, .double x16, am_dead, .int x18, .int v7, am_dead]) r36_75 rfl rfl (by subst e19; rfl) rfl ?_
        obtain ⟨x20, e21, h⟩ := am_ltE h
        refine x_sto (lc' := [am_dead, am_dead, .int v2, .int v3, .double x16, am_dead, .int x18, .int x20, am_dead]) r36_78 rfl rfl (by subst e21; rfl) rfl ?_
        refine x_goto r36_81 ?_
        exact x_forget (lc0 := [am_dead, am_dead, .int v2, .int v3, .double x16, am_dead, .int x18, .int x20, am_dead]) ⟨Or.inl rfl, Or.inl rfl, Or.inl rfl, Or.inl rfl, Or.inl rfl, Or.inl rfl, Or.inl rfl, Or.inl rfl, Or.inl rfl, trivial⟩ (ih x16 x18 x20 h k0)
theorem m36_w {d mc ms : Nat} {N : Nat} {D : am_D} {v0 : UInt64} {v2 : Int32} {v3 : Int32} {Q : am_O → am_AH → Prop} (hd : 1 ≤ d) {r : Int64} (h : m36 N D v0 v2 v3 = some r) (hQ : Q (.inl (some (.long r))) (am_mk D)) : am_X xs L 36 d mc ms 0 [.double v0, am_dead, .int v2, .int v3, am_dead, am_dead, am_dead, am_dead, am_dead] [] (am_mk D) 0 0 Q := by
  unfold m36 at h
  refine x_ld (v := .double v0) r36_0 rfl rfl rfl ?_
  refine x_ar r36_1 rfl trivial rfl ?_
  refine x_ar r36_2 rfl trivial rfl ?_
  rcases am_ifE h with ⟨c1, h⟩ | ⟨c1, h⟩
  · refine x_ifgtT r36_3 c1 ?_
    refine x_ld (v := .double v0) r36_8 rfl rfl rfl ?_
    refine x_sto (lc' := [.double v0, am_dead, .int v2, .int v3, .double v0, am_dead, am_dead, am_dead, am_dead]) r36_9 rfl rfl rfl rfl ?_
    refine x_ic (v := 0) r36_11 rfl rfl ?_
    refine x_sto (lc' := [.double v0, am_dead, .int v2, .int v3, .double v0, am_dead, .int (0 : Int32), am_dead, am_dead]) r36_12 rfl rfl rfl rfl ?_
    refine x_ic (v := 0) r36_14 rfl rfl ?_
    refine x_sto (lc' := [.double v0, am_dead, .int v2, .int v3, .double v0, am_dead, .int (0 : Int32), .int (0 : Int32), am_dead]) r36_15 rfl rfl rfl rfl ?_
    obtain ⟨q11, h12, h⟩ := Option.bind_eq_some_iff.mp h
    refine x_forget (lc0 := [am_dead, am_dead, .int v2, .int v3, .double v0, am_dead, .int (0 : Int32), .int (0 : Int32), am_dead]) ⟨Or.inr ⟨rfl, rfl⟩, Or.inl rfl, Or.inl rfl, Or.inl rfl, Or.inl rfl, Or.inl rfl, Or.inl rfl, Or.inl rfl, Or.inl rfl, trivial⟩ (m36_L17_w hd N v0 (0 : Int32) (0 : Int32) h12 ?_)
    refine x_ic (v := 0) r36_50 rfl rfl ?_
    refine x_sto (lc' := [am_dead, am_dead, .int v2, .int v3, .double q11.1, am_dead, .int q11.2, .int (0 : Int32), am_dead]) r36_51 rfl rfl rfl rfl ?_
    obtain ⟨q22, h23, h⟩ := Option.bind_eq_some_iff.mp h
    refine x_forget (lc0 := [am_dead, am_dead, .int v2, .int v3, .double q11.1, am_dead, .int q11.2, .int (0 : Int32), am_dead]) ⟨Or.inl rfl, Or.inl rfl, Or.inl rfl, Or.inl rfl, Or.inl rfl, Or.inl rfl, Or.inl rfl, Or.inl rfl, Or.inl rfl, trivial⟩ (m36_L53_w hd N q11.1 q11.2 (0 : Int32) h23 ?_)
    refine x_ld (v := .double q22.1) r36_84 rfl rfl rfl ?_
    refine x_ar r36_86 rfl trivial rfl ?_
    obtain ⟨g24, h⟩ := am_gdE h
    refine x_ar r36_87 rfl g24 rfl ?_
    refine x_ar r36_88 rfl trivial rfl ?_
    refine x_ld (v := .int v2) r36_89 rfl rfl rfl ?_
    refine x_ar r36_90 rfl trivial rfl ?_
    refine x_ar r36_91 rfl trivial rfl ?_
    obtain ⟨g25, h⟩ := am_gdE h
    refine x_ar r36_92 rfl g25 rfl ?_
    refine x_ar r36_93 rfl trivial rfl ?_
    obtain ⟨x26, e27, h⟩ := am_ltE h
    refine am_topJ e27 ?_
    refine x_sto (lc' := [am_dead, am_dead, .int v2, .int v3, .double q22.1, am_dead, .int q22.2, .long x26, am_dead]) r36_94 rfl rfl rfl rfl ?_
    refine x_ld (v := .int q22.2) r36_96 rfl rfl rfl ?_
    refine x_ld (v := .int v3) r36_98 rfl rfl rfl ?_
    refine x_ar r36_99 rfl trivial rfl ?_
    refine x_ar r36_100 rfl trivial rfl ?_
    refine x_ld (v := .int v2) r36_101 rfl rfl rfl ?_
    refine x_ar r36_102 rfl trivial rfl ?_
    refine x_ld (v := .long x26) r36_103 rfl rfl rfl ?_
    refine x_ar r36_105 rfl trivial rfl ?_
    cases h
    exact x_ret (ret := some .long) (C := True) (v := some (.long _)) r36_106 rt36 rfl rfl rfl rfl rfl rfl rfl rfl trivial hQ
  · refine x_ifgtF r36_3 c1 rfl ?_
    refine x_ar r36_6 rfl trivial rfl ?_
    cases h
    exact x_ret (ret := some .long) (C := True) (v := some (.long _)) r36_7 rt36 rfl rfl rfl rfl rfl rfl rfl rfl trivial hQ
theorem m36_ok {N : Nat} {D : am_D} {v0 : UInt64} {v2 : Int32} {v3 : Int32} {r : Int64} (h : m36 N D v0 v2 v3 = some r) : am_Y xs L 36 1 0 0 [.double v0, .int v2, .int v3] D (.inl (some (.long r))) D := am_Yof (mi := am_m36) (lc := [.double v0, am_dead, .int v2, .int v3, am_dead, am_dead, am_dead, am_dead, am_dead]) pg36 (Nat.le_of_ble_eq_true rfl) (am_rc0 rfl) rfl (fun Q hQ => m36_w (Nat.le_refl _) h hQ)
theorem r40_0 : am_at 40 0 = some (.iload_n 0, 1, [0]) := by decide +kernel
theorem r40_1 : am_at 40 1 = some (.ifCond .lt (12), 3, [13]) := by decide +kernel
theorem r40_4 : am_at 40 4 = some (.iload_n 0, 1, [0]) := by decide +kernel
theorem r40_5 : am_at 40 5 = some (.iconst (4), 1, []) := by decide +kernel
theorem r40_6 : am_at 40 6 = some (.if_icmp .ge (7), 3, [13]) := by decide +kernel
theorem r40_9 : am_at 40 9 = some (.iconst (1), 1, []) := by decide +kernel
theorem r40_10 : am_at 40 10 = some (.goto (4), 3, [14]) := by decide +kernel
theorem r40_13 : am_at 40 13 = some (.iconst (0), 1, []) := by decide +kernel
theorem r40_14 : am_at 40 14 = some (.ireturn, 1, []) := by decide +kernel
theorem rt40 : am_rtt 40 = some (some .boolean) := by decide +kernel
set_option maxRecDepth 100000 in
theorem pg40 : am_pg[40]? = some am_m40 := rfl
theorem m40_w {d mc ms : Nat} {D : am_D} {v0 : Int32} {Q : am_O → am_AH → Prop} (hd : 1 ≤ d) {r : Int32} (h : m40 v0 = r) (hQ : Q (.inl (some (.int r))) (am_mk D)) : am_X xs L 40 d mc ms 0 [.int v0] [] (am_mk D) 0 0 Q := by
  unfold m40 at h
  refine x_ld (v := .int v0) r40_0 rfl rfl rfl ?_
  rcases am_ifE h with ⟨c1, h⟩ | ⟨c1, h⟩
  · refine x_ifltT r40_1 c1 ?_
    refine x_ic (v := 0) r40_13 rfl rfl ?_
    subst h
    exact x_ret (ret := some .boolean) (C := narrow .boolean (.int (0 : Int32)) = .int (0 : Int32)) (v := some (.int (0 : Int32))) r40_14 rt40 rfl rfl rfl rfl rfl rfl rfl rfl (by decide) hQ
  · refine x_ifltF r40_1 c1 rfl ?_
    refine x_ld (v := .int v0) r40_4 rfl rfl rfl ?_
    refine x_ic (v := 4) r40_5 rfl rfl ?_
    rcases am_ifE h with ⟨c2, h⟩ | ⟨c2, h⟩
    · refine x_icgeT r40_6 c2 ?_
      refine x_ic (v := 0) r40_13 rfl rfl ?_
      subst h
      exact x_ret (ret := some .boolean) (C := narrow .boolean (.int (0 : Int32)) = .int (0 : Int32)) (v := some (.int (0 : Int32))) r40_14 rt40 rfl rfl rfl rfl rfl rfl rfl rfl (by decide) hQ
    · refine x_icgeF r40_6 c2 rfl ?_
      refine x_ic (v := 1) r40_9 rfl rfl ?_
      refine x_goto r40_10 ?_
      subst h
      exact x_ret (ret := some .boolean) (C := narrow .boolean (.int (1 : Int32)) = .int (1 : Int32)) (v := some (.int (1 : Int32))) r40_14 rt40 rfl rfl rfl rfl rfl rfl rfl rfl (by decide) hQ
theorem m40_ok {D : am_D} {v0 : Int32} {r : Int32} (h : m40 v0 = r) : am_Y xs L 40 1 0 0 [.int v0] D (.inl (some (.int r))) D := am_Yof (mi := am_m40) (lc := [.int v0]) pg40 (Nat.le_of_ble_eq_true rfl) (am_rc0 rfl) rfl (fun Q hQ => m40_w (Nat.le_refl _) h hQ)
theorem m40_b (v0 : Int32) : m40 v0 &&& 1 = m40 v0 := by
  unfold m40
  (repeat' split) <;> rfl
theorem r41_0 : am_at 41 0 = some (.iload_n 0, 1, [0]) := by decide +kernel
theorem r41_1 : am_at 41 1 = some (.ifCond .lt (13), 3, [14]) := by decide +kernel
theorem r41_4 : am_at 41 4 = some (.iload_n 0, 1, [0]) := by decide +kernel
theorem r41_5 : am_at 41 5 = some (.bipush (28), 2, []) := by decide +kernel
theorem r41_7 : am_at 41 7 = some (.if_icmp .ge (7), 3, [14]) := by decide +kernel
theorem r41_10 : am_at 41 10 = some (.iconst (1), 1, []) := by decide +kernel
theorem r41_11 : am_at 41 11 = some (.goto (4), 3, [15]) := by decide +kernel
theorem r41_14 : am_at 41 14 = some (.iconst (0), 1, []) := by decide +kernel
theorem r41_15 : am_at 41 15 = some (.ireturn, 1, []) := by decide +kernel
theorem rt41 : am_rtt 41 = some (some .boolean) := by decide +kernel
set_option maxRecDepth 100000 in
theorem pg41 : am_pg[41]? = some am_m41 := rfl
theorem m41_w {d mc ms : Nat} {D : am_D} {v0 : Int32} {Q : am_O → am_AH → Prop} (hd : 1 ≤ d) {r : Int32} (h : m41 v0 = r) (hQ : Q (.inl (some (.int r))) (am_mk D)) : am_X xs L 41 d mc ms 0 [.int v0] [] (am_mk D) 0 0 Q := by
  unfold m41 at h
  refine x_ld (v := .int v0) r41_0 rfl rfl rfl ?_
  rcases am_ifE h with ⟨c1, h⟩ | ⟨c1, h⟩
  · refine x_ifltT r41_1 c1 ?_
    refine x_ic (v := 0) r41_14 rfl rfl ?_
    subst h
    exact x_ret (ret := some .boolean) (C := narrow .boolean (.int (0 : Int32)) = .int (0 : Int32)) (v := some (.int (0 : Int32))) r41_15 rt41 rfl rfl rfl rfl rfl rfl rfl rfl (by decide) hQ
  · refine x_ifltF r41_1 c1 rfl ?_
    refine x_ld (v := .int v0) r41_4 rfl rfl rfl ?_
    refine x_bi (v := 28) r41_5 rfl rfl ?_
    rcases am_ifE h with ⟨c2, h⟩ | ⟨c2, h⟩
    · refine x_icgeT r41_7 c2 ?_
      refine x_ic (v := 0) r41_14 rfl rfl ?_
      subst h
      exact x_ret (ret := some .boolean) (C := narrow .boolean (.int (0 : Int32)) = .int (0 : Int32)) (v := some (.int (0 : Int32))) r41_15 rt41 rfl rfl rfl rfl rfl rfl rfl rfl (by decide) hQ
    · refine x_icgeF r41_7 c2 rfl ?_
      refine x_ic (v := 1) r41_10 rfl rfl ?_
      refine x_goto r41_11 ?_
      subst h
      exact x_ret (ret := some .boolean) (C := narrow .boolean (.int (1 : Int32)) = .int (1 : Int32)) (v := some (.int (1 : Int32))) r41_15 rt41 rfl rfl rfl rfl rfl rfl rfl rfl (by decide) hQ
theorem m41_ok {D : am_D} {v0 : Int32} {r : Int32} (h : m41 v0 = r) : am_Y xs L 41 1 0 0 [.int v0] D (.inl (some (.int r))) D := am_Yof (mi := am_m41) (lc := [.int v0]) pg41 (Nat.le_of_ble_eq_true rfl) (am_rc0 rfl) rfl (fun Q hQ => m41_w (Nat.le_refl _) h hQ)
theorem m41_b (v0 : Int32) : m41 v0 &&& 1 = m41 v0 := by
  unfold m41
  (repeat' split) <;> rfl
theorem r42_0 : am_at 42 0 = some (.iload_n 0, 1, [0]) := by decide +kernel
theorem r42_1 : am_at 42 1 = some (.ifCond .lt (13), 3, [14]) := by decide +kernel
theorem r42_4 : am_at 42 4 = some (.iload_n 0, 1, [0]) := by decide +kernel
theorem r42_5 : am_at 42 5 = some (.bipush (7), 2, []) := by decide +kernel
theorem r42_7 : am_at 42 7 = some (.if_icmp .ge (7), 3, [14]) := by decide +kernel
theorem r42_10 : am_at 42 10 = some (.iconst (1), 1, []) := by decide +kernel
theorem r42_11 : am_at 42 11 = some (.goto (4), 3, [15]) := by decide +kernel
theorem r42_14 : am_at 42 14 = some (.iconst (0), 1, []) := by decide +kernel
theorem r42_15 : am_at 42 15 = some (.ireturn, 1, []) := by decide +kernel
theorem rt42 : am_rtt 42 = some (some .boolean) := by decide +kernel
set_option maxRecDepth 100000 in
theorem pg42 : am_pg[42]? = some am_m42 := rfl
theorem m42_w {d mc ms : Nat} {D : am_D} {v0 : Int32} {Q : am_O → am_AH → Prop} (hd : 1 ≤ d) {r : Int32} (h : m42 v0 = r) (hQ : Q (.inl (some (.int r))) (am_mk D)) : am_X xs L 42 d mc ms 0 [.int v0] [] (am_mk D) 0 0 Q := by
  unfold m42 at h
  refine x_ld (v := .int v0) r42_0 rfl rfl rfl ?_
  rcases am_ifE h with ⟨c1, h⟩ | ⟨c1, h⟩
  · refine x_ifltT r42_1 c1 ?_
    refine x_ic (v := 0) r42_14 rfl rfl ?_
    subst h
    exact x_ret (ret := some .boolean) (C := narrow .boolean (.int (0 : Int32)) = .int (0 : Int32)) (v := some (.int (0 : Int32))) r42_15 rt42 rfl rfl rfl rfl rfl rfl rfl rfl (by decide) hQ
  · refine x_ifltF r42_1 c1 rfl ?_
    refine x_ld (v := .int v0) r42_4 rfl rfl rfl ?_
    refine x_bi (v := 7) r42_5 rfl rfl ?_
    rcases am_ifE h with ⟨c2, h⟩ | ⟨c2, h⟩
    · refine x_icgeT r42_7 c2 ?_
      refine x_ic (v := 0) r42_14 rfl rfl ?_
      subst h
      exact x_ret (ret := some .boolean) (C := narrow .boolean (.int (0 : Int32)) = .int (0 : Int32)) (v := some (.int (0 : Int32))) r42_15 rt42 rfl rfl rfl rfl rfl rfl rfl rfl (by decide) hQ
    · refine x_icgeF r42_7 c2 rfl ?_
      refine x_ic (v := 1) r42_10 rfl rfl ?_
      refine x_goto r42_11 ?_
      subst h
      exact x_ret (ret := some .boolean) (C := narrow .boolean (.int (1 : Int32)) = .int (1 : Int32)) (v := some (.int (1 : Int32))) r42_15 rt42 rfl rfl rfl rfl rfl rfl rfl rfl (by decide) hQ
theorem m42_ok {D : am_D} {v0 : Int32} {r : Int32} (h : m42 v0 = r) : am_Y xs L 42 1 0 0 [.int v0] D (.inl (some (.int r))) D := am_Yof (mi := am_m42) (lc := [.int v0]) pg42 (Nat.le_of_ble_eq_true rfl) (am_rc0 rfl) rfl (fun Q hQ => m42_w (Nat.le_refl _) h hQ)
theorem m42_b (v0 : Int32) : m42 v0 &&& 1 = m42 v0 := by
  unfold m42
  (repeat' split) <;> rfl
theorem r43_0 : am_at 43 0 = some (.iload_n 0, 1, [0]) := by decide +kernel
theorem r43_1 : am_at 43 1 = some (.ifCond .eq (8), 3, [9]) := by decide +kernel
theorem r43_4 : am_at 43 4 = some (.iload_n 0, 1, [0]) := by decide +kernel
theorem r43_5 : am_at 43 5 = some (.iconst (1), 1, []) := by decide +kernel
theorem r43_6 : am_at 43 6 = some (.if_icmp .ne (7), 3, [13]) := by decide +kernel
theorem r43_9 : am_at 43 9 = some (.iconst (1), 1, []) := by decide +kernel
theorem r43_10 : am_at 43 10 = some (.goto (4), 3, [14]) := by decide +kernel
theorem r43_13 : am_at 43 13 = some (.iconst (0), 1, []) := by decide +kernel
theorem r43_14 : am_at 43 14 = some (.ireturn, 1, []) := by decide +kernel
theorem rt43 : am_rtt 43 = some (some .boolean) := by decide +kernel
set_option maxRecDepth 100000 in
theorem pg43 : am_pg[43]? = some am_m43 := rfl
theorem m43_w {d mc ms : Nat} {D : am_D} {v0 : Int32} {Q : am_O → am_AH → Prop} (hd : 1 ≤ d) {r : Int32} (h : m43 v0 = r) (hQ : Q (.inl (some (.int r))) (am_mk D)) : am_X xs L 43 d mc ms 0 [.int v0] [] (am_mk D) 0 0 Q := by
  unfold m43 at h
  refine x_ld (v := .int v0) r43_0 rfl rfl rfl ?_
  rcases am_ifE h with ⟨c1, h⟩ | ⟨c1, h⟩
  · refine x_ifeqT r43_1 c1 ?_
    refine x_ic (v := 1) r43_9 rfl rfl ?_
    refine x_goto r43_10 ?_
    subst h
    exact x_ret (ret := some .boolean) (C := narrow .boolean (.int (1 : Int32)) = .int (1 : Int32)) (v := some (.int (1 : Int32))) r43_14 rt43 rfl rfl rfl rfl rfl rfl rfl rfl (by decide) hQ
  · refine x_ifeqF r43_1 c1 rfl ?_
    refine x_ld (v := .int v0) r43_4 rfl rfl rfl ?_
    refine x_ic (v := 1) r43_5 rfl rfl ?_
    rcases am_ifE h with ⟨c2, h⟩ | ⟨c2, h⟩
    · refine x_icneT r43_6 c2 rfl ?_
      refine x_ic (v := 1) r43_9 rfl rfl ?_
      refine x_goto r43_10 ?_
      subst h
      exact x_ret (ret := some .boolean) (C := narrow .boolean (.int (1 : Int32)) = .int (1 : Int32)) (v := some (.int (1 : Int32))) r43_14 rt43 rfl rfl rfl rfl rfl rfl rfl rfl (by decide) hQ
    · refine x_icneF r43_6 c2 ?_
      refine x_ic (v := 0) r43_13 rfl rfl ?_
      subst h
      exact x_ret (ret := some .boolean) (C := narrow .boolean (.int (0 : Int32)) = .int (0 : Int32)) (v := some (.int (0 : Int32))) r43_14 rt43 rfl rfl rfl rfl rfl rfl rfl rfl (by decide) hQ
theorem m43_ok {D : am_D} {v0 : Int32} {r : Int32} (h : m43 v0 = r) : am_Y xs L 43 1 0 0 [.int v0] D (.inl (some (.int r))) D := am_Yof (mi := am_m43) (lc := [.int v0]) pg43 (Nat.le_of_ble_eq_true rfl) (am_rc0 rfl) rfl (fun Q hQ => m43_w (Nat.le_refl _) h hQ)
theorem m43_b (v0 : Int32) : m43 v0 &&& 1 = m43 v0 := by
  unfold m43
  (repeat' split) <;> rfl
theorem r45_0 : am_at 45 0 = some (.aload_n 0, 1, [0]) := by decide +kernel
theorem r45_1 : am_at 45 1 = some (.getfield 61, 3, [8, 0, 0, 1215]) := by decide +kernel
theorem r45_4 : am_at 45 4 = some (.ireturn, 1, []) := by decide +kernel
theorem rt45 : am_rtt 45 = some (some .int) := by decide +kernel
set_option maxRecDepth 100000 in
theorem pg45 : am_pg[45]? = some am_m45 := rfl
theorem m45_w {d mc ms : Nat} {D : am_D} {Q : am_O → am_AH → Prop} (hd : 1 ≤ d) {r : Int32} (h : m45 D = r) (hQ : Q (.inl (some (.int r))) (am_mk D)) : am_X xs L 45 d mc ms 0 [.ref 106] [] (am_mk D) 0 0 Q := by
  unfold m45 at h
  refine x_ld (v := .ref 106) r45_0 rfl rfl rfl ?_
  refine y_gf (cd := 0) (v := .int (D.1 106 0)) r45_1 rfl rfl rfl ?_
  subst h
  exact x_ret (ret := some .int) (C := True) (v := some (.int _)) r45_4 rt45 rfl rfl rfl rfl rfl rfl rfl rfl trivial hQ
theorem m45_ok {D : am_D} {r : Int32} (h : m45 D = r) : am_Y xs L 45 1 0 0 [.ref 106] D (.inl (some (.int r))) D := am_Yof (mi := am_m45) (lc := [.ref 106]) pg45 (Nat.le_of_ble_eq_true rfl) (am_rc1 (ci := 8) rfl rfl rfl rfl rfl) rfl (fun Q hQ => m45_w (Nat.le_refl _) h hQ)
theorem r46_0 : am_at 46 0 = some (.iload_n 0, 1, [0]) := by decide +kernel
theorem r46_1 : am_at 46 1 = some (.iload_n 1, 1, [1]) := by decide +kernel
theorem r46_2 : am_at 46 2 = some (.if_icmp .lt (12), 3, [14]) := by decide +kernel
theorem r46_5 : am_at 46 5 = some (.iload_n 0, 1, [0]) := by decide +kernel
theorem r46_6 : am_at 46 6 = some (.iload_n 2, 1, [2]) := by decide +kernel
theorem r46_7 : am_at 46 7 = some (.if_icmp .gt (7), 3, [14]) := by decide +kernel
theorem r46_10 : am_at 46 10 = some (.iconst (1), 1, []) := by decide +kernel
theorem r46_11 : am_at 46 11 = some (.goto (4), 3, [15]) := by decide +kernel
theorem r46_14 : am_at 46 14 = some (.iconst (0), 1, []) := by decide +kernel
theorem r46_15 : am_at 46 15 = some (.ireturn, 1, []) := by decide +kernel
theorem rt46 : am_rtt 46 = some (some .boolean) := by decide +kernel
set_option maxRecDepth 100000 in
theorem pg46 : am_pg[46]? = some am_m46 := rfl
theorem m46_w {d mc ms : Nat} {D : am_D} {v0 : Int32} {v1 : Int32} {v2 : Int32} {Q : am_O → am_AH → Prop} (hd : 1 ≤ d) {r : Int32} (h : m46 v0 v1 v2 = r) (hQ : Q (.inl (some (.int r))) (am_mk D)) : am_X xs L 46 d mc ms 0 [.int v0, .int v1, .int v2] [] (am_mk D) 0 0 Q := by
  unfold m46 at h
  refine x_ld (v := .int v0) r46_0 rfl rfl rfl ?_
  refine x_ld (v := .int v1) r46_1 rfl rfl rfl ?_
  rcases am_ifE h with ⟨c1, h⟩ | ⟨c1, h⟩
  · refine x_icltT r46_2 c1 ?_
    refine x_ic (v := 0) r46_14 rfl rfl ?_
    subst h
    exact x_ret (ret := some .boolean) (C := narrow .boolean (.int (0 : Int32)) = .int (0 : Int32)) (v := some (.int (0 : Int32))) r46_15 rt46 rfl rfl rfl rfl rfl rfl rfl rfl (by decide) hQ
  · refine x_icltF r46_2 c1 rfl ?_
    refine x_ld (v := .int v0) r46_5 rfl rfl rfl ?_
    refine x_ld (v := .int v2) r46_6 rfl rfl rfl ?_
    rcases am_ifE h with ⟨c2, h⟩ | ⟨c2, h⟩
    · refine x_icgtT r46_7 c2 ?_
      refine x_ic (v := 0) r46_14 rfl rfl ?_
      subst h
      exact x_ret (ret := some .boolean) (C := narrow .boolean (.int (0 : Int32)) = .int (0 : Int32)) (v := some (.int (0 : Int32))) r46_15 rt46 rfl rfl rfl rfl rfl rfl rfl rfl (by decide) hQ
    · refine x_icgtF r46_7 c2 rfl ?_
      refine x_ic (v := 1) r46_10 rfl rfl ?_
      refine x_goto r46_11 ?_
      subst h
      exact x_ret (ret := some .boolean) (C := narrow .boolean (.int (1 : Int32)) = .int (1 : Int32)) (v := some (.int (1 : Int32))) r46_15 rt46 rfl rfl rfl rfl rfl rfl rfl rfl (by decide) hQ
theorem m46_ok {D : am_D} {v0 : Int32} {v1 : Int32} {v2 : Int32} {r : Int32} (h : m46 v0 v1 v2 = r) : am_Y xs L 46 1 0 0 [.int v0, .int v1, .int v2] D (.inl (some (.int r))) D := am_Yof (mi := am_m46) (lc := [.int v0, .int v1, .int v2]) pg46 (Nat.le_of_ble_eq_true rfl) (am_rc0 rfl) rfl (fun Q hQ => m46_w (Nat.le_refl _) h hQ)
theorem m46_b (v0 : Int32) (v1 : Int32) (v2 : Int32) : m46 v0 v1 v2 &&& 1 = m46 v0 v1 v2 := by
  unfold m46
  (repeat' split) <;> rfl
theorem r47_0 : am_at 47 0 = some (.aload_n 0, 1, [0]) := by decide +kernel
theorem r47_1 : am_at 47 1 = some (.iload_n 1, 1, [1]) := by decide +kernel
theorem r47_2 : am_at 47 2 = some (.putfield 61, 3, [8, 0, 0, 1215]) := by decide +kernel
theorem r47_5 : am_at 47 5 = some (.iload_n 1, 1, [1]) := by decide +kernel
theorem r47_6 : am_at 47 6 = some (.ifCond .ne (7), 3, [13]) := by decide +kernel
theorem r47_9 : am_at 47 9 = some (.iconst (1), 1, []) := by decide +kernel
theorem r47_10 : am_at 47 10 = some (.goto (4), 3, [14]) := by decide +kernel
theorem r47_13 : am_at 47 13 = some (.iconst (0), 1, []) := by decide +kernel
theorem r47_14 : am_at 47 14 = some (.ireturn, 1, []) := by decide +kernel
theorem rt47 : am_rtt 47 = some (some .boolean) := by decide +kernel
set_option maxRecDepth 100000 in
theorem pg47 : am_pg[47]? = some am_m47 := rfl
theorem m47_w {d mc ms : Nat} {D : am_D} {v1 : Int32} {Q : am_O → am_AH → Prop} (hd : 1 ≤ d) {r : Int32 × am_D} (h : m47 D v1 = r) (hQ : Q (.inl (some (.int r.1))) (am_mk r.2)) : am_X xs L 47 d mc ms 0 [.ref 106, .int v1] [] (am_mk D) 0 0 Q := by
  unfold m47 at h
  refine x_ld (v := .ref 106) r47_0 rfl rfl rfl ?_
  refine x_ld (v := .int v1) r47_1 rfl rfl rfl ?_
  obtain ⟨D1, e2, h⟩ := am_ltE h
  refine y_pf0 r47_2 rfl e2 rfl ?_
  refine x_ld (v := .int v1) r47_5 rfl rfl rfl ?_
  rcases am_ifE h with ⟨c3, h⟩ | ⟨c3, h⟩
  · refine x_ifneT r47_6 c3 rfl ?_
    refine x_ic (v := 1) r47_9 rfl rfl ?_
    refine x_goto r47_10 ?_
    subst h
    exact x_ret (ret := some .boolean) (C := narrow .boolean (.int (1 : Int32)) = .int (1 : Int32)) (v := some (.int (1 : Int32))) r47_14 rt47 rfl rfl rfl rfl rfl rfl rfl rfl (by decide) hQ
  · refine x_ifneF r47_6 c3 ?_
    refine x_ic (v := 0) r47_13 rfl rfl ?_
    subst h
    exact x_ret (ret := some .boolean) (C := narrow .boolean (.int (0 : Int32)) = .int (0 : Int32)) (v := some (.int (0 : Int32))) r47_14 rt47 rfl rfl rfl rfl rfl rfl rfl rfl (by decide) hQ
theorem m47_ok {D : am_D} {v1 : Int32} {r : Int32 × am_D} (h : m47 D v1 = r) : am_Y xs L 47 1 0 0 [.ref 106, .int v1] D (.inl (some (.int r.1))) r.2 := am_Yof (mi := am_m47) (lc := [.ref 106, .int v1]) pg47 (Nat.le_of_ble_eq_true rfl) (am_rc1 (ci := 8) rfl rfl rfl rfl rfl) rfl (fun Q hQ => m47_w (Nat.le_refl _) h hQ)
theorem r48_0 : am_at 48 0 = some (.iload_n 0, 1, [0]) := by decide +kernel
theorem r48_1 : am_at 48 1 = some (.iconst (0), 1, []) := by decide +kernel
theorem r48_2 : am_at 48 2 = some (.iconst (3), 1, []) := by decide +kernel
theorem r48_3 : am_at 48 3 = some (.invokestatic 65, 3, [46, 3, 1305, 0]) := by decide +kernel
theorem r48_6 : am_at 48 6 = some (.ireturn, 1, []) := by decide +kernel
theorem rt48 : am_rtt 48 = some (some .boolean) := by decide +kernel
set_option maxRecDepth 100000 in
theorem pg48 : am_pg[48]? = some am_m48 := rfl
theorem m48_w {d mc ms : Nat} {D : am_D} {v0 : Int32} {Q : am_O → am_AH → Prop} (hd : 2 ≤ d) {r : Int32} (h : m48 v0 = r) (hQ : Q (.inl (some (.int r))) (am_mk D)) : am_X xs L 48 d mc ms 0 [.int v0] [] (am_mk D) 0 0 Q := by
  unfold m48 at h
  refine x_ld (v := .int v0) r48_0 rfl rfl rfl ?_
  refine x_ic (v := 0) r48_1 rfl rfl ?_
  refine x_ic (v := 3) r48_2 rfl rfl ?_
  refine x_call1 (as := [.int v0, .int (0 : Int32), .int (3 : Int32)]) (rest := []) r48_3 rfl rfl rfl (by decide) (Nat.le_of_ble_eq_true rfl) (m46_ok rfl) (Nat.le_trans (by decide) hd) (Nat.zero_le _) (Nat.zero_le _) rfl ?_
  subst h
  exact x_ret (ret := some .boolean) (C := narrow .boolean (.int _) = .int _) (v := some (.int _)) r48_6 rt48 rfl rfl rfl rfl rfl rfl rfl rfl (congrArg Value.int (m46_b ..)) hQ
theorem m48_ok {D : am_D} {v0 : Int32} {r : Int32} (h : m48 v0 = r) : am_Y xs L 48 2 0 0 [.int v0] D (.inl (some (.int r))) D := am_Yof (mi := am_m48) (lc := [.int v0]) pg48 (Nat.le_of_ble_eq_true rfl) (am_rc0 rfl) rfl (fun Q hQ => m48_w (Nat.le_refl _) h hQ)
theorem m48_b (v0 : Int32) : m48 v0 &&& 1 = m48 v0 := by
  unfold m48
  exact m46_b ..
theorem r49_0 : am_at 49 0 = some (.iload_n 0, 1, [0]) := by decide +kernel
theorem r49_1 : am_at 49 1 = some (.iconst (0), 1, []) := by decide +kernel
theorem r49_2 : am_at 49 2 = some (.bipush (27), 2, []) := by decide +kernel
theorem r49_4 : am_at 49 4 = some (.invokestatic 65, 3, [46, 3, 1305, 0]) := by decide +kernel
theorem r49_7 : am_at 49 7 = some (.ireturn, 1, []) := by decide +kernel
theorem rt49 : am_rtt 49 = some (some .boolean) := by decide +kernel
set_option maxRecDepth 100000 in
theorem pg49 : am_pg[49]? = some am_m49 := rfl
theorem m49_w {d mc ms : Nat} {D : am_D} {v0 : Int32} {Q : am_O → am_AH → Prop} (hd : 2 ≤ d) {r : Int32} (h : m49 v0 = r) (hQ : Q (.inl (some (.int r))) (am_mk D)) : am_X xs L 49 d mc ms 0 [.int v0] [] (am_mk D) 0 0 Q := by
  unfold m49 at h
  refine x_ld (v := .int v0) r49_0 rfl rfl rfl ?_
  refine x_ic (v := 0) r49_1 rfl rfl ?_
  refine x_bi (v := 27) r49_2 rfl rfl ?_
  refine x_call1 (as := [.int v0, .int (0 : Int32), .int (27 : Int32)]) (rest := []) r49_4 rfl rfl rfl (by decide) (Nat.le_of_ble_eq_true rfl) (m46_ok rfl) (Nat.le_trans (by decide) hd) (Nat.zero_le _) (Nat.zero_le _) rfl ?_
  subst h
  exact x_ret (ret := some .boolean) (C := narrow .boolean (.int _) = .int _) (v := some (.int _)) r49_7 rt49 rfl rfl rfl rfl rfl rfl rfl rfl (congrArg Value.int (m46_b ..)) hQ
theorem m49_ok {D : am_D} {v0 : Int32} {r : Int32} (h : m49 v0 = r) : am_Y xs L 49 2 0 0 [.int v0] D (.inl (some (.int r))) D := am_Yof (mi := am_m49) (lc := [.int v0]) pg49 (Nat.le_of_ble_eq_true rfl) (am_rc0 rfl) rfl (fun Q hQ => m49_w (Nat.le_refl _) h hQ)
theorem m49_b (v0 : Int32) : m49 v0 &&& 1 = m49 v0 := by
  unfold m49
  exact m46_b ..
theorem r50_0 : am_at 50 0 = some (.iload_n 0, 1, [0]) := by decide +kernel
theorem r50_1 : am_at 50 1 = some (.iconst (0), 1, []) := by decide +kernel
theorem r50_2 : am_at 50 2 = some (.iconst (1), 1, []) := by decide +kernel
theorem r50_3 : am_at 50 3 = some (.invokestatic 65, 3, [46, 3, 1305, 0]) := by decide +kernel
theorem r50_6 : am_at 50 6 = some (.ireturn, 1, []) := by decide +kernel
theorem rt50 : am_rtt 50 = some (some .boolean) := by decide +kernel
set_option maxRecDepth 100000 in
theorem pg50 : am_pg[50]? = some am_m50 := rfl
theorem m50_w {d mc ms : Nat} {D : am_D} {v0 : Int32} {Q : am_O → am_AH → Prop} (hd : 2 ≤ d) {r : Int32} (h : m50 v0 = r) (hQ : Q (.inl (some (.int r))) (am_mk D)) : am_X xs L 50 d mc ms 0 [.int v0] [] (am_mk D) 0 0 Q := by
  unfold m50 at h
  refine x_ld (v := .int v0) r50_0 rfl rfl rfl ?_
  refine x_ic (v := 0) r50_1 rfl rfl ?_
  refine x_ic (v := 1) r50_2 rfl rfl ?_
  refine x_call1 (as := [.int v0, .int (0 : Int32), .int (1 : Int32)]) (rest := []) r50_3 rfl rfl rfl (by decide) (Nat.le_of_ble_eq_true rfl) (m46_ok rfl) (Nat.le_trans (by decide) hd) (Nat.zero_le _) (Nat.zero_le _) rfl ?_
  subst h
  exact x_ret (ret := some .boolean) (C := narrow .boolean (.int _) = .int _) (v := some (.int _)) r50_6 rt50 rfl rfl rfl rfl rfl rfl rfl rfl (congrArg Value.int (m46_b ..)) hQ
theorem m50_ok {D : am_D} {v0 : Int32} {r : Int32} (h : m50 v0 = r) : am_Y xs L 50 2 0 0 [.int v0] D (.inl (some (.int r))) D := am_Yof (mi := am_m50) (lc := [.int v0]) pg50 (Nat.le_of_ble_eq_true rfl) (am_rc0 rfl) rfl (fun Q hQ => m50_w (Nat.le_refl _) h hQ)
theorem m50_b (v0 : Int32) : m50 v0 &&& 1 = m50 v0 := by
  unfold m50
  exact m46_b ..
theorem r51_0 : am_at 51 0 = some (.aload_n 0, 1, [0]) := by decide +kernel
theorem r51_1 : am_at 51 1 = some (.getfield 16, 3, [8, 9, 3, 1224]) := by decide +kernel
theorem r51_4 : am_at 51 4 = some (.iload_n 1, 1, [1]) := by decide +kernel
theorem r51_5 : am_at 51 5 = some (.iaload, 1, []) := by decide +kernel
theorem r51_6 : am_at 51 6 = some (.aload_n 0, 1, [0]) := by decide +kernel
theorem r51_7 : am_at 51 7 = some (.getfield 19, 3, [8, 10, 3, 1225]) := by decide +kernel
theorem r51_10 : am_at 51 10 = some (.iload_n 1, 1, [1]) := by decide +kernel
theorem r51_11 : am_at 51 11 = some (.iaload, 1, []) := by decide +kernel
theorem r51_12 : am_at 51 12 = some (.iadd, 1, []) := by decide +kernel
theorem r51_13 : am_at 51 13 = some (.ireturn, 1, []) := by decide +kernel
theorem rt51 : am_rtt 51 = some (some .int) := by decide +kernel
set_option maxRecDepth 100000 in
theorem pg51 : am_pg[51]? = some am_m51 := rfl
theorem m51_w {d mc ms : Nat} {D : am_D} {v1 : Int32} {Q : am_O → am_AH → Prop} (hd : 1 ≤ d) {r : Int32} (h : m51 D v1 = some r) (hQ : Q (.inl (some (.int r))) (am_mk D)) : am_X xs L 51 d mc ms 0 [.ref 106, .int v1] [] (am_mk D) 0 0 Q := by
  unfold m51 at h
  refine x_ld (v := .ref 106) r51_0 rfl rfl rfl ?_
  refine y_gf (cd := 111) (v := .ref 109) r51_1 rfl rfl rfl ?_
  refine x_ld (v := .int v1) r51_4 rfl rfl rfl ?_
  obtain ⟨g1, h⟩ := am_gdE h
  refine y_ial (n := 28) r51_5 rfl (by decide) g1 rfl rfl ?_
  refine x_ld (v := .ref 106) r51_6 rfl rfl rfl ?_
  refine y_gf (cd := 112) (v := .ref 110) r51_7 rfl rfl rfl ?_
  refine x_ld (v := .int v1) r51_10 rfl rfl rfl ?_
  obtain ⟨g2, h⟩ := am_gdE h
  refine y_ial (n := 28) r51_11 rfl (by decide) g2 rfl rfl ?_
  refine x_ar r51_12 rfl trivial rfl ?_
  cases h
  exact x_ret (ret := some .int) (C := True) (v := some (.int _)) r51_13 rt51 rfl rfl rfl rfl rfl rfl rfl rfl trivial hQ
theorem m51_ok {D : am_D} {v1 : Int32} {r : Int32} (h : m51 D v1 = some r) : am_Y xs L 51 1 0 0 [.ref 106, .int v1] D (.inl (some (.int r))) D := am_Yof (mi := am_m51) (lc := [.ref 106, .int v1]) pg51 (Nat.le_of_ble_eq_true rfl) (am_rc1 (ci := 8) rfl rfl rfl rfl rfl) rfl (fun Q hQ => m51_w (Nat.le_refl _) h hQ)
theorem r52_0 : am_at 52 0 = some (.aload_n 0, 1, [0]) := by decide +kernel
theorem r52_1 : am_at 52 1 = some (.getfield 16, 3, [8, 9, 3, 1224]) := by decide +kernel
theorem r52_4 : am_at 52 4 = some (.iload_n 1, 1, [1]) := by decide +kernel
theorem r52_5 : am_at 52 5 = some (.iaload, 1, []) := by decide +kernel
theorem r52_6 : am_at 52 6 = some (.aload_n 0, 1, [0]) := by decide +kernel
theorem r52_7 : am_at 52 7 = some (.getfield 19, 3, [8, 10, 3, 1225]) := by decide +kernel
theorem r52_10 : am_at 52 10 = some (.iload_n 1, 1, [1]) := by decide +kernel
theorem r52_11 : am_at 52 11 = some (.iaload, 1, []) := by decide +kernel
theorem r52_12 : am_at 52 12 = some (.if_icmp .ne (7), 3, [19]) := by decide +kernel
theorem r52_15 : am_at 52 15 = some (.iconst (1), 1, []) := by decide +kernel
theorem r52_16 : am_at 52 16 = some (.goto (4), 3, [20]) := by decide +kernel
theorem r52_19 : am_at 52 19 = some (.iconst (0), 1, []) := by decide +kernel
theorem r52_20 : am_at 52 20 = some (.ireturn, 1, []) := by decide +kernel
theorem rt52 : am_rtt 52 = some (some .boolean) := by decide +kernel
set_option maxRecDepth 100000 in
theorem pg52 : am_pg[52]? = some am_m52 := rfl
theorem m52_w {d mc ms : Nat} {D : am_D} {v1 : Int32} {Q : am_O → am_AH → Prop} (hd : 1 ≤ d) {r : Int32} (h : m52 D v1 = some r) (hQ : Q (.inl (some (.int r))) (am_mk D)) : am_X xs L 52 d mc ms 0 [.ref 106, .int v1] [] (am_mk D) 0 0 Q := by
  unfold m52 at h
  refine x_ld (v := .ref 106) r52_0 rfl rfl rfl ?_
  refine y_gf (cd := 111) (v := .ref 109) r52_1 rfl rfl rfl ?_
  refine x_ld (v := .int v1) r52_4 rfl rfl rfl ?_
  obtain ⟨g1, h⟩ := am_gdE h
  refine y_ial (n := 28) r52_5 rfl (by decide) g1 rfl rfl ?_
  refine x_ld (v := .ref 106) r52_6 rfl rfl rfl ?_
  refine y_gf (cd := 112) (v := .ref 110) r52_7 rfl rfl rfl ?_
  refine x_ld (v := .int v1) r52_10 rfl rfl rfl ?_
  obtain ⟨g2, h⟩ := am_gdE h
  refine y_ial (n := 28) r52_11 rfl (by decide) g2 rfl rfl ?_
  rcases am_ifE h with ⟨c3, h⟩ | ⟨c3, h⟩
  · refine x_icneT r52_12 c3 rfl ?_
    refine x_ic (v := 1) r52_15 rfl rfl ?_
    refine x_goto r52_16 ?_
    cases h
    exact x_ret (ret := some .boolean) (C := narrow .boolean (.int (1 : Int32)) = .int (1 : Int32)) (v := some (.int (1 : Int32))) r52_20 rt52 rfl rfl rfl rfl rfl rfl rfl rfl (by decide) hQ
  · refine x_icneF r52_12 c3 ?_
    refine x_ic (v := 0) r52_19 rfl rfl ?_
    cases h
    exact x_ret (ret := some .boolean) (C := narrow .boolean (.int (0 : Int32)) = .int (0 : Int32)) (v := some (.int (0 : Int32))) r52_20 rt52 rfl rfl rfl rfl rfl rfl rfl rfl (by decide) hQ
theorem m52_ok {D : am_D} {v1 : Int32} {r : Int32} (h : m52 D v1 = some r) : am_Y xs L 52 1 0 0 [.ref 106, .int v1] D (.inl (some (.int r))) D := am_Yof (mi := am_m52) (lc := [.ref 106, .int v1]) pg52 (Nat.le_of_ble_eq_true rfl) (am_rc1 (ci := 8) rfl rfl rfl rfl rfl) rfl (fun Q hQ => m52_w (Nat.le_refl _) h hQ)
theorem r53_0 : am_at 53 0 = some (.aload_n 0, 1, [0]) := by decide +kernel
theorem r53_1 : am_at 53 1 = some (.getfield 16, 3, [8, 9, 3, 1224]) := by decide +kernel
theorem r53_4 : am_at 53 4 = some (.iload_n 1, 1, [1]) := by decide +kernel
theorem r53_5 : am_at 53 5 = some (.iaload, 1, []) := by decide +kernel
theorem r53_6 : am_at 53 6 = some (.iload_n 2, 1, [2]) := by decide +kernel
theorem r53_7 : am_at 53 7 = some (.if_icmp .eq (13), 3, [20]) := by decide +kernel
theorem r53_10 : am_at 53 10 = some (.aload_n 0, 1, [0]) := by decide +kernel
theorem r53_11 : am_at 53 11 = some (.getfield 19, 3, [8, 10, 3, 1225]) := by decide +kernel
theorem r53_14 : am_at 53 14 = some (.iload_n 1, 1, [1]) := by decide +kernel
theorem r53_15 : am_at 53 15 = some (.iaload, 1, []) := by decide +kernel
theorem r53_16 : am_at 53 16 = some (.iload_n 2, 1, [2]) := by decide +kernel
theorem r53_17 : am_at 53 17 = some (.if_icmp .ne (7), 3, [24]) := by decide +kernel
theorem r53_20 : am_at 53 20 = some (.iconst (1), 1, []) := by decide +kernel
theorem r53_21 : am_at 53 21 = some (.goto (4), 3, [25]) := by decide +kernel
theorem r53_24 : am_at 53 24 = some (.iconst (0), 1, []) := by decide +kernel
theorem r53_25 : am_at 53 25 = some (.ireturn, 1, []) := by decide +kernel
theorem rt53 : am_rtt 53 = some (some .boolean) := by decide +kernel
set_option maxRecDepth 100000 in
theorem pg53 : am_pg[53]? = some am_m53 := rfl
theorem m53_w {d mc ms : Nat} {D : am_D} {v1 : Int32} {v2 : Int32} {Q : am_O → am_AH → Prop} (hd : 1 ≤ d) {r : Int32} (h : m53 D v1 v2 = some r) (hQ : Q (.inl (some (.int r))) (am_mk D)) : am_X xs L 53 d mc ms 0 [.ref 106, .int v1, .int v2] [] (am_mk D) 0 0 Q := by
  unfold m53 at h
  refine x_ld (v := .ref 106) r53_0 rfl rfl rfl ?_
  refine y_gf (cd := 111) (v := .ref 109) r53_1 rfl rfl rfl ?_
  refine x_ld (v := .int v1) r53_4 rfl rfl rfl ?_
  obtain ⟨g1, h⟩ := am_gdE h
  refine y_ial (n := 28) r53_5 rfl (by decide) g1 rfl rfl ?_
  refine x_ld (v := .int v2) r53_6 rfl rfl rfl ?_
  rcases am_ifE h with ⟨c2, h⟩ | ⟨c2, h⟩
  · refine x_iceqT r53_7 c2 ?_
    refine x_ic (v := 1) r53_20 rfl rfl ?_
    refine x_goto r53_21 ?_
    cases h
    exact x_ret (ret := some .boolean) (C := narrow .boolean (.int (1 : Int32)) = .int (1 : Int32)) (v := some (.int (1 : Int32))) r53_25 rt53 rfl rfl rfl rfl rfl rfl rfl rfl (by decide) hQ
  · refine x_iceqF r53_7 c2 rfl ?_
    refine x_ld (v := .ref 106) r53_10 rfl rfl rfl ?_
    refine y_gf (cd := 112) (v := .ref 110) r53_11 rfl rfl rfl ?_
    refine x_ld (v := .int v1) r53_14 rfl rfl rfl ?_
    obtain ⟨g3, h⟩ := am_gdE h
    refine y_ial (n := 28) r53_15 rfl (by decide) g3 rfl rfl ?_
    refine x_ld (v := .int v2) r53_16 rfl rfl rfl ?_
    rcases am_ifE h with ⟨c4, h⟩ | ⟨c4, h⟩
    · refine x_icneT r53_17 c4 rfl ?_
      refine x_ic (v := 1) r53_20 rfl rfl ?_
      refine x_goto r53_21 ?_
      cases h
      exact x_ret (ret := some .boolean) (C := narrow .boolean (.int (1 : Int32)) = .int (1 : Int32)) (v := some (.int (1 : Int32))) r53_25 rt53 rfl rfl rfl rfl rfl rfl rfl rfl (by decide) hQ
    · refine x_icneF r53_17 c4 ?_
      refine x_ic (v := 0) r53_24 rfl rfl ?_
      cases h
      exact x_ret (ret := some .boolean) (C := narrow .boolean (.int (0 : Int32)) = .int (0 : Int32)) (v := some (.int (0 : Int32))) r53_25 rt53 rfl rfl rfl rfl rfl rfl rfl rfl (by decide) hQ
theorem m53_ok {D : am_D} {v1 : Int32} {v2 : Int32} {r : Int32} (h : m53 D v1 v2 = some r) : am_Y xs L 53 1 0 0 [.ref 106, .int v1, .int v2] D (.inl (some (.int r))) D := am_Yof (mi := am_m53) (lc := [.ref 106, .int v1, .int v2]) pg53 (Nat.le_of_ble_eq_true rfl) (am_rc1 (ci := 8) rfl rfl rfl rfl rfl) rfl (fun Q hQ => m53_w (Nat.le_refl _) h hQ)
theorem r54_0 : am_at 54 0 = some (.aload_n 0, 1, [0]) := by decide +kernel
theorem r54_1 : am_at 54 1 = some (.getfield 16, 3, [8, 9, 3, 1224]) := by decide +kernel
theorem r54_4 : am_at 54 4 = some (.iload_n 1, 1, [1]) := by decide +kernel
theorem r54_5 : am_at 54 5 = some (.iaload, 1, []) := by decide +kernel
theorem r54_6 : am_at 54 6 = some (.aload_n 0, 1, [0]) := by decide +kernel
theorem r54_7 : am_at 54 7 = some (.getfield 19, 3, [8, 10, 3, 1225]) := by decide +kernel
theorem r54_10 : am_at 54 10 = some (.iload_n 1, 1, [1]) := by decide +kernel
theorem r54_11 : am_at 54 11 = some (.iaload, 1, []) := by decide +kernel
theorem r54_12 : am_at 54 12 = some (.iadd, 1, []) := by decide +kernel
theorem r54_13 : am_at 54 13 = some (.iload_n 2, 1, [2]) := by decide +kernel
theorem r54_14 : am_at 54 14 = some (.isub, 1, []) := by decide +kernel
theorem r54_15 : am_at 54 15 = some (.ireturn, 1, []) := by decide +kernel
theorem rt54 : am_rtt 54 = some (some .int) := by decide +kernel
set_option maxRecDepth 100000 in
theorem pg54 : am_pg[54]? = some am_m54 := rfl
theorem m54_w {d mc ms : Nat} {D : am_D} {v1 : Int32} {v2 : Int32} {Q : am_O → am_AH → Prop} (hd : 1 ≤ d) {r : Int32} (h : m54 D v1 v2 = some r) (hQ : Q (.inl (some (.int r))) (am_mk D)) : am_X xs L 54 d mc ms 0 [.ref 106, .int v1, .int v2] [] (am_mk D) 0 0 Q := by
  unfold m54 at h
  refine x_ld (v := .ref 106) r54_0 rfl rfl rfl ?_
  refine y_gf (cd := 111) (v := .ref 109) r54_1 rfl rfl rfl ?_
  refine x_ld (v := .int v1) r54_4 rfl rfl rfl ?_
  obtain ⟨g1, h⟩ := am_gdE h
  refine y_ial (n := 28) r54_5 rfl (by decide) g1 rfl rfl ?_
  refine x_ld (v := .ref 106) r54_6 rfl rfl rfl ?_
  refine y_gf (cd := 112) (v := .ref 110) r54_7 rfl rfl rfl ?_
  refine x_ld (v := .int v1) r54_10 rfl rfl rfl ?_
  obtain ⟨g2, h⟩ := am_gdE h
  refine y_ial (n := 28) r54_11 rfl (by decide) g2 rfl rfl ?_
  refine x_ar r54_12 rfl trivial rfl ?_
  refine x_ld (v := .int v2) r54_13 rfl rfl rfl ?_
  refine x_ar r54_14 rfl trivial rfl ?_
  cases h
  exact x_ret (ret := some .int) (C := True) (v := some (.int _)) r54_15 rt54 rfl rfl rfl rfl rfl rfl rfl rfl trivial hQ
theorem m54_ok {D : am_D} {v1 : Int32} {v2 : Int32} {r : Int32} (h : m54 D v1 v2 = some r) : am_Y xs L 54 1 0 0 [.ref 106, .int v1, .int v2] D (.inl (some (.int r))) D := am_Yof (mi := am_m54) (lc := [.ref 106, .int v1, .int v2]) pg54 (Nat.le_of_ble_eq_true rfl) (am_rc1 (ci := 8) rfl rfl rfl rfl rfl) rfl (fun Q hQ => m54_w (Nat.le_refl _) h hQ)
theorem r55_0 : am_at 55 0 = some (.iload_n 0, 1, [0]) := by decide +kernel
theorem r55_1 : am_at 55 1 = some (.iload_n 1, 1, [1]) := by decide +kernel
theorem r55_2 : am_at 55 2 = some (.if_icmp .ge (7), 3, [9]) := by decide +kernel
theorem r55_5 : am_at 55 5 = some (.iload_n 0, 1, [0]) := by decide +kernel
theorem r55_6 : am_at 55 6 = some (.goto (4), 3, [10]) := by decide +kernel
theorem r55_9 : am_at 55 9 = some (.iload_n 1, 1, [1]) := by decide +kernel
theorem r55_10 : am_at 55 10 = some (.istore_n 2, 1, [2]) := by decide +kernel
theorem r55_11 : am_at 55 11 = some (.iload_n 0, 1, [0]) := by decide +kernel
theorem r55_12 : am_at 55 12 = some (.iload_n 1, 1, [1]) := by decide +kernel
theorem r55_13 : am_at 55 13 = some (.if_icmp .ge (7), 3, [20]) := by decide +kernel
theorem r55_16 : am_at 55 16 = some (.iload_n 1, 1, [1]) := by decide +kernel
theorem r55_17 : am_at 55 17 = some (.goto (4), 3, [21]) := by decide +kernel
theorem r55_20 : am_at 55 20 = some (.iload_n 0, 1, [0]) := by decide +kernel
theorem r55_21 : am_at 55 21 = some (.istore_n 3, 1, [3]) := by decide +kernel
theorem r55_22 : am_at 55 22 = some (.iload_n 2, 1, [2]) := by decide +kernel
theorem r55_23 : am_at 55 23 = some (.bipush (7), 2, []) := by decide +kernel
theorem r55_25 : am_at 55 25 = some (.imul, 1, []) := by decide +kernel
theorem r55_26 : am_at 55 26 = some (.iload_n 2, 1, [2]) := by decide +kernel
theorem r55_27 : am_at 55 27 = some (.iload_n 2, 1, [2]) := by decide +kernel
theorem r55_28 : am_at 55 28 = some (.iconst (1), 1, []) := by decide +kernel
theorem r55_29 : am_at 55 29 = some (.isub, 1, []) := by decide +kernel
theorem r55_30 : am_at 55 30 = some (.imul, 1, []) := by decide +kernel
theorem r55_31 : am_at 55 31 = some (.iconst (2), 1, []) := by decide +kernel
theorem r55_32 : am_at 55 32 = some (.idiv, 1, []) := by decide +kernel
theorem r55_33 : am_at 55 33 = some (.isub, 1, []) := by decide +kernel
theorem r55_34 : am_at 55 34 = some (.iload_n 3, 1, [3]) := by decide +kernel
theorem r55_35 : am_at 55 35 = some (.iadd, 1, []) := by decide +kernel
theorem r55_36 : am_at 55 36 = some (.iload_n 2, 1, [2]) := by decide +kernel
theorem r55_37 : am_at 55 37 = some (.isub, 1, []) := by decide +kernel
theorem r55_38 : am_at 55 38 = some (.ireturn, 1, []) := by decide +kernel
theorem rt55 : am_rtt 55 = some (some .int) := by decide +kernel
set_option maxRecDepth 100000 in
theorem pg55 : am_pg[55]? = some am_m55 := rfl
theorem m55_w {d mc ms : Nat} {D : am_D} {v0 : Int32} {v1 : Int32} {Q : am_O → am_AH → Prop} (hd : 1 ≤ d) {r : Int32} (h : m55 v0 v1 = r) (hQ : Q (.inl (some (.int r))) (am_mk D)) : am_X xs L 55 d mc ms 0 [.int v0, .int v1, am_dead, am_dead] [] (am_mk D) 0 0 Q := by
  unfold m55 at h
  refine x_ld (v := .int v0) r55_0 rfl rfl rfl ?_
  refine x_ld (v := .int v1) r55_1 rfl rfl rfl ?_
  obtain ⟨q1, h3, h⟩ := am_ltE h
  replace h3 := h3.symm
  have kj2 : am_X xs L 55 d mc ms 10 [.int v0, .int v1, am_dead, am_dead] [.int q1] (am_mk D) 0 0 Q := by
    refine x_sto (lc' := [.int v0, .int v1, .int q1, am_dead]) r55_10 rfl rfl rfl rfl ?_
    refine x_ld (v := .int v0) r55_11 rfl rfl rfl ?_
    refine x_ld (v := .int v1) r55_12 rfl rfl rfl ?_
    obtain ⟨q5, h7, h⟩ := am_ltE h
    replace h7 := h7.symm
    have kj6 : am_X xs L 55 d mc ms 21 [.int v0, .int v1, .int q1, am_dead] [.int q5] (am_mk D) 0 0 Q := by
      refine x_sto (lc' := [.int v0, .int v1, .int q1, .int q5]) r55_21 rfl rfl rfl rfl ?_
      refine x_ld (v := .int q1) r55_22 rfl rfl rfl ?_
      refine x_bi (v := 7) r55_23 rfl rfl ?_
      refine x_ar r55_25 rfl trivial rfl ?_
      refine x_ld (v := .int q1) r55_26 rfl rfl rfl ?_
      refine x_ld (v := .int q1) r55_27 rfl rfl rfl ?_
      refine x_ic (v := 1) r55_28 rfl rfl ?_
      refine x_ar r55_29 rfl trivial rfl ?_
      refine x_ar r55_30 rfl trivial rfl ?_
      refine x_ic (v := 2) r55_31 rfl rfl ?_
      refine x_ar r55_32 rfl (by decide) rfl ?_
      refine x_ar r55_33 rfl trivial rfl ?_
      refine x_ld (v := .int q5) r55_34 rfl rfl rfl ?_
      refine x_ar r55_35 rfl trivial rfl ?_
      refine x_ld (v := .int q1) r55_36 rfl rfl rfl ?_
      refine x_ar r55_37 rfl trivial rfl ?_
      subst h
      exact x_ret (ret := some .int) (C := True) (v := some (.int _)) r55_38 rt55 rfl rfl rfl rfl rfl rfl rfl rfl trivial hQ
    rcases am_ifE h7 with ⟨c8, h7⟩ | ⟨c8, h7⟩
    · refine x_icgeT r55_13 c8 ?_
      refine x_ld (v := .int v0) r55_20 rfl rfl rfl ?_
      subst h7
      exact kj6
    · refine x_icgeF r55_13 c8 rfl ?_
      refine x_ld (v := .int v1) r55_16 rfl rfl rfl ?_
      refine x_goto r55_17 ?_
      subst h7
      exact kj6
  rcases am_ifE h3 with ⟨c4, h3⟩ | ⟨c4, h3⟩
  · refine x_icgeT r55_2 c4 ?_
    refine x_ld (v := .int v1) r55_9 rfl rfl rfl ?_
    subst h3
    exact kj2
  · refine x_icgeF r55_2 c4 rfl ?_
    refine x_ld (v := .int v0) r55_5 rfl rfl rfl ?_
    refine x_goto r55_6 ?_
    subst h3
    exact kj2
theorem m55_ok {D : am_D} {v0 : Int32} {v1 : Int32} {r : Int32} (h : m55 v0 v1 = r) : am_Y xs L 55 1 0 0 [.int v0, .int v1] D (.inl (some (.int r))) D := am_Yof (mi := am_m55) (lc := [.int v0, .int v1, am_dead, am_dead]) pg55 (Nat.le_of_ble_eq_true rfl) (am_rc0 rfl) rfl (fun Q hQ => m55_w (Nat.le_refl _) h hQ)
theorem r56_0 : am_at 56 0 = some (.aload_n 0, 1, [0]) := by decide +kernel
theorem r56_1 : am_at 56 1 = some (.getfield 7, 3, [8, 1, 3, 1216]) := by decide +kernel
theorem r56_4 : am_at 56 4 = some (.bipush (25), 2, []) := by decide +kernel
theorem r56_6 : am_at 56 6 = some (.iload_n 2, 1, [2]) := by decide +kernel
theorem r56_7 : am_at 56 7 = some (.iadd, 1, []) := by decide +kernel
theorem r56_8 : am_at 56 8 = some (.iaload, 1, []) := by decide +kernel
theorem r56_9 : am_at 56 9 = some (.iload_n 1, 1, [1]) := by decide +kernel
theorem r56_10 : am_at 56 10 = some (.if_icmp .ne (7), 3, [17]) := by decide +kernel
theorem r56_13 : am_at 56 13 = some (.iconst (1), 1, []) := by decide +kernel
theorem r56_14 : am_at 56 14 = some (.goto (4), 3, [18]) := by decide +kernel
theorem r56_17 : am_at 56 17 = some (.iconst (0), 1, []) := by decide +kernel
theorem r56_18 : am_at 56 18 = some (.ireturn, 1, []) := by decide +kernel
theorem rt56 : am_rtt 56 = some (some .boolean) := by decide +kernel
set_option maxRecDepth 100000 in
theorem pg56 : am_pg[56]? = some am_m56 := rfl
theorem m56_w {d mc ms : Nat} {D : am_D} {v1 : Int32} {v2 : Int32} {Q : am_O → am_AH → Prop} (hd : 1 ≤ d) {r : Int32} (h : m56 D v1 v2 = some r) (hQ : Q (.inl (some (.int r))) (am_mk D)) : am_X xs L 56 d mc ms 0 [.ref 106, .int v1, .int v2] [] (am_mk D) 0 0 Q := by
  unfold m56 at h
  refine x_ld (v := .ref 106) r56_0 rfl rfl rfl ?_
  refine y_gf (cd := 109) (v := .ref 107) r56_1 rfl rfl rfl ?_
  refine x_bi (v := 25) r56_4 rfl rfl ?_
  refine x_ld (v := .int v2) r56_6 rfl rfl rfl ?_
  refine x_ar r56_7 rfl trivial rfl ?_
  obtain ⟨g1, h⟩ := am_gdE h
  refine y_ial (n := 1320) r56_8 rfl (by decide) g1 rfl rfl ?_
  refine x_ld (v := .int v1) r56_9 rfl rfl rfl ?_
  rcases am_ifE h with ⟨c2, h⟩ | ⟨c2, h⟩
  · refine x_icneT r56_10 c2 rfl ?_
    refine x_ic (v := 1) r56_13 rfl rfl ?_
    refine x_goto r56_14 ?_
    cases h
    exact x_ret (ret := some .boolean) (C := narrow .boolean (.int (1 : Int32)) = .int (1 : Int32)) (v := some (.int (1 : Int32))) r56_18 rt56 rfl rfl rfl rfl rfl rfl rfl rfl (by decide) hQ
  · refine x_icneF r56_10 c2 ?_
    refine x_ic (v := 0) r56_17 rfl rfl ?_
    cases h
    exact x_ret (ret := some .boolean) (C := narrow .boolean (.int (0 : Int32)) = .int (0 : Int32)) (v := some (.int (0 : Int32))) r56_18 rt56 rfl rfl rfl rfl rfl rfl rfl rfl (by decide) hQ
theorem m56_ok {D : am_D} {v1 : Int32} {v2 : Int32} {r : Int32} (h : m56 D v1 v2 = some r) : am_Y xs L 56 1 0 0 [.ref 106, .int v1, .int v2] D (.inl (some (.int r))) D := am_Yof (mi := am_m56) (lc := [.ref 106, .int v1, .int v2]) pg56 (Nat.le_of_ble_eq_true rfl) (am_rc1 (ci := 8) rfl rfl rfl rfl rfl) rfl (fun Q hQ => m56_w (Nat.le_refl _) h hQ)
theorem r57_0 : am_at 57 0 = some (.iconst (0), 1, []) := by decide +kernel
theorem r57_1 : am_at 57 1 = some (.istore_n 2, 1, [2]) := by decide +kernel
theorem r57_2 : am_at 57 2 = some (.iconst (0), 1, []) := by decide +kernel
theorem r57_3 : am_at 57 3 = some (.istore_n 3, 1, [3]) := by decide +kernel
theorem r57_4 : am_at 57 4 = some (.iload_n 3, 1, [3]) := by decide +kernel
theorem r57_5 : am_at 57 5 = some (.bipush (28), 2, []) := by decide +kernel
theorem r57_7 : am_at 57 7 = some (.if_icmp .ge (30), 3, [37]) := by decide +kernel
theorem r57_10 : am_at 57 10 = some (.iload_n 2, 1, [2]) := by decide +kernel
theorem r57_11 : am_at 57 11 = some (.aload_n 0, 1, [0]) := by decide +kernel
theorem r57_12 : am_at 57 12 = some (.getfield 7, 3, [8, 1, 3, 1216]) := by decide +kernel
theorem r57_15 : am_at 57 15 = some (.bipush (25), 2, []) := by decide +kernel
theorem r57_17 : am_at 57 17 = some (.iload_n 3, 1, [3]) := by decide +kernel
theorem r57_18 : am_at 57 18 = some (.iadd, 1, []) := by decide +kernel
theorem r57_19 : am_at 57 19 = some (.iaload, 1, []) := by decide +kernel
theorem r57_20 : am_at 57 20 = some (.iload_n 1, 1, [1]) := by decide +kernel
theorem r57_21 : am_at 57 21 = some (.if_icmp .ne (7), 3, [28]) := by decide +kernel
theorem r57_24 : am_at 57 24 = some (.iconst (1), 1, []) := by decide +kernel
theorem r57_25 : am_at 57 25 = some (.goto (4), 3, [29]) := by decide +kernel
theorem r57_28 : am_at 57 28 = some (.iconst (0), 1, []) := by decide +kernel
theorem r57_29 : am_at 57 29 = some (.iadd, 1, []) := by decide +kernel
theorem r57_30 : am_at 57 30 = some (.istore_n 2, 1, [2]) := by decide +kernel
theorem r57_31 : am_at 57 31 = some (.iinc 3 (1), 3, [3]) := by decide +kernel
theorem r57_34 : am_at 57 34 = some (.goto (-30), 3, [4]) := by decide +kernel
theorem r57_37 : am_at 57 37 = some (.iload_n 2, 1, [2]) := by decide +kernel
theorem r57_38 : am_at 57 38 = some (.ireturn, 1, []) := by decide +kernel
theorem rt57 : am_rtt 57 = some (some .int) := by decide +kernel
set_option maxRecDepth 100000 in
theorem pg57 : am_pg[57]? = some am_m57 := rfl
theorem m57_L4_w {d : Nat} {N : Nat} {D : am_D} {v1 : Int32} {mc ms : Nat} {Q : am_O → am_AH → Prop} (hd : 1 ≤ d) : ∀ (n : Nat) (v2 : Int32) (v3 : Int32) {q : Int32} (h : m57_L4 N D v1  n v2 v3 = some q) (k0 : am_X xs L 57 d mc ms 37 [.ref 106, am_dead, .int q, am_dead] [] (am_mk D) 0 0 Q), am_X xs L 57 d mc ms 4 [.ref 106, .int v1, .int v2, .int v3] [] (am_mk D) 0 0 Q := by
  intro n
  induction n with
  | zero =>
    intro v2 v3 q h k0
    exact (nomatch (show none = some q from h))
  | succ n ih =>
    intro v2 v3 q h k0
    rw [m57_L4] at h
    refine x_ld (v := .int v3) r57_4 rfl rfl rfl ?_
    refine x_bi (v := 28) r57_5 rfl rfl ?_
    rcases am_ifE h with ⟨c1, h⟩ | ⟨c1, h⟩
    · refine x_icgeT r57_7 c1 ?_
      refine x_forget (lc0 := [.ref 106, am_dead, .int v2, am_dead]) ⟨Or.inl rfl, Or.inr ⟨rfl, rfl⟩, Or.inl rfl, Or.inr ⟨rfl, rfl⟩, trivial⟩ ?_
      cases h
      exact k0
    · refine x_icgeF r57_7 c1 rfl ?_
      refine x_ld (v := .int v2) r57_10 rfl rfl rfl ?_
      refine x_ld (v := .ref 106) r57_11 rfl rfl rfl ?_
      refine y_gf (cd := 109) (v := .ref 107) r57_12 rfl rfl rfl ?_
      refine x_bi (v := 25) r57_15 rfl rfl ?_
      refine x_ld (v := .int v3) r57_17 rfl rfl rfl ?_
      refine x_ar r57_18 rfl trivial rfl ?_
      obtain ⟨g2, h⟩ := am_gdE h
      refine y_ial (n := 1320) r57_19 rfl (by decide) g2 rfl rfl ?_
      refine x_ld (v := .int v1) r57_20 rfl rfl rfl ?_
      obtain ⟨q3, h5, h⟩ := am_ltE h
      replace h5 := h5.symm
      have kj4 : am_X xs L 57 d mc ms 29 [.ref 106, .int v1, .int v2, .int v3] [.int q3, .int v2] (am_mk D) 0 0 Q := by
        refine x_ar r57_29 rfl trivial rfl ?_
        obtain ⟨x7, e8, h⟩ := am_ltE h
        refine am_topI e8 ?_
        refine x_sto (lc' := [.ref 106, .int v1, .int x7, .int v3]) r57_30 rfl rfl rfl rfl ?_
        obtain ⟨x9, e10, h⟩ := am_ltE h
        refine x_sto (lc' := [.ref 106, .int v1, .int x7, .int x9]) r57_31 rfl rfl (by subst e10; rfl) rfl ?_
        refine x_goto r57_34 ?_
        exact x_forget (lc0 := [.ref 106, .int v1, .int x7, .int x9]) ⟨Or.inl rfl, Or.inl rfl, Or.inl rfl, Or.inl rfl, trivial⟩ (ih x7 x9 h k0)
      rcases am_ifE h5 with ⟨c6, h5⟩ | ⟨c6, h5⟩
      · refine x_icneT r57_21 c6 rfl ?_
        refine x_ic (v := 1) r57_24 rfl rfl ?_
        refine x_goto r57_25 ?_
        subst h5
        exact kj4
      · refine x_icneF r57_21 c6 ?_
        refine x_ic (v := 0) r57_28 rfl rfl ?_
        subst h5
        exact kj4
theorem m57_w {d mc ms : Nat} {N : Nat} {D : am_D} {v1 : Int32} {Q : am_O → am_AH → Prop} (hd : 1 ≤ d) {r : Int32} (h : m57 N D v1 = some r) (hQ : Q (.inl (some (.int r))) (am_mk D)) : am_X xs L 57 d mc ms 0 [.ref 106, .int v1, am_dead, am_dead] [] (am_mk D) 0 0 Q := by
  unfold m57 at h
  refine x_ic (v := 0) r57_0 rfl rfl ?_
  refine x_sto (lc' := [.ref 106, .int v1, .int (0 : Int32), am_dead]) r57_1 rfl rfl rfl rfl ?_
  refine x_ic (v := 0) r57_2 rfl rfl ?_
  refine x_sto (lc' := [.ref 106, .int v1, .int (0 : Int32), .int (0 : Int32)]) r57_3 rfl rfl rfl rfl ?_
  obtain ⟨q11, h12, h⟩ := Option.bind_eq_some_iff.mp h
  refine x_forget (lc0 := [.ref 106, .int v1, .int (0 : Int32), .int (0 : Int32)]) ⟨Or.inl rfl, Or.inl rfl, Or.inl rfl, Or.inl rfl, trivial⟩ (m57_L4_w hd N (0 : Int32) (0 : Int32) h12 ?_)
  refine x_ld (v := .int q11) r57_37 rfl rfl rfl ?_
  cases h
  exact x_ret (ret := some .int) (C := True) (v := some (.int _)) r57_38 rt57 rfl rfl rfl rfl rfl rfl rfl rfl trivial hQ
theorem m57_ok {N : Nat} {D : am_D} {v1 : Int32} {r : Int32} (h : m57 N D v1 = some r) : am_Y xs L 57 1 0 0 [.ref 106, .int v1] D (.inl (some (.int r))) D := am_Yof (mi := am_m57) (lc := [.ref 106, .int v1, am_dead, am_dead]) pg57 (Nat.le_of_ble_eq_true rfl) (am_rc1 (ci := 8) rfl rfl rfl rfl rfl) rfl (fun Q hQ => m57_w (Nat.le_refl _) h hQ)
theorem r58_0 : am_at 58 0 = some (.iconst (0), 1, []) := by decide +kernel
theorem r58_1 : am_at 58 1 = some (.istore_n 2, 1, [2]) := by decide +kernel
theorem r58_2 : am_at 58 2 = some (.iconst (0), 1, []) := by decide +kernel
theorem r58_3 : am_at 58 3 = some (.istore_n 3, 1, [3]) := by decide +kernel
theorem r58_4 : am_at 58 4 = some (.iload_n 3, 1, [3]) := by decide +kernel
theorem r58_5 : am_at 58 5 = some (.bipush (28), 2, []) := by decide +kernel
theorem r58_7 : am_at 58 7 = some (.if_icmp .ge (30), 3, [37]) := by decide +kernel
theorem r58_10 : am_at 58 10 = some (.iload_n 2, 1, [2]) := by decide +kernel
theorem r58_11 : am_at 58 11 = some (.aload_n 0, 1, [0]) := by decide +kernel
theorem r58_12 : am_at 58 12 = some (.iload_n 1, 1, [1]) := by decide +kernel
theorem r58_13 : am_at 58 13 = some (.iload_n 3, 1, [3]) := by decide +kernel
theorem r58_14 : am_at 58 14 = some (.invokevirtual 69, 3, [56, 3, 1315, 0]) := by decide +kernel
theorem r58_17 : am_at 58 17 = some (.ifCond .eq (11), 3, [28]) := by decide +kernel
theorem r58_20 : am_at 58 20 = some (.aload_n 0, 1, [0]) := by decide +kernel
theorem r58_21 : am_at 58 21 = some (.iload_n 3, 1, [3]) := by decide +kernel
theorem r58_22 : am_at 58 22 = some (.invokevirtual 73, 3, [51, 2, 1410, 0]) := by decide +kernel
theorem r58_25 : am_at 58 25 = some (.goto (4), 3, [29]) := by decide +kernel
theorem r58_28 : am_at 58 28 = some (.iconst (0), 1, []) := by decide +kernel
theorem r58_29 : am_at 58 29 = some (.iadd, 1, []) := by decide +kernel
theorem r58_30 : am_at 58 30 = some (.istore_n 2, 1, [2]) := by decide +kernel
theorem r58_31 : am_at 58 31 = some (.iinc 3 (1), 3, [3]) := by decide +kernel
theorem r58_34 : am_at 58 34 = some (.goto (-30), 3, [4]) := by decide +kernel
theorem r58_37 : am_at 58 37 = some (.iload_n 2, 1, [2]) := by decide +kernel
theorem r58_38 : am_at 58 38 = some (.ireturn, 1, []) := by decide +kernel
theorem rt58 : am_rtt 58 = some (some .int) := by decide +kernel
set_option maxRecDepth 100000 in
theorem pg58 : am_pg[58]? = some am_m58 := rfl
theorem m58_L4_w {d : Nat} {N : Nat} {D : am_D} {v1 : Int32} {mc ms : Nat} {Q : am_O → am_AH → Prop} (hd : 2 ≤ d) : ∀ (n : Nat) (v2 : Int32) (v3 : Int32) {q : Int32} (h : m58_L4 N D v1  n v2 v3 = some q) (k0 : am_X xs L 58 d mc ms 37 [.ref 106, am_dead, .int q, am_dead] [] (am_mk D) 0 0 Q), am_X xs L 58 d mc ms 4 [.ref 106, .int v1, .int v2, .int v3] [] (am_mk D) 0 0 Q := by
  intro n
  induction n with
  | zero =>
    intro v2 v3 q h k0
    exact (nomatch (show none = some q from h))
  | succ n ih =>
    intro v2 v3 q h k0
    rw [m58_L4] at h
    refine x_ld (v := .int v3) r58_4 rfl rfl rfl ?_
    refine x_bi (v := 28) r58_5 rfl rfl ?_
    rcases am_ifE h with ⟨c1, h⟩ | ⟨c1, h⟩
    · refine x_icgeT r58_7 c1 ?_
      refine x_forget (lc0 := [.ref 106, am_dead, .int v2, am_dead]) ⟨Or.inl rfl, Or.inr ⟨rfl, rfl⟩, Or.inl rfl, Or.inr ⟨rfl, rfl⟩, trivial⟩ ?_
      cases h
      exact k0
    · refine x_icgeF r58_7 c1 rfl ?_
      refine x_ld (v := .int v2) r58_10 rfl rfl rfl ?_
      refine x_ld (v := .ref 106) r58_11 rfl rfl rfl ?_
      refine x_ld (v := .int v1) r58_12 rfl rfl rfl ?_
      refine x_ld (v := .int v3) r58_13 rfl rfl rfl ?_
      obtain ⟨q2, h3, h⟩ := Option.bind_eq_some_iff.mp h
      refine x_call1 (as := [.ref 106, .int v1, .int v3]) (rest := [.int v2]) r58_14 rfl rfl rfl (by decide) (Nat.le_of_ble_eq_true rfl) (m56_ok h3) (Nat.le_trans (by decide) hd) (Nat.zero_le _) (Nat.zero_le _) rfl ?_
      obtain ⟨q4, h6, h⟩ := Option.bind_eq_some_iff.mp h
      have kj5 : am_X xs L 58 d mc ms 29 [.ref 106, .int v1, .int v2, .int v3] [.int q4, .int v2] (am_mk D) 0 0 Q := by
        refine x_ar r58_29 rfl trivial rfl ?_
        obtain ⟨x10, e11, h⟩ := am_ltE h
        refine am_topI e11 ?_
        refine x_sto (lc' := [.ref 106, .int v1, .int x10, .int v3]) r58_30 rfl rfl rfl rfl ?_
        obtain ⟨x12, e13, h⟩ := am_ltE h
        refine x_sto (lc' := [.ref 106, .int v1, .int x10, .int x12]) r58_31 rfl rfl (by subst e13; rfl) rfl ?_
        refine x_goto r58_34 ?_
        exact x_forget (lc0 := [.ref 106, .int v1, .int x10, .int x12]) ⟨Or.inl rfl, Or.inl rfl, Or.inl rfl, Or.inl rfl, trivial⟩ (ih x10 x12 h k0)
      rcases am_ifE h6 with ⟨c7, h6⟩ | ⟨c7, h6⟩
      · refine x_ifeqT r58_17 c7 ?_
        refine x_ic (v := 0) r58_28 rfl rfl ?_
        cases h6
        exact kj5
      · refine x_ifeqF r58_17 c7 rfl ?_
        refine x_ld (v := .ref 106) r58_20 rfl rfl rfl ?_
        refine x_ld (v := .int v3) r58_21 rfl rfl rfl ?_
        obtain ⟨q8, h9, h6⟩ := Option.bind_eq_some_iff.mp h6
        refine x_call1 (as := [.ref 106, .int v3]) (rest := [.int v2]) r58_22 rfl rfl rfl (by decide) (Nat.le_of_ble_eq_true rfl) (m51_ok h9) (Nat.le_trans (by decide) hd) (Nat.zero_le _) (Nat.zero_le _) rfl ?_
        refine x_goto r58_25 ?_
        cases h6
        exact kj5
theorem m58_w {d mc ms : Nat} {N : Nat} {D : am_D} {v1 : Int32} {Q : am_O → am_AH → Prop} (hd : 2 ≤ d) {r : Int32} (h : m58 N D v1 = some r) (hQ : Q (.inl (some (.int r))) (am_mk D)) : am_X xs L 58 d mc ms 0 [.ref 106, .int v1, am_dead, am_dead] [] (am_mk D) 0 0 Q := by
  unfold m58 at h
  refine x_ic (v := 0) r58_0 rfl rfl ?_
  refine x_sto (lc' := [.ref 106, .int v1, .int (0 : Int32), am_dead]) r58_1 rfl rfl rfl rfl ?_
  refine x_ic (v := 0) r58_2 rfl rfl ?_
  refine x_sto (lc' := [.ref 106, .int v1, .int (0 : Int32), .int (0 : Int32)]) r58_3 rfl rfl rfl rfl ?_
  obtain ⟨q14, h15, h⟩ := Option.bind_eq_some_iff.mp h
  refine x_forget (lc0 := [.ref 106, .int v1, .int (0 : Int32), .int (0 : Int32)]) ⟨Or.inl rfl, Or.inl rfl, Or.inl rfl, Or.inl rfl, trivial⟩ (m58_L4_w hd N (0 : Int32) (0 : Int32) h15 ?_)
  refine x_ld (v := .int q14) r58_37 rfl rfl rfl ?_
  cases h
  exact x_ret (ret := some .int) (C := True) (v := some (.int _)) r58_38 rt58 rfl rfl rfl rfl rfl rfl rfl rfl trivial hQ
theorem m58_ok {N : Nat} {D : am_D} {v1 : Int32} {r : Int32} (h : m58 N D v1 = some r) : am_Y xs L 58 2 0 0 [.ref 106, .int v1] D (.inl (some (.int r))) D := am_Yof (mi := am_m58) (lc := [.ref 106, .int v1, am_dead, am_dead]) pg58 (Nat.le_of_ble_eq_true rfl) (am_rc1 (ci := 8) rfl rfl rfl rfl rfl) rfl (fun Q hQ => m58_w (Nat.le_refl _) h hQ)
theorem r59_0 : am_at 59 0 = some (.aload_n 0, 1, [0]) := by decide +kernel
theorem r59_1 : am_at 59 1 = some (.getfield 7, 3, [8, 1, 3, 1216]) := by decide +kernel
theorem r59_4 : am_at 59 4 = some (.bipush (12), 2, []) := by decide +kernel
theorem r59_6 : am_at 59 6 = some (.iaload, 1, []) := by decide +kernel
theorem r59_7 : am_at 59 7 = some (.ifCond .ne (7), 3, [14]) := by decide +kernel
theorem r59_10 : am_at 59 10 = some (.iconst (-1), 1, []) := by decide +kernel
theorem r59_11 : am_at 59 11 = some (.goto (11), 3, [22]) := by decide +kernel
theorem r59_14 : am_at 59 14 = some (.aload_n 0, 1, [0]) := by decide +kernel
theorem r59_15 : am_at 59 15 = some (.getfield 7, 3, [8, 1, 3, 1216]) := by decide +kernel
theorem r59_18 : am_at 59 18 = some (.sipush (137), 3, []) := by decide +kernel
theorem r59_21 : am_at 59 21 = some (.iaload, 1, []) := by decide +kernel
theorem r59_22 : am_at 59 22 = some (.ireturn, 1, []) := by decide +kernel
theorem rt59 : am_rtt 59 = some (some .int) := by decide +kernel
set_option maxRecDepth 100000 in
theorem pg59 : am_pg[59]? = some am_m59 := rfl
theorem m59_w {d mc ms : Nat} {D : am_D} {Q : am_O → am_AH → Prop} (hd : 1 ≤ d) {r : Int32} (h : m59 D = r) (hQ : Q (.inl (some (.int r))) (am_mk D)) : am_X xs L 59 d mc ms 0 [.ref 106] [] (am_mk D) 0 0 Q := by
  unfold m59 at h
  refine x_ld (v := .ref 106) r59_0 rfl rfl rfl ?_
  refine y_gf (cd := 109) (v := .ref 107) r59_1 rfl rfl rfl ?_
  refine x_bi (v := 12) r59_4 rfl rfl ?_
  refine y_ial (n := 1320) r59_6 rfl (by decide) (by decide) (e := 12) (by decide) rfl ?_
  rcases am_ifE h with ⟨c1, h⟩ | ⟨c1, h⟩
  · refine x_ifneT r59_7 c1 rfl ?_
    refine x_ic (v := -1) r59_10 rfl rfl ?_
    refine x_goto r59_11 ?_
    subst h
    exact x_ret (ret := some .int) (C := True) (v := some (.int _)) r59_22 rt59 rfl rfl rfl rfl rfl rfl rfl rfl trivial hQ
  · refine x_ifneF r59_7 c1 ?_
    refine x_ld (v := .ref 106) r59_14 rfl rfl rfl ?_
    refine y_gf (cd := 109) (v := .ref 107) r59_15 rfl rfl rfl ?_
    refine x_si (v := 137) r59_18 rfl rfl ?_
    refine y_ial (n := 1320) r59_21 rfl (by decide) (by decide) (e := 137) (by decide) rfl ?_
    subst h
    exact x_ret (ret := some .int) (C := True) (v := some (.int _)) r59_22 rt59 rfl rfl rfl rfl rfl rfl rfl rfl trivial hQ
theorem m59_ok {D : am_D} {r : Int32} (h : m59 D = r) : am_Y xs L 59 1 0 0 [.ref 106] D (.inl (some (.int r))) D := am_Yof (mi := am_m59) (lc := [.ref 106]) pg59 (Nat.le_of_ble_eq_true rfl) (am_rc1 (ci := 8) rfl rfl rfl rfl rfl) rfl (fun Q hQ => m59_w (Nat.le_refl _) h hQ)
theorem r60_0 : am_at 60 0 = some (.aload_n 0, 1, [0]) := by decide +kernel
theorem r60_1 : am_at 60 1 = some (.aload_n 0, 1, [0]) := by decide +kernel
theorem r60_2 : am_at 60 2 = some (.getfield 7, 3, [8, 1, 3, 1216]) := by decide +kernel
theorem r60_5 : am_at 60 5 = some (.bipush (109), 2, []) := by decide +kernel
theorem r60_7 : am_at 60 7 = some (.iload_n 1, 1, [1]) := by decide +kernel
theorem r60_8 : am_at 60 8 = some (.iadd, 1, []) := by decide +kernel
theorem r60_9 : am_at 60 9 = some (.iaload, 1, []) := by decide +kernel
theorem r60_10 : am_at 60 10 = some (.aload_n 0, 1, [0]) := by decide +kernel
theorem r60_11 : am_at 60 11 = some (.getfield 7, 3, [8, 1, 3, 1216]) := by decide +kernel
theorem r60_14 : am_at 60 14 = some (.sipush (137), 3, []) := by decide +kernel
theorem r60_17 : am_at 60 17 = some (.iload_n 1, 1, [1]) := by decide +kernel
theorem r60_18 : am_at 60 18 = some (.iadd, 1, []) := by decide +kernel
theorem r60_19 : am_at 60 19 = some (.iaload, 1, []) := by decide +kernel
theorem r60_20 : am_at 60 20 = some (.invokevirtual 77, 3, [54, 3, 1386, 0]) := by decide +kernel
theorem r60_23 : am_at 60 23 = some (.ireturn, 1, []) := by decide +kernel
theorem rt60 : am_rtt 60 = some (some .int) := by decide +kernel
set_option maxRecDepth 100000 in
theorem pg60 : am_pg[60]? = some am_m60 := rfl
theorem m60_w {d mc ms : Nat} {D : am_D} {v1 : Int32} {Q : am_O → am_AH → Prop} (hd : 2 ≤ d) {r : Int32} (h : m60 D v1 = some r) (hQ : Q (.inl (some (.int r))) (am_mk D)) : am_X xs L 60 d mc ms 0 [.ref 106, .int v1] [] (am_mk D) 0 0 Q := by
  unfold m60 at h
  refine x_ld (v := .ref 106) r60_0 rfl rfl rfl ?_
  refine x_ld (v := .ref 106) r60_1 rfl rfl rfl ?_
  refine y_gf (cd := 109) (v := .ref 107) r60_2 rfl rfl rfl ?_
  refine x_bi (v := 109) r60_5 rfl rfl ?_
  refine x_ld (v := .int v1) r60_7 rfl rfl rfl ?_
  refine x_ar r60_8 rfl trivial rfl ?_
  obtain ⟨g1, h⟩ := am_gdE h
  refine y_ial (n := 1320) r60_9 rfl (by decide) g1 rfl rfl ?_
  refine x_ld (v := .ref 106) r60_10 rfl rfl rfl ?_
  refine y_gf (cd := 109) (v := .ref 107) r60_11 rfl rfl rfl ?_
  refine x_si (v := 137) r60_14 rfl rfl ?_
  refine x_ld (v := .int v1) r60_17 rfl rfl rfl ?_
  refine x_ar r60_18 rfl trivial rfl ?_
  obtain ⟨g2, h⟩ := am_gdE h
  refine y_ial (n := 1320) r60_19 rfl (by decide) g2 rfl rfl ?_
  obtain ⟨q3, h4, h⟩ := Option.bind_eq_some_iff.mp h
  refine x_call1 (as := [.ref 106, .int (D.1 107 (((109 : Int32) + v1)).toNatClampNeg), .int (D.1 107 (((137 : Int32) + v1)).toNatClampNeg)]) (rest := []) r60_20 rfl rfl rfl (by decide) (Nat.le_of_ble_eq_true rfl) (m54_ok h4) (Nat.le_trans (by decide) hd) (Nat.zero_le _) (Nat.zero_le _) rfl ?_
  cases h
  exact x_ret (ret := some .int) (C := True) (v := some (.int _)) r60_23 rt60 rfl rfl rfl rfl rfl rfl rfl rfl trivial hQ
theorem m60_ok {D : am_D} {v1 : Int32} {r : Int32} (h : m60 D v1 = some r) : am_Y xs L 60 2 0 0 [.ref 106, .int v1] D (.inl (some (.int r))) D := am_Yof (mi := am_m60) (lc := [.ref 106, .int v1]) pg60 (Nat.le_of_ble_eq_true rfl) (am_rc1 (ci := 8) rfl rfl rfl rfl rfl) rfl (fun Q hQ => m60_w (Nat.le_refl _) h hQ)
theorem r61_0 : am_at 61 0 = some (.aload_n 0, 1, [0]) := by decide +kernel
theorem r61_1 : am_at 61 1 = some (.getfield 7, 3, [8, 1, 3, 1216]) := by decide +kernel
theorem r61_4 : am_at 61 4 = some (.bipush (12), 2, []) := by decide +kernel
theorem r61_6 : am_at 61 6 = some (.iaload, 1, []) := by decide +kernel
theorem r61_7 : am_at 61 7 = some (.ifCond .ne (7), 3, [14]) := by decide +kernel
theorem r61_10 : am_at 61 10 = some (.iconst (-1), 1, []) := by decide +kernel
theorem r61_11 : am_at 61 11 = some (.goto (16), 3, [27]) := by decide +kernel
theorem r61_14 : am_at 61 14 = some (.aload_n 0, 1, [0]) := by decide +kernel
theorem r61_15 : am_at 61 15 = some (.aload_n 0, 1, [0]) := by decide +kernel
theorem r61_16 : am_at 61 16 = some (.getfield 7, 3, [8, 1, 3, 1216]) := by decide +kernel
theorem r61_19 : am_at 61 19 = some (.bipush (12), 2, []) := by decide +kernel
theorem r61_21 : am_at 61 21 = some (.iaload, 1, []) := by decide +kernel
theorem r61_22 : am_at 61 22 = some (.iconst (1), 1, []) := by decide +kernel
theorem r61_23 : am_at 61 23 = some (.isub, 1, []) := by decide +kernel
theorem r61_24 : am_at 61 24 = some (.invokevirtual 81, 3, [60, 2, 1382, 0]) := by decide +kernel
theorem r61_27 : am_at 61 27 = some (.ireturn, 1, []) := by decide +kernel
theorem rt61 : am_rtt 61 = some (some .int) := by decide +kernel
set_option maxRecDepth 100000 in
theorem pg61 : am_pg[61]? = some am_m61 := rfl
theorem m61_w {d mc ms : Nat} {D : am_D} {Q : am_O → am_AH → Prop} (hd : 3 ≤ d) {r : Int32} (h : m61 D = some r) (hQ : Q (.inl (some (.int r))) (am_mk D)) : am_X xs L 61 d mc ms 0 [.ref 106] [] (am_mk D) 0 0 Q := by
  unfold m61 at h
  refine x_ld (v := .ref 106) r61_0 rfl rfl rfl ?_
  refine y_gf (cd := 109) (v := .ref 107) r61_1 rfl rfl rfl ?_
  refine x_bi (v := 12) r61_4 rfl rfl ?_
  refine y_ial (n := 1320) r61_6 rfl (by decide) (by decide) (e := 12) (by decide) rfl ?_
  rcases am_ifE h with ⟨c1, h⟩ | ⟨c1, h⟩
  · refine x_ifneT r61_7 c1 rfl ?_
    refine x_ic (v := -1) r61_10 rfl rfl ?_
    refine x_goto r61_11 ?_
    cases h
    exact x_ret (ret := some .int) (C := True) (v := some (.int _)) r61_27 rt61 rfl rfl rfl rfl rfl rfl rfl rfl trivial hQ
  · refine x_ifneF r61_7 c1 ?_
    refine x_ld (v := .ref 106) r61_14 rfl rfl rfl ?_
    refine x_ld (v := .ref 106) r61_15 rfl rfl rfl ?_
    refine y_gf (cd := 109) (v := .ref 107) r61_16 rfl rfl rfl ?_
    refine x_bi (v := 12) r61_19 rfl rfl ?_
    refine y_ial (n := 1320) r61_21 rfl (by decide) (by decide) (e := 12) (by decide) rfl ?_
    refine x_ic (v := 1) r61_22 rfl rfl ?_
    refine x_ar r61_23 rfl trivial rfl ?_
    obtain ⟨q2, h3, h⟩ := Option.bind_eq_some_iff.mp h
    refine x_call1 (as := [.ref 106, .int ((D.1 107 12) - (1 : Int32))]) (rest := []) r61_24 rfl rfl rfl (by decide) (Nat.le_of_ble_eq_true rfl) (m60_ok h3) (Nat.le_trans (by decide) hd) (Nat.zero_le _) (Nat.zero_le _) rfl ?_
    cases h
    exact x_ret (ret := some .int) (C := True) (v := some (.int _)) r61_27 rt61 rfl rfl rfl rfl rfl rfl rfl rfl trivial hQ
theorem m61_ok {D : am_D} {r : Int32} (h : m61 D = some r) : am_Y xs L 61 3 0 0 [.ref 106] D (.inl (some (.int r))) D := am_Yof (mi := am_m61) (lc := [.ref 106]) pg61 (Nat.le_of_ble_eq_true rfl) (am_rc1 (ci := 8) rfl rfl rfl rfl rfl) rfl (fun Q hQ => m61_w (Nat.le_refl _) h hQ)
theorem r62_0 : am_at 62 0 = some (.aload_n 0, 1, [0]) := by decide +kernel
theorem r62_1 : am_at 62 1 = some (.getfield 7, 3, [8, 1, 3, 1216]) := by decide +kernel
theorem r62_4 : am_at 62 4 = some (.bipush (12), 2, []) := by decide +kernel
theorem r62_6 : am_at 62 6 = some (.iaload, 1, []) := by decide +kernel
theorem r62_7 : am_at 62 7 = some (.ifCond .eq (26), 3, [33]) := by decide +kernel
theorem r62_10 : am_at 62 10 = some (.aload_n 0, 1, [0]) := by decide +kernel
theorem r62_11 : am_at 62 11 = some (.iload_n 1, 1, [1]) := by decide +kernel
theorem r62_12 : am_at 62 12 = some (.iload_n 2, 1, [2]) := by decide +kernel
theorem r62_13 : am_at 62 13 = some (.ifCond .ne (10), 3, [23]) := by decide +kernel
theorem r62_16 : am_at 62 16 = some (.aload_n 0, 1, [0]) := by decide +kernel
theorem r62_17 : am_at 62 17 = some (.invokevirtual 84, 3, [59, 1, 1374, 0]) := by decide +kernel
theorem r62_20 : am_at 62 20 = some (.goto (7), 3, [27]) := by decide +kernel
theorem r62_23 : am_at 62 23 = some (.aload_n 0, 1, [0]) := by decide +kernel
theorem r62_24 : am_at 62 24 = some (.invokevirtual 88, 3, [61, 1, 1378, 0]) := by decide +kernel
theorem r62_27 : am_at 62 27 = some (.invokevirtual 91, 3, [53, 3, 1390, 0]) := by decide +kernel
theorem r62_30 : am_at 62 30 = some (.ifCond .eq (7), 3, [37]) := by decide +kernel
theorem r62_33 : am_at 62 33 = some (.iconst (1), 1, []) := by decide +kernel
theorem r62_34 : am_at 62 34 = some (.goto (4), 3, [38]) := by decide +kernel
theorem r62_37 : am_at 62 37 = some (.iconst (0), 1, []) := by decide +kernel
theorem r62_38 : am_at 62 38 = some (.ireturn, 1, []) := by decide +kernel
theorem rt62 : am_rtt 62 = some (some .boolean) := by decide +kernel
set_option maxRecDepth 100000 in
theorem pg62 : am_pg[62]? = some am_m62 := rfl
theorem m62_w {d mc ms : Nat} {D : am_D} {v1 : Int32} {v2 : Int32} {Q : am_O → am_AH → Prop} (hd : 4 ≤ d) {r : Int32} (h : m62 D v1 v2 = some r) (hQ : Q (.inl (some (.int r))) (am_mk D)) : am_X xs L 62 d mc ms 0 [.ref 106, .int v1, .int v2] [] (am_mk D) 0 0 Q := by
  unfold m62 at h
  refine x_ld (v := .ref 106) r62_0 rfl rfl rfl ?_
  refine y_gf (cd := 109) (v := .ref 107) r62_1 rfl rfl rfl ?_
  refine x_bi (v := 12) r62_4 rfl rfl ?_
  refine y_ial (n := 1320) r62_6 rfl (by decide) (by decide) (e := 12) (by decide) rfl ?_
  rcases am_ifE h with ⟨c1, h⟩ | ⟨c1, h⟩
  · refine x_ifeqT r62_7 c1 ?_
    refine x_ic (v := 1) r62_33 rfl rfl ?_
    refine x_goto r62_34 ?_
    cases h
    exact x_ret (ret := some .boolean) (C := narrow .boolean (.int (1 : Int32)) = .int (1 : Int32)) (v := some (.int (1 : Int32))) r62_38 rt62 rfl rfl rfl rfl rfl rfl rfl rfl (by decide) hQ
  · refine x_ifeqF r62_7 c1 rfl ?_
    refine x_ld (v := .ref 106) r62_10 rfl rfl rfl ?_
    refine x_ld (v := .int v1) r62_11 rfl rfl rfl ?_
    refine x_ld (v := .int v2) r62_12 rfl rfl rfl ?_
    obtain ⟨q2, h4, h⟩ := Option.bind_eq_some_iff.mp h
    have kj3 : am_X xs L 62 d mc ms 27 [.ref 106, .int v1, .int v2] [.int q2, .int v1, .ref 106] (am_mk D) 0 0 Q := by
      obtain ⟨q8, h9, h⟩ := Option.bind_eq_some_iff.mp h
      refine x_call1 (as := [.ref 106, .int v1, .int q2]) (rest := []) r62_27 rfl rfl rfl (by decide) (Nat.le_of_ble_eq_true rfl) (m53_ok h9) (Nat.le_trans (by decide) hd) (Nat.zero_le _) (Nat.zero_le _) rfl ?_
      rcases am_ifE h with ⟨c10, h⟩ | ⟨c10, h⟩
      · refine x_ifeqT r62_30 c10 ?_
        refine x_ic (v := 0) r62_37 rfl rfl ?_
        cases h
        exact x_ret (ret := some .boolean) (C := narrow .boolean (.int (0 : Int32)) = .int (0 : Int32)) (v := some (.int (0 : Int32))) r62_38 rt62 rfl rfl rfl rfl rfl rfl rfl rfl (by decide) hQ
      · refine x_ifeqF r62_30 c10 rfl ?_
        refine x_ic (v := 1) r62_33 rfl rfl ?_
        refine x_goto r62_34 ?_
        cases h
        exact x_ret (ret := some .boolean) (C := narrow .boolean (.int (1 : Int32)) = .int (1 : Int32)) (v := some (.int (1 : Int32))) r62_38 rt62 rfl rfl rfl rfl rfl rfl rfl rfl (by decide) hQ
    rcases am_ifE h4 with ⟨c5, h4⟩ | ⟨c5, h4⟩
    · refine x_ifneT r62_13 c5 rfl ?_
      refine x_ld (v := .ref 106) r62_16 rfl rfl rfl ?_
      refine x_call1 (as := [.ref 106]) (rest := [.int v1, .ref 106]) r62_17 rfl rfl rfl (by decide) (Nat.le_of_ble_eq_true rfl) (m59_ok rfl) (Nat.le_trans (by decide) hd) (Nat.zero_le _) (Nat.zero_le _) rfl ?_
      refine x_goto r62_20 ?_
      cases h4
      exact kj3
    · refine x_ifneF r62_13 c5 ?_
      refine x_ld (v := .ref 106) r62_23 rfl rfl rfl ?_
      obtain ⟨q6, h7, h4⟩ := Option.bind_eq_some_iff.mp h4
      refine x_call1 (as := [.ref 106]) (rest := [.int v1, .ref 106]) r62_24 rfl rfl rfl (by decide) (Nat.le_of_ble_eq_true rfl) (m61_ok h7) (Nat.le_trans (by decide) hd) (Nat.zero_le _) (Nat.zero_le _) rfl ?_
      cases h4
      exact kj3
theorem m62_ok {D : am_D} {v1 : Int32} {v2 : Int32} {r : Int32} (h : m62 D v1 v2 = some r) : am_Y xs L 62 4 0 0 [.ref 106, .int v1, .int v2] D (.inl (some (.int r))) D := am_Yof (mi := am_m62) (lc := [.ref 106, .int v1, .int v2]) pg62 (Nat.le_of_ble_eq_true rfl) (am_rc1 (ci := 8) rfl rfl rfl rfl rfl) rfl (fun Q hQ => m62_w (Nat.le_refl _) h hQ)
theorem r63_0 : am_at 63 0 = some (.aload_n 0, 1, [0]) := by decide +kernel
theorem r63_1 : am_at 63 1 = some (.iload_n 1, 1, [1]) := by decide +kernel
theorem r63_2 : am_at 63 2 = some (.iconst (0), 1, []) := by decide +kernel
theorem r63_3 : am_at 63 3 = some (.invokevirtual 94, 3, [62, 3, 1370, 0]) := by decide +kernel
theorem r63_6 : am_at 63 6 = some (.ifCond .ne (12), 3, [18]) := by decide +kernel
theorem r63_9 : am_at 63 9 = some (.aload_n 0, 1, [0]) := by decide +kernel
theorem r63_10 : am_at 63 10 = some (.iload_n 1, 1, [1]) := by decide +kernel
theorem r63_11 : am_at 63 11 = some (.iconst (1), 1, []) := by decide +kernel
theorem r63_12 : am_at 63 12 = some (.invokevirtual 94, 3, [62, 3, 1370, 0]) := by decide +kernel
theorem r63_15 : am_at 63 15 = some (.ifCond .eq (7), 3, [22]) := by decide +kernel
theorem r63_18 : am_at 63 18 = some (.iconst (1), 1, []) := by decide +kernel
theorem r63_19 : am_at 63 19 = some (.goto (4), 3, [23]) := by decide +kernel
theorem r63_22 : am_at 63 22 = some (.iconst (0), 1, []) := by decide +kernel
theorem r63_23 : am_at 63 23 = some (.ireturn, 1, []) := by decide +kernel
theorem rt63 : am_rtt 63 = some (some .boolean) := by decide +kernel
set_option maxRecDepth 100000 in
theorem pg63 : am_pg[63]? = some am_m63 := rfl
theorem m63_w {d mc ms : Nat} {D : am_D} {v1 : Int32} {Q : am_O → am_AH → Prop} (hd : 5 ≤ d) {r : Int32} (h : m63 D v1 = some r) (hQ : Q (.inl (some (.int r))) (am_mk D)) : am_X xs L 63 d mc ms 0 [.ref 106, .int v1] [] (am_mk D) 0 0 Q := by
  unfold m63 at h
  refine x_ld (v := .ref 106) r63_0 rfl rfl rfl ?_
  refine x_ld (v := .int v1) r63_1 rfl rfl rfl ?_
  refine x_ic (v := 0) r63_2 rfl rfl ?_
  obtain ⟨q1, h2, h⟩ := Option.bind_eq_some_iff.mp h
  refine x_call1 (as := [.ref 106, .int v1, .int (0 : Int32)]) (rest := []) r63_3 rfl rfl rfl (by decide) (Nat.le_of_ble_eq_true rfl) (m62_ok h2) (Nat.le_trans (by decide) hd) (Nat.zero_le _) (Nat.zero_le _) rfl ?_
  rcases am_ifE h with ⟨c3, h⟩ | ⟨c3, h⟩
  · refine x_ifneT r63_6 c3 rfl ?_
    refine x_ld (v := .ref 106) r63_9 rfl rfl rfl ?_
    refine x_ld (v := .int v1) r63_10 rfl rfl rfl ?_
    refine x_ic (v := 1) r63_11 rfl rfl ?_
    obtain ⟨q4, h5, h⟩ := Option.bind_eq_some_iff.mp h
    refine x_call1 (as := [.ref 106, .int v1, .int (1 : Int32)]) (rest := []) r63_12 rfl rfl rfl (by decide) (Nat.le_of_ble_eq_true rfl) (m62_ok h5) (Nat.le_trans (by decide) hd) (Nat.zero_le _) (Nat.zero_le _) rfl ?_
    rcases am_ifE h with ⟨c6, h⟩ | ⟨c6, h⟩
    · refine x_ifeqT r63_15 c6 ?_
      refine x_ic (v := 0) r63_22 rfl rfl ?_
      cases h
      exact x_ret (ret := some .boolean) (C := narrow .boolean (.int (0 : Int32)) = .int (0 : Int32)) (v := some (.int (0 : Int32))) r63_23 rt63 rfl rfl rfl rfl rfl rfl rfl rfl (by decide) hQ
    · refine x_ifeqF r63_15 c6 rfl ?_
      refine x_ic (v := 1) r63_18 rfl rfl ?_
      refine x_goto r63_19 ?_
      cases h
      exact x_ret (ret := some .boolean) (C := narrow .boolean (.int (1 : Int32)) = .int (1 : Int32)) (v := some (.int (1 : Int32))) r63_23 rt63 rfl rfl rfl rfl rfl rfl rfl rfl (by decide) hQ
  · refine x_ifneF r63_6 c3 ?_
    refine x_ic (v := 1) r63_18 rfl rfl ?_
    refine x_goto r63_19 ?_
    cases h
    exact x_ret (ret := some .boolean) (C := narrow .boolean (.int (1 : Int32)) = .int (1 : Int32)) (v := some (.int (1 : Int32))) r63_23 rt63 rfl rfl rfl rfl rfl rfl rfl rfl (by decide) hQ
theorem m63_ok {D : am_D} {v1 : Int32} {r : Int32} (h : m63 D v1 = some r) : am_Y xs L 63 5 0 0 [.ref 106, .int v1] D (.inl (some (.int r))) D := am_Yof (mi := am_m63) (lc := [.ref 106, .int v1]) pg63 (Nat.le_of_ble_eq_true rfl) (am_rc1 (ci := 8) rfl rfl rfl rfl rfl) rfl (fun Q hQ => m63_w (Nat.le_refl _) h hQ)
theorem r64_0 : am_at 64 0 = some (.aload_n 0, 1, [0]) := by decide +kernel
theorem r64_1 : am_at 64 1 = some (.getfield 7, 3, [8, 1, 3, 1216]) := by decide +kernel
theorem r64_4 : am_at 64 4 = some (.bipush (12), 2, []) := by decide +kernel
theorem r64_6 : am_at 64 6 = some (.iaload, 1, []) := by decide +kernel
theorem r64_7 : am_at 64 7 = some (.istore_n 1, 1, [1]) := by decide +kernel
theorem r64_8 : am_at 64 8 = some (.iload_n 1, 1, [1]) := by decide +kernel
theorem r64_9 : am_at 64 9 = some (.iconst (2), 1, []) := by decide +kernel
theorem r64_10 : am_at 64 10 = some (.if_icmp .ge (23), 3, [33]) := by decide +kernel
theorem r64_13 : am_at 64 13 = some (.iload_n 1, 1, [1]) := by decide +kernel
theorem r64_14 : am_at 64 14 = some (.ifCond .ne (7), 3, [21]) := by decide +kernel
theorem r64_17 : am_at 64 17 = some (.iconst (0), 1, []) := by decide +kernel
theorem r64_18 : am_at 64 18 = some (.goto (14), 3, [32]) := by decide +kernel
theorem r64_21 : am_at 64 21 = some (.aload_n 0, 1, [0]) := by decide +kernel
theorem r64_22 : am_at 64 22 = some (.aload_n 0, 1, [0]) := by decide +kernel
theorem r64_23 : am_at 64 23 = some (.getfield 7, 3, [8, 1, 3, 1216]) := by decide +kernel
theorem r64_26 : am_at 64 26 = some (.bipush (109), 2, []) := by decide +kernel
theorem r64_28 : am_at 64 28 = some (.iaload, 1, []) := by decide +kernel
theorem r64_29 : am_at 64 29 = some (.invokevirtual 73, 3, [51, 2, 1410, 0]) := by decide +kernel
theorem r64_32 : am_at 64 32 = some (.ireturn, 1, []) := by decide +kernel
theorem r64_33 : am_at 64 33 = some (.aload_n 0, 1, [0]) := by decide +kernel
theorem r64_34 : am_at 64 34 = some (.invokevirtual 84, 3, [59, 1, 1374, 0]) := by decide +kernel
theorem r64_37 : am_at 64 37 = some (.aload_n 0, 1, [0]) := by decide +kernel
theorem r64_38 : am_at 64 38 = some (.aload_n 0, 1, [0]) := by decide +kernel
theorem r64_39 : am_at 64 39 = some (.getfield 7, 3, [8, 1, 3, 1216]) := by decide +kernel
theorem r64_42 : am_at 64 42 = some (.bipush (109), 2, []) := by decide +kernel
theorem r64_44 : am_at 64 44 = some (.iaload, 1, []) := by decide +kernel
theorem r64_45 : am_at 64 45 = some (.invokevirtual 97, 3, [52, 2, 1351, 0]) := by decide +kernel
theorem r64_48 : am_at 64 48 = some (.ifCond .eq (7), 3, [55]) := by decide +kernel
theorem r64_51 : am_at 64 51 = some (.iconst (2), 1, []) := by decide +kernel
theorem r64_52 : am_at 64 52 = some (.goto (4), 3, [56]) := by decide +kernel
theorem r64_55 : am_at 64 55 = some (.iconst (1), 1, []) := by decide +kernel
theorem r64_56 : am_at 64 56 = some (.imul, 1, []) := by decide +kernel
theorem r64_57 : am_at 64 57 = some (.aload_n 0, 1, [0]) := by decide +kernel
theorem r64_58 : am_at 64 58 = some (.invokevirtual 88, 3, [61, 1, 1378, 0]) := by decide +kernel
theorem r64_61 : am_at 64 61 = some (.aload_n 0, 1, [0]) := by decide +kernel
theorem r64_62 : am_at 64 62 = some (.aload_n 0, 1, [0]) := by decide +kernel
theorem r64_63 : am_at 64 63 = some (.getfield 7, 3, [8, 1, 3, 1216]) := by decide +kernel
theorem r64_66 : am_at 64 66 = some (.bipush (109), 2, []) := by decide +kernel
theorem r64_68 : am_at 64 68 = some (.iload_n 1, 1, [1]) := by decide +kernel
theorem r64_69 : am_at 64 69 = some (.iadd, 1, []) := by decide +kernel
theorem r64_70 : am_at 64 70 = some (.iconst (1), 1, []) := by decide +kernel
theorem r64_71 : am_at 64 71 = some (.isub, 1, []) := by decide +kernel
theorem r64_72 : am_at 64 72 = some (.iaload, 1, []) := by decide +kernel
theorem r64_73 : am_at 64 73 = some (.invokevirtual 97, 3, [52, 2, 1351, 0]) := by decide +kernel
theorem r64_76 : am_at 64 76 = some (.ifCond .eq (7), 3, [83]) := by decide +kernel
theorem r64_79 : am_at 64 79 = some (.iconst (2), 1, []) := by decide +kernel
theorem r64_80 : am_at 64 80 = some (.goto (4), 3, [84]) := by decide +kernel
theorem r64_83 : am_at 64 83 = some (.iconst (1), 1, []) := by decide +kernel
theorem r64_84 : am_at 64 84 = some (.imul, 1, []) := by decide +kernel
theorem r64_85 : am_at 64 85 = some (.iadd, 1, []) := by decide +kernel
theorem r64_86 : am_at 64 86 = some (.ireturn, 1, []) := by decide +kernel
theorem rt64 : am_rtt 64 = some (some .int) := by decide +kernel
set_option maxRecDepth 100000 in
theorem pg64 : am_pg[64]? = some am_m64 := rfl
theorem m64_w {d mc ms : Nat} {D : am_D} {Q : am_O → am_AH → Prop} (hd : 4 ≤ d) {r : Int32} (h : m64 D = some r) (hQ : Q (.inl (some (.int r))) (am_mk D)) : am_X xs L 64 d mc ms 0 [.ref 106, am_dead] [] (am_mk D) 0 0 Q := by
  unfold m64 at h
  refine x_ld (v := .ref 106) r64_0 rfl rfl rfl ?_
  refine y_gf (cd := 109) (v := .ref 107) r64_1 rfl rfl rfl ?_
  refine x_bi (v := 12) r64_4 rfl rfl ?_
  refine y_ial (n := 1320) r64_6 rfl (by decide) (by decide) (e := 12) (by decide) rfl ?_
  obtain ⟨x1, e2, h⟩ := am_ltE h
  refine am_topI e2 ?_
  refine x_sto (lc' := [.ref 106, .int x1]) r64_7 rfl rfl rfl rfl ?_
  refine x_ld (v := .int x1) r64_8 rfl rfl rfl ?_
  refine x_ic (v := 2) r64_9 rfl rfl ?_
  rcases am_ifE h with ⟨c3, h⟩ | ⟨c3, h⟩
  · refine x_icgeT r64_10 c3 ?_
    refine x_ld (v := .ref 106) r64_33 rfl rfl rfl ?_
    refine x_call1 (as := [.ref 106]) (rest := []) r64_34 rfl rfl rfl (by decide) (Nat.le_of_ble_eq_true rfl) (m59_ok rfl) (Nat.le_trans (by decide) hd) (Nat.zero_le _) (Nat.zero_le _) rfl ?_
    refine x_ld (v := .ref 106) r64_37 rfl rfl rfl ?_
    refine x_ld (v := .ref 106) r64_38 rfl rfl rfl ?_
    refine y_gf (cd := 109) (v := .ref 107) r64_39 rfl rfl rfl ?_
    refine x_bi (v := 109) r64_42 rfl rfl ?_
    refine y_ial (n := 1320) r64_44 rfl (by decide) (by decide) (e := 109) (by decide) rfl ?_
    obtain ⟨q4, h5, h⟩ := Option.bind_eq_some_iff.mp h
    refine x_call1 (as := [.ref 106, .int (D.1 107 109)]) (rest := [.int (m59 D)]) r64_45 rfl rfl rfl (by decide) (Nat.le_of_ble_eq_true rfl) (m52_ok h5) (Nat.le_trans (by decide) hd) (Nat.zero_le _) (Nat.zero_le _) rfl ?_
    obtain ⟨q6, h8, h⟩ := am_ltE h
    replace h8 := h8.symm
    have kj7 : am_X xs L 64 d mc ms 56 [.ref 106, .int x1] [.int q6, .int (m59 D)] (am_mk D) 0 0 Q := by
      refine x_ar r64_56 rfl trivial rfl ?_
      refine x_ld (v := .ref 106) r64_57 rfl rfl rfl ?_
      obtain ⟨q10, h11, h⟩ := Option.bind_eq_some_iff.mp h
      refine x_call1 (as := [.ref 106]) (rest := [.int ((m59 D) * q6)]) r64_58 rfl rfl rfl (by decide) (Nat.le_of_ble_eq_true rfl) (m61_ok h11) (Nat.le_trans (by decide) hd) (Nat.zero_le _) (Nat.zero_le _) rfl ?_
      refine x_ld (v := .ref 106) r64_61 rfl rfl rfl ?_
      refine x_ld (v := .ref 106) r64_62 rfl rfl rfl ?_
      refine y_gf (cd := 109) (v := .ref 107) r64_63 rfl rfl rfl ?_
      refine x_bi (v := 109) r64_66 rfl rfl ?_
      refine x_ld (v := .int x1) r64_68 rfl rfl rfl ?_
      refine x_ar r64_69 rfl trivial rfl ?_
      refine x_ic (v := 1) r64_70 rfl rfl ?_
      refine x_ar r64_71 rfl trivial rfl ?_
      obtain ⟨g12, h⟩ := am_gdE h
      refine y_ial (n := 1320) r64_72 rfl (by decide) g12 rfl rfl ?_
      obtain ⟨q13, h14, h⟩ := Option.bind_eq_some_iff.mp h
      refine x_call1 (as := [.ref 106, .int (D.1 107 ((((109 : Int32) + x1) - (1 : Int32))).toNatClampNeg)]) (rest := [.int q10, .int ((m59 D) * q6)]) r64_73 rfl rfl rfl (by decide) (Nat.le_of_ble_eq_true rfl) (m52_ok h14) (Nat.le_trans (by decide) hd) (Nat.zero_le _) (Nat.zero_le _) rfl ?_
      rcases am_ifE h with ⟨c15, h⟩ | ⟨c15, h⟩
      · refine x_ifeqT r64_76 c15 ?_
        refine x_ic (v := 1) r64_83 rfl rfl ?_
        refine x_ar r64_84 rfl trivial rfl ?_
        refine x_ar r64_85 rfl trivial rfl ?_
        cases h
        exact x_ret (ret := some .int) (C := True) (v := some (.int _)) r64_86 rt64 rfl rfl rfl rfl rfl rfl rfl rfl trivial hQ
      · refine x_ifeqF r64_76 c15 rfl ?_
        refine x_ic (v := 2) r64_79 rfl rfl ?_
        refine x_goto r64_80 ?_
        refine x_ar r64_84 rfl trivial rfl ?_
        refine x_ar r64_85 rfl trivial rfl ?_
        cases h
        exact x_ret (ret := some .int) (C := True) (v := some (.int _)) r64_86 rt64 rfl rfl rfl rfl rfl rfl rfl rfl trivial hQ
    rcases am_ifE h8 with ⟨c9, h8⟩ | ⟨c9, h8⟩
    · refine x_ifeqT r64_48 c9 ?_
      refine x_ic (v := 1) r64_55 rfl rfl ?_
      subst h8
      exact kj7
    · refine x_ifeqF r64_48 c9 rfl ?_
      refine x_ic (v := 2) r64_51 rfl rfl ?_
      refine x_goto r64_52 ?_
      subst h8
      exact kj7
  · refine x_icgeF r64_10 c3 rfl ?_
    refine x_ld (v := .int x1) r64_13 rfl rfl rfl ?_
    rcases am_ifE h with ⟨c16, h⟩ | ⟨c16, h⟩
    · refine x_ifneT r64_14 c16 rfl ?_
      refine x_ic (v := 0) r64_17 rfl rfl ?_
      refine x_goto r64_18 ?_
      cases h
      exact x_ret (ret := some .int) (C := True) (v := some (.int _)) r64_32 rt64 rfl rfl rfl rfl rfl rfl rfl rfl trivial hQ
    · refine x_ifneF r64_14 c16 ?_
      refine x_ld (v := .ref 106) r64_21 rfl rfl rfl ?_
      refine x_ld (v := .ref 106) r64_22 rfl rfl rfl ?_
      refine y_gf (cd := 109) (v := .ref 107) r64_23 rfl rfl rfl ?_
      refine x_bi (v := 109) r64_26 rfl rfl ?_
      refine y_ial (n := 1320) r64_28 rfl (by decide) (by decide) (e := 109) (by decide) rfl ?_
      obtain ⟨q17, h18, h⟩ := Option.bind_eq_some_iff.mp h
      refine x_call1 (as := [.ref 106, .int (D.1 107 109)]) (rest := []) r64_29 rfl rfl rfl (by decide) (Nat.le_of_ble_eq_true rfl) (m51_ok h18) (Nat.le_trans (by decide) hd) (Nat.zero_le _) (Nat.zero_le _) rfl ?_
      cases h
      exact x_ret (ret := some .int) (C := True) (v := some (.int _)) r64_32 rt64 rfl rfl rfl rfl rfl rfl rfl rfl trivial hQ
theorem m64_ok {D : am_D} {r : Int32} (h : m64 D = some r) : am_Y xs L 64 4 0 0 [.ref 106] D (.inl (some (.int r))) D := am_Yof (mi := am_m64) (lc := [.ref 106, am_dead]) pg64 (Nat.le_of_ble_eq_true rfl) (am_rc1 (ci := 8) rfl rfl rfl rfl rfl) rfl (fun Q hQ => m64_w (Nat.le_refl _) h hQ)
theorem r65_0 : am_at 65 0 = some (.iload_n 0, 1, [0]) := by decide +kernel
theorem r65_1 : am_at 65 1 = some (.iconst (5), 1, []) := by decide +kernel
theorem r65_2 : am_at 65 2 = some (.irem, 1, []) := by decide +kernel
theorem r65_3 : am_at 65 3 = some (.ifCond .ne (9), 3, [12]) := by decide +kernel
theorem r65_6 : am_at 65 6 = some (.iload_n 0, 1, [0]) := by decide +kernel
theorem r65_7 : am_at 65 7 = some (.iconst (5), 1, []) := by decide +kernel
theorem r65_8 : am_at 65 8 = some (.idiv, 1, []) := by decide +kernel
theorem r65_9 : am_at 65 9 = some (.goto (4), 3, [13]) := by decide +kernel
theorem r65_12 : am_at 65 12 = some (.iconst (0), 1, []) := by decide +kernel
theorem r65_13 : am_at 65 13 = some (.ireturn, 1, []) := by decide +kernel
theorem rt65 : am_rtt 65 = some (some .int) := by decide +kernel
set_option maxRecDepth 100000 in
theorem pg65 : am_pg[65]? = some am_m65 := rfl
theorem m65_w {d mc ms : Nat} {D : am_D} {v0 : Int32} {Q : am_O → am_AH → Prop} (hd : 1 ≤ d) {r : Int32} (h : m65 v0 = r) (hQ : Q (.inl (some (.int r))) (am_mk D)) : am_X xs L 65 d mc ms 0 [.int v0] [] (am_mk D) 0 0 Q := by
  unfold m65 at h
  refine x_ld (v := .int v0) r65_0 rfl rfl rfl ?_
  refine x_ic (v := 5) r65_1 rfl rfl ?_
  refine x_ar r65_2 rfl (by decide) rfl ?_
  rcases am_ifE h with ⟨c1, h⟩ | ⟨c1, h⟩
  · refine x_ifneT r65_3 c1 rfl ?_
    refine x_ld (v := .int v0) r65_6 rfl rfl rfl ?_
    refine x_ic (v := 5) r65_7 rfl rfl ?_
    refine x_ar r65_8 rfl (by decide) rfl ?_
    refine x_goto r65_9 ?_
    subst h
    exact x_ret (ret := some .int) (C := True) (v := some (.int _)) r65_13 rt65 rfl rfl rfl rfl rfl rfl rfl rfl trivial hQ
  · refine x_ifneF r65_3 c1 ?_
    refine x_ic (v := 0) r65_12 rfl rfl ?_
    subst h
    exact x_ret (ret := some .int) (C := True) (v := some (.int _)) r65_13 rt65 rfl rfl rfl rfl rfl rfl rfl rfl trivial hQ
theorem m65_ok {D : am_D} {v0 : Int32} {r : Int32} (h : m65 v0 = r) : am_Y xs L 65 1 0 0 [.int v0] D (.inl (some (.int r))) D := am_Yof (mi := am_m65) (lc := [.int v0]) pg65 (Nat.le_of_ble_eq_true rfl) (am_rc0 rfl) rfl (fun Q hQ => m65_w (Nat.le_refl _) h hQ)
end XE
