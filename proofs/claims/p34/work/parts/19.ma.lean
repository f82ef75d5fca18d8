/-! walks (by wip/p34/tools/decomp.py): 15 15 15 40 41 42 43 153 154 156 165 166 168 168 168 168 168 168 168 168 168 168 168 168 168 169 -/
section XE
variable {xs : Nat → Int32} {L : Nat}
theorem r152_0 : am_at 152 0 = some (.aload_n 1, 1, [1]) := by decide +kernel
theorem r152_1 : am_at 152 1 = some (.getfield 9, 3, [0, 0, 3, 59]) := by decide +kernel
theorem r152_4 : am_at 152 4 = some (.aload_n 0, 1, [0]) := by decide +kernel
theorem r152_5 : am_at 152 5 = some (.getfield 9, 3, [0, 0, 3, 59]) := by decide +kernel
theorem r152_8 : am_at 152 8 = some (.invokestatic 31, 3, [184, 2, 294, 0]) := by decide +kernel
theorem r152_11 : am_at 152 11 = some (.aload_n 1, 1, [1]) := by decide +kernel
theorem r152_12 : am_at 152 12 = some (.getfield 15, 3, [0, 1, 3, 61]) := by decide +kernel
theorem r152_15 : am_at 152 15 = some (.aload_n 0, 1, [0]) := by decide +kernel
theorem r152_16 : am_at 152 16 = some (.getfield 15, 3, [0, 1, 3, 61]) := by decide +kernel
theorem r152_19 : am_at 152 19 = some (.invokestatic 31, 3, [184, 2, 294, 0]) := by decide +kernel
theorem r152_22 : am_at 152 22 = some (.aload_n 1, 1, [1]) := by decide +kernel
theorem r152_23 : am_at 152 23 = some (.getfield 18, 3, [0, 2, 3, 63]) := by decide +kernel
theorem r152_26 : am_at 152 26 = some (.aload_n 0, 1, [0]) := by decide +kernel
theorem r152_27 : am_at 152 27 = some (.getfield 18, 3, [0, 2, 3, 63]) := by decide +kernel
theorem r152_30 : am_at 152 30 = some (.invokestatic 31, 3, [184, 2, 294, 0]) := by decide +kernel
theorem r152_33 : am_at 152 33 = some (.aload_n 1, 1, [1]) := by decide +kernel
theorem r152_34 : am_at 152 34 = some (.getfield 21, 3, [0, 3, 3, 65]) := by decide +kernel
theorem r152_37 : am_at 152 37 = some (.aload_n 0, 1, [0]) := by decide +kernel
theorem r152_38 : am_at 152 38 = some (.getfield 21, 3, [0, 3, 3, 65]) := by decide +kernel
theorem r152_41 : am_at 152 41 = some (.invokestatic 31, 3, [184, 2, 294, 0]) := by decide +kernel
theorem r152_44 : am_at 152 44 = some (.aload_n 0, 1, [0]) := by decide +kernel
theorem r152_45 : am_at 152 45 = some (.aload_n 1, 1, [1]) := by decide +kernel
theorem r152_46 : am_at 152 46 = some (.getfield 37, 3, [0, 4, 0, 67]) := by decide +kernel
theorem r152_49 : am_at 152 49 = some (.putfield 37, 3, [0, 4, 0, 67]) := by decide +kernel
theorem r152_52 : am_at 152 52 = some (.aload_n 0, 1, [0]) := by decide +kernel
theorem r152_53 : am_at 152 53 = some (.aload_n 1, 1, [1]) := by decide +kernel
theorem r152_54 : am_at 152 54 = some (.getfield 24, 3, [0, 5, 0, 69]) := by decide +kernel
theorem r152_57 : am_at 152 57 = some (.putfield 24, 3, [0, 5, 0, 69]) := by decide +kernel
theorem r152_60 : am_at 152 60 = some (.aload_n 0, 1, [0]) := by decide +kernel
theorem r152_61 : am_at 152 61 = some (.aload_n 1, 1, [1]) := by decide +kernel
theorem r152_62 : am_at 152 62 = some (.getfield 28, 3, [0, 6, 0, 70]) := by decide +kernel
theorem r152_65 : am_at 152 65 = some (.putfield 28, 3, [0, 6, 0, 70]) := by decide +kernel
theorem r152_68 : am_at 152 68 = some (.return_, 1, []) := by decide +kernel
theorem rt152 : am_rtt 152 = some (none) := by decide +kernel
set_option maxRecDepth 100000 in
theorem pg152 : am_pg[152]? = some am_m152 := rfl
theorem m152_13_2_w {d mc ms : Nat} {D : am_D} {Q : am_O → am_AH → Prop} (hd : 2 ≤ d) {r : am_D} (h : m152_13_2 D = r) (hQ : Q (.inl none) (am_mk r)) : am_X xs L 152 d mc ms 0 [.ref 13, .ref 2] [] (am_mk D) 0 0 Q := by
  unfold m152_13_2 at h
  refine x_ld (v := .ref 2) r152_0 rfl rfl rfl ?_
  refine y_gf (cd := 5) (v := .ref 3) r152_1 rfl rfl rfl ?_
  refine x_ld (v := .ref 13) r152_4 rfl rfl rfl ?_
  refine y_gf (cd := 16) (v := .ref 14) r152_5 rfl rfl rfl ?_
  obtain ⟨D1, e2, h⟩ := am_ltE h
  refine x_call0 (as := [.ref 3, .ref 14]) (rest := []) r152_8 rfl rfl rfl (by decide) (Nat.le_of_ble_eq_true rfl) (am_rows_copy (n := 28) (m := 28) rfl rfl (by decide) (by decide) e2) (Nat.le_trans (by decide) hd) (Nat.zero_le _) (Nat.zero_le _) rfl ?_
  refine x_ld (v := .ref 2) r152_11 rfl rfl rfl ?_
  refine y_gf (cd := 6) (v := .ref 4) r152_12 rfl rfl rfl ?_
  refine x_ld (v := .ref 13) r152_15 rfl rfl rfl ?_
  refine y_gf (cd := 17) (v := .ref 15) r152_16 rfl rfl rfl ?_
  obtain ⟨D3, e4, h⟩ := am_ltE h
  refine x_call0 (as := [.ref 4, .ref 15]) (rest := []) r152_19 rfl rfl rfl (by decide) (Nat.le_of_ble_eq_true rfl) (am_rows_copy (n := 28) (m := 28) rfl rfl (by decide) (by decide) e4) (Nat.le_trans (by decide) hd) (Nat.zero_le _) (Nat.zero_le _) rfl ?_
  refine x_ld (v := .ref 2) r152_22 rfl rfl rfl ?_
  refine y_gf (cd := 7) (v := .ref 5) r152_23 rfl rfl rfl ?_
  refine x_ld (v := .ref 13) r152_26 rfl rfl rfl ?_
  refine y_gf (cd := 18) (v := .ref 16) r152_27 rfl rfl rfl ?_
  obtain ⟨D5, e6, h⟩ := am_ltE h
  refine x_call0 (as := [.ref 5, .ref 16]) (rest := []) r152_30 rfl rfl rfl (by decide) (Nat.le_of_ble_eq_true rfl) (am_rows_copy (n := 28) (m := 28) rfl rfl (by decide) (by decide) e6) (Nat.le_trans (by decide) hd) (Nat.zero_le _) (Nat.zero_le _) rfl ?_
  refine x_ld (v := .ref 2) r152_33 rfl rfl rfl ?_
  refine y_gf (cd := 8) (v := .ref 6) r152_34 rfl rfl rfl ?_
  refine x_ld (v := .ref 13) r152_37 rfl rfl rfl ?_
  refine y_gf (cd := 19) (v := .ref 17) r152_38 rfl rfl rfl ?_
  obtain ⟨D7, e8, h⟩ := am_ltE h
  refine x_call0 (as := [.ref 6, .ref 17]) (rest := []) r152_41 rfl rfl rfl (by decide) (Nat.le_of_ble_eq_true rfl) (am_rows_copy (n := 28) (m := 28) rfl rfl (by decide) (by decide) e8) (Nat.le_trans (by decide) hd) (Nat.zero_le _) (Nat.zero_le _) rfl ?_
  refine x_ld (v := .ref 13) r152_44 rfl rfl rfl ?_
  refine x_ld (v := .ref 2) r152_45 rfl rfl rfl ?_
  refine y_gf (cd := 0) (v := .int (D7.1 2 4)) r152_46 rfl rfl rfl ?_
  obtain ⟨D9, e10, h⟩ := am_ltE h
  refine y_pf0 r152_49 rfl e10 rfl ?_
  refine x_ld (v := .ref 13) r152_52 rfl rfl rfl ?_
  refine x_ld (v := .ref 2) r152_53 rfl rfl rfl ?_
  refine y_gf (cd := 0) (v := .int (D9.1 2 5)) r152_54 rfl rfl rfl ?_
  obtain ⟨D11, e12, h⟩ := am_ltE h
  refine y_pf0 r152_57 rfl e12 rfl ?_
  refine x_ld (v := .ref 13) r152_60 rfl rfl rfl ?_
  refine x_ld (v := .ref 2) r152_61 rfl rfl rfl ?_
  refine y_gf (cd := 0) (v := .int (D11.1 2 6)) r152_62 rfl rfl rfl ?_
  obtain ⟨D13, e14, h⟩ := am_ltE h
  refine y_pf0 r152_65 rfl e14 rfl ?_
  subst h
  exact x_ret (ret := none) (C := True) (v := none) r152_68 rt152 rfl rfl rfl rfl rfl rfl rfl rfl trivial hQ
theorem m152_13_2_ok {D : am_D} {r : am_D} (h : m152_13_2 D = r) : am_Y xs L 152 2 0 0 [.ref 13, .ref 2] D (.inl none) r := am_Yof (mi := am_m152) (lc := [.ref 13, .ref 2]) pg152 (Nat.le_of_ble_eq_true rfl) (am_rc1 (ci := 0) rfl rfl rfl rfl rfl) rfl (fun Q hQ => m152_13_2_w (Nat.le_refl _) h hQ)
theorem r202_0 : am_at 202 0 = some (.aload_n 0, 1, [0]) := by decide +kernel
theorem r202_1 : am_at 202 1 = some (.getfield 12, 3, [4, 0, 3, 87]) := by decide +kernel
theorem r202_4 : am_at 202 4 = some (.aload_n 1, 1, [1]) := by decide +kernel
theorem r202_5 : am_at 202 5 = some (.getfield 12, 3, [4, 0, 3, 87]) := by decide +kernel
theorem r202_8 : am_at 202 8 = some (.invokevirtual 50, 3, [152, 2, 290, 0]) := by decide +kernel
theorem r202_11 : am_at 202 11 = some (.aload_n 1, 1, [1]) := by decide +kernel
theorem r202_12 : am_at 202 12 = some (.getfield 18, 3, [4, 1, 3, 90]) := by decide +kernel
theorem r202_15 : am_at 202 15 = some (.aload_n 0, 1, [0]) := by decide +kernel
theorem r202_16 : am_at 202 16 = some (.getfield 18, 3, [4, 1, 3, 90]) := by decide +kernel
theorem r202_19 : am_at 202 19 = some (.invokestatic 54, 3, [184, 2, 303, 0]) := by decide +kernel
theorem r202_22 : am_at 202 22 = some (.aload_n 1, 1, [1]) := by decide +kernel
theorem r202_23 : am_at 202 23 = some (.getfield 22, 3, [4, 2, 3, 91]) := by decide +kernel
theorem r202_26 : am_at 202 26 = some (.aload_n 0, 1, [0]) := by decide +kernel
theorem r202_27 : am_at 202 27 = some (.getfield 22, 3, [4, 2, 3, 91]) := by decide +kernel
theorem r202_30 : am_at 202 30 = some (.invokestatic 54, 3, [184, 2, 303, 0]) := by decide +kernel
theorem r202_33 : am_at 202 33 = some (.aload_n 1, 1, [1]) := by decide +kernel
theorem r202_34 : am_at 202 34 = some (.getfield 25, 3, [4, 3, 3, 93]) := by decide +kernel
theorem r202_37 : am_at 202 37 = some (.aload_n 0, 1, [0]) := by decide +kernel
theorem r202_38 : am_at 202 38 = some (.getfield 25, 3, [4, 3, 3, 93]) := by decide +kernel
theorem r202_41 : am_at 202 41 = some (.invokestatic 54, 3, [184, 2, 303, 0]) := by decide +kernel
theorem r202_44 : am_at 202 44 = some (.aload_n 1, 1, [1]) := by decide +kernel
theorem r202_45 : am_at 202 45 = some (.getfield 28, 3, [4, 4, 3, 96]) := by decide +kernel
theorem r202_48 : am_at 202 48 = some (.aload_n 0, 1, [0]) := by decide +kernel
theorem r202_49 : am_at 202 49 = some (.getfield 28, 3, [4, 4, 3, 96]) := by decide +kernel
theorem r202_52 : am_at 202 52 = some (.invokestatic 54, 3, [184, 2, 303, 0]) := by decide +kernel
theorem r202_55 : am_at 202 55 = some (.aload_n 1, 1, [1]) := by decide +kernel
theorem r202_56 : am_at 202 56 = some (.getfield 31, 3, [4, 5, 3, 98]) := by decide +kernel
theorem r202_59 : am_at 202 59 = some (.aload_n 0, 1, [0]) := by decide +kernel
theorem r202_60 : am_at 202 60 = some (.getfield 31, 3, [4, 5, 3, 98]) := by decide +kernel
theorem r202_63 : am_at 202 63 = some (.invokestatic 54, 3, [184, 2, 303, 0]) := by decide +kernel
theorem r202_66 : am_at 202 66 = some (.aload_n 0, 1, [0]) := by decide +kernel
theorem r202_67 : am_at 202 67 = some (.aload_n 1, 1, [1]) := by decide +kernel
theorem r202_68 : am_at 202 68 = some (.getfield 34, 3, [4, 6, 0, 100]) := by decide +kernel
theorem r202_71 : am_at 202 71 = some (.putfield 34, 3, [4, 6, 0, 100]) := by decide +kernel
theorem r202_74 : am_at 202 74 = some (.aload_n 0, 1, [0]) := by decide +kernel
theorem r202_75 : am_at 202 75 = some (.aload_n 1, 1, [1]) := by decide +kernel
theorem r202_76 : am_at 202 76 = some (.getfield 38, 3, [4, 7, 0, 102]) := by decide +kernel
theorem r202_79 : am_at 202 79 = some (.putfield 38, 3, [4, 7, 0, 102]) := by decide +kernel
theorem r202_82 : am_at 202 82 = some (.aload_n 0, 1, [0]) := by decide +kernel
theorem r202_83 : am_at 202 83 = some (.aload_n 1, 1, [1]) := by decide +kernel
theorem r202_84 : am_at 202 84 = some (.getfield 41, 3, [4, 8, 0, 105]) := by decide +kernel
theorem r202_87 : am_at 202 87 = some (.putfield 41, 3, [4, 8, 0, 105]) := by decide +kernel
theorem r202_90 : am_at 202 90 = some (.aload_n 0, 1, [0]) := by decide +kernel
theorem r202_91 : am_at 202 91 = some (.aload_n 1, 1, [1]) := by decide +kernel
theorem r202_92 : am_at 202 92 = some (.getfield 44, 3, [4, 9, 0, 107]) := by decide +kernel
theorem r202_95 : am_at 202 95 = some (.putfield 44, 3, [4, 9, 0, 107]) := by decide +kernel
theorem r202_98 : am_at 202 98 = some (.aload_n 0, 1, [0]) := by decide +kernel
theorem r202_99 : am_at 202 99 = some (.aload_n 1, 1, [1]) := by decide +kernel
theorem r202_100 : am_at 202 100 = some (.getfield 47, 3, [4, 10, 0, 109]) := by decide +kernel
theorem r202_103 : am_at 202 103 = some (.putfield 47, 3, [4, 10, 0, 109]) := by decide +kernel
theorem r202_106 : am_at 202 106 = some (.aload_n 0, 1, [0]) := by decide +kernel
theorem r202_107 : am_at 202 107 = some (.aload_n 1, 1, [1]) := by decide +kernel
theorem r202_108 : am_at 202 108 = some (.getfield 60, 3, [4, 11, 0, 111]) := by decide +kernel
theorem r202_111 : am_at 202 111 = some (.putfield 60, 3, [4, 11, 0, 111]) := by decide +kernel
theorem r202_114 : am_at 202 114 = some (.aload_n 0, 1, [0]) := by decide +kernel
theorem r202_115 : am_at 202 115 = some (.aload_n 1, 1, [1]) := by decide +kernel
theorem r202_116 : am_at 202 116 = some (.getfield 63, 3, [4, 12, 0, 114]) := by decide +kernel
theorem r202_119 : am_at 202 119 = some (.putfield 63, 3, [4, 12, 0, 114]) := by decide +kernel
theorem r202_122 : am_at 202 122 = some (.aload_n 0, 1, [0]) := by decide +kernel
theorem r202_123 : am_at 202 123 = some (.aload_n 1, 1, [1]) := by decide +kernel
theorem r202_124 : am_at 202 124 = some (.getfield 66, 3, [4, 13, 0, 116]) := by decide +kernel
theorem r202_127 : am_at 202 127 = some (.putfield 66, 3, [4, 13, 0, 116]) := by decide +kernel
theorem r202_130 : am_at 202 130 = some (.aload_n 0, 1, [0]) := by decide +kernel
theorem r202_131 : am_at 202 131 = some (.aload_n 1, 1, [1]) := by decide +kernel
theorem r202_132 : am_at 202 132 = some (.getfield 69, 3, [4, 14, 0, 118]) := by decide +kernel
theorem r202_135 : am_at 202 135 = some (.putfield 69, 3, [4, 14, 0, 118]) := by decide +kernel
theorem r202_138 : am_at 202 138 = some (.aload_n 0, 1, [0]) := by decide +kernel
theorem r202_139 : am_at 202 139 = some (.aload_n 1, 1, [1]) := by decide +kernel
theorem r202_140 : am_at 202 140 = some (.getfield 72, 3, [4, 15, 0, 120]) := by decide +kernel
theorem r202_143 : am_at 202 143 = some (.putfield 72, 3, [4, 15, 0, 120]) := by decide +kernel
theorem r202_146 : am_at 202 146 = some (.return_, 1, []) := by decide +kernel
theorem rt202 : am_rtt 202 = some (none) := by decide +kernel
set_option maxRecDepth 100000 in
theorem pg202 : am_pg[202]? = some am_m202 := rfl
theorem m202_12_1_w {d mc ms : Nat} {D : am_D} {Q : am_O → am_AH → Prop} (hd : 3 ≤ d) {r : am_D} (h : m202_12_1 D = r) (hQ : Q (.inl none) (am_mk r)) : am_X xs L 202 d mc ms 0 [.ref 12, .ref 1] [] (am_mk D) 0 0 Q := by
  unfold m202_12_1 at h
  refine x_ld (v := .ref 12) r202_0 rfl rfl rfl ?_
  refine y_gf (cd := 15) (v := .ref 13) r202_1 rfl rfl rfl ?_
  refine x_ld (v := .ref 1) r202_4 rfl rfl rfl ?_
  refine y_gf (cd := 4) (v := .ref 2) r202_5 rfl rfl rfl ?_
  obtain ⟨q1, h2, h⟩ := am_ltE h
  replace h2 := h2.symm
  refine x_call0 (as := [.ref 13, .ref 2]) (rest := []) r202_8 rfl rfl rfl (by decide) (Nat.le_of_ble_eq_true rfl) (m152_13_2_ok h2) (Nat.le_trans (by decide) hd) (Nat.zero_le _) (Nat.zero_le _) rfl ?_
  refine x_ld (v := .ref 1) r202_11 rfl rfl rfl ?_
  refine y_gf (cd := 9) (v := .ref 7) r202_12 rfl rfl rfl ?_
  refine x_ld (v := .ref 12) r202_15 rfl rfl rfl ?_
  refine y_gf (cd := 20) (v := .ref 18) r202_16 rfl rfl rfl ?_
  obtain ⟨D3, e4, h⟩ := am_ltE h
  refine x_call0 (as := [.ref 7, .ref 18]) (rest := []) r202_19 rfl rfl rfl (by decide) (Nat.le_of_ble_eq_true rfl) (am_rows_copy (n := 28) (m := 28) rfl rfl (by decide) (by decide) e4) (Nat.le_trans (by decide) hd) (Nat.zero_le _) (Nat.zero_le _) rfl ?_
  refine x_ld (v := .ref 1) r202_22 rfl rfl rfl ?_
  refine y_gf (cd := 10) (v := .ref 8) r202_23 rfl rfl rfl ?_
  refine x_ld (v := .ref 12) r202_26 rfl rfl rfl ?_
  refine y_gf (cd := 21) (v := .ref 19) r202_27 rfl rfl rfl ?_
  obtain ⟨D5, e6, h⟩ := am_ltE h
  refine x_call0 (as := [.ref 8, .ref 19]) (rest := []) r202_30 rfl rfl rfl (by decide) (Nat.le_of_ble_eq_true rfl) (am_rows_copy (n := 4) (m := 4) rfl rfl (by decide) (by decide) e6) (Nat.le_trans (by decide) hd) (Nat.zero_le _) (Nat.zero_le _) rfl ?_
  refine x_ld (v := .ref 1) r202_33 rfl rfl rfl ?_
  refine y_gf (cd := 11) (v := .ref 9) r202_34 rfl rfl rfl ?_
  refine x_ld (v := .ref 12) r202_37 rfl rfl rfl ?_
  refine y_gf (cd := 22) (v := .ref 20) r202_38 rfl rfl rfl ?_
  obtain ⟨D7, e8, h⟩ := am_ltE h
  refine x_call0 (as := [.ref 9, .ref 20]) (rest := []) r202_41 rfl rfl rfl (by decide) (Nat.le_of_ble_eq_true rfl) (am_rows_copy (n := 4) (m := 4) rfl rfl (by decide) (by decide) e8) (Nat.le_trans (by decide) hd) (Nat.zero_le _) (Nat.zero_le _) rfl ?_
  refine x_ld (v := .ref 1) r202_44 rfl rfl rfl ?_
  refine y_gf (cd := 12) (v := .ref 10) r202_45 rfl rfl rfl ?_
  refine x_ld (v := .ref 12) r202_48 rfl rfl rfl ?_
  refine y_gf (cd := 23) (v := .ref 21) r202_49 rfl rfl rfl ?_
  obtain ⟨D9, e10, h⟩ := am_ltE h
  refine x_call0 (as := [.ref 10, .ref 21]) (rest := []) r202_52 rfl rfl rfl (by decide) (Nat.le_of_ble_eq_true rfl) (am_rows_copy (n := 4) (m := 4) rfl rfl (by decide) (by decide) e10) (Nat.le_trans (by decide) hd) (Nat.zero_le _) (Nat.zero_le _) rfl ?_
  refine x_ld (v := .ref 1) r202_55 rfl rfl rfl ?_
  refine y_gf (cd := 13) (v := .ref 11) r202_56 rfl rfl rfl ?_
  refine x_ld (v := .ref 12) r202_59 rfl rfl rfl ?_
  refine y_gf (cd := 24) (v := .ref 22) r202_60 rfl rfl rfl ?_
  obtain ⟨D11, e12, h⟩ := am_ltE h
  refine x_call0 (as := [.ref 11, .ref 22]) (rest := []) r202_63 rfl rfl rfl (by decide) (Nat.le_of_ble_eq_true rfl) (am_rows_copy (n := 2) (m := 2) rfl rfl (by decide) (by decide) e12) (Nat.le_trans (by decide) hd) (Nat.zero_le _) (Nat.zero_le _) rfl ?_
  refine x_ld (v := .ref 12) r202_66 rfl rfl rfl ?_
  refine x_ld (v := .ref 1) r202_67 rfl rfl rfl ?_
  refine y_gf (cd := 0) (v := .int (D11.1 1 6)) r202_68 rfl rfl rfl ?_
  obtain ⟨D13, e14, h⟩ := am_ltE h
  refine y_pf0 r202_71 rfl e14 rfl ?_
  refine x_ld (v := .ref 12) r202_74 rfl rfl rfl ?_
  refine x_ld (v := .ref 1) r202_75 rfl rfl rfl ?_
  refine y_gf (cd := 0) (v := .int (D13.1 1 7)) r202_76 rfl rfl rfl ?_
  obtain ⟨D15, e16, h⟩ := am_ltE h
  refine y_pf0 r202_79 rfl e16 rfl ?_
  refine x_ld (v := .ref 12) r202_82 rfl rfl rfl ?_
  refine x_ld (v := .ref 1) r202_83 rfl rfl rfl ?_
  refine y_gf (cd := 0) (v := .int (D15.1 1 8)) r202_84 rfl rfl rfl ?_
  obtain ⟨D17, e18, h⟩ := am_ltE h
  refine y_pf0 r202_87 rfl e18 rfl ?_
  refine x_ld (v := .ref 12) r202_90 rfl rfl rfl ?_
  refine x_ld (v := .ref 1) r202_91 rfl rfl rfl ?_
  refine y_gf (cd := 0) (v := .int (D17.1 1 9)) r202_92 rfl rfl rfl ?_
  obtain ⟨D19, e20, h⟩ := am_ltE h
  refine y_pf0 r202_95 rfl e20 rfl ?_
  refine x_ld (v := .ref 12) r202_98 rfl rfl rfl ?_
  refine x_ld (v := .ref 1) r202_99 rfl rfl rfl ?_
  refine y_gf (cd := 0) (v := .int (D19.1 1 10)) r202_100 rfl rfl rfl ?_
  obtain ⟨D21, e22, h⟩ := am_ltE h
  refine y_pf0 r202_103 rfl e22 rfl ?_
  refine x_ld (v := .ref 12) r202_106 rfl rfl rfl ?_
  refine x_ld (v := .ref 1) r202_107 rfl rfl rfl ?_
  refine y_gf (cd := 0) (v := .int (D21.1 1 11)) r202_108 rfl rfl rfl ?_
  obtain ⟨D23, e24, h⟩ := am_ltE h
  refine y_pf0 r202_111 rfl e24 rfl ?_
  refine x_ld (v := .ref 12) r202_114 rfl rfl rfl ?_
  refine x_ld (v := .ref 1) r202_115 rfl rfl rfl ?_
  refine y_gf (cd := 0) (v := .int (D23.1 1 12)) r202_116 rfl rfl rfl ?_
  obtain ⟨D25, e26, h⟩ := am_ltE h
  refine y_pf0 r202_119 rfl e26 rfl ?_
  refine x_ld (v := .ref 12) r202_122 rfl rfl rfl ?_
  refine x_ld (v := .ref 1) r202_123 rfl rfl rfl ?_
  refine y_gf (cd := 0) (v := .int (D25.1 1 13)) r202_124 rfl rfl rfl ?_
  obtain ⟨D27, e28, h⟩ := am_ltE h
  refine y_pf0 r202_127 rfl e28 rfl ?_
  refine x_ld (v := .ref 12) r202_130 rfl rfl rfl ?_
  refine x_ld (v := .ref 1) r202_131 rfl rfl rfl ?_
  refine y_gf (cd := 0) (v := .int (D27.1 1 14)) r202_132 rfl rfl rfl ?_
  obtain ⟨D29, e30, h⟩ := am_ltE h
  refine y_pf0 r202_135 rfl e30 rfl ?_
  refine x_ld (v := .ref 12) r202_138 rfl rfl rfl ?_
  refine x_ld (v := .ref 1) r202_139 rfl rfl rfl ?_
  refine y_gf (cd := 0) (v := .int (D29.1 1 15)) r202_140 rfl rfl rfl ?_
  obtain ⟨D31, e32, h⟩ := am_ltE h
  refine y_pf0 r202_143 rfl e32 rfl ?_
  subst h
  exact x_ret (ret := none) (C := True) (v := none) r202_146 rt202 rfl rfl rfl rfl rfl rfl rfl rfl trivial hQ
theorem m202_12_1_ok {D : am_D} {r : am_D} (h : m202_12_1 D = r) : am_Y xs L 202 3 0 0 [.ref 12, .ref 1] D (.inl none) r := am_Yof (mi := am_m202) (lc := [.ref 12, .ref 1]) pg202 (Nat.le_of_ble_eq_true rfl) (am_rc1 (ci := 4) rfl rfl rfl rfl rfl) rfl (fun Q hQ => m202_12_1_w (Nat.le_refl _) h hQ)
theorem r15_0 : am_at 15 0 = some (.aload_n 0, 1, [0]) := by decide +kernel
theorem r15_1 : am_at 15 1 = some (.getfield 16, 3, [7, 1, 3, 258]) := by decide +kernel
theorem r15_4 : am_at 15 4 = some (.aload_n 0, 1, [0]) := by decide +kernel
theorem r15_5 : am_at 15 5 = some (.getfield 10, 3, [7, 0, 3, 257]) := by decide +kernel
theorem r15_8 : am_at 15 8 = some (.invokevirtual 207, 3, [202, 2, 286, 0]) := by decide +kernel
theorem r15_11 : am_at 15 11 = some (.aload_n 0, 1, [0]) := by decide +kernel
theorem r15_12 : am_at 15 12 = some (.iconst (1), 1, []) := by decide +kernel
theorem r15_13 : am_at 15 13 = some (.putfield 54, 3, [7, 7, 2, 264]) := by decide +kernel
theorem r15_16 : am_at 15 16 = some (.aload_n 0, 1, [0]) := by decide +kernel
theorem r15_17 : am_at 15 17 = some (.getfield 10, 3, [7, 0, 3, 257]) := by decide +kernel
theorem r15_20 : am_at 15 20 = some (.getfield 210, 3, [4, 0, 3, 89]) := by decide +kernel
theorem r15_23 : am_at 15 23 = some (.getfield 214, 3, [0, 4, 0, 68]) := by decide +kernel
theorem r15_26 : am_at 15 26 = some (.ireturn, 1, []) := by decide +kernel
theorem rt15 : am_rtt 15 = some (some .int) := by decide +kernel
set_option maxRecDepth 100000 in
theorem pg15 : am_pg[15]? = some am_m15 := rfl
theorem m15_w {d mc ms : Nat} {D : am_D} {Q : am_O → am_AH → Prop} (hd : 4 ≤ d) {r : Int32 × am_D} (h : m15 D = r) (hQ : Q (.inl (some (.int r.1))) (am_mk r.2)) : am_X xs L 15 d mc ms 0 [.ref 0] [] (am_mk D) 0 0 Q := by
  unfold m15 at h
  refine x_ld (v := .ref 0) r15_0 rfl rfl rfl ?_
  refine y_gf (cd := 14) (v := .ref 12) r15_1 rfl rfl rfl ?_
  refine x_ld (v := .ref 0) r15_4 rfl rfl rfl ?_
  refine y_gf (cd := 3) (v := .ref 1) r15_5 rfl rfl rfl ?_
  obtain ⟨q1, h2, h⟩ := am_ltE h
  replace h2 := h2.symm
  refine x_call0 (as := [.ref 12, .ref 1]) (rest := []) r15_8 rfl rfl rfl (by decide) (Nat.le_of_ble_eq_true rfl) (m202_12_1_ok h2) (Nat.le_trans (by decide) hd) (Nat.zero_le _) (Nat.zero_le _) rfl ?_
  refine x_ld (v := .ref 0) r15_11 rfl rfl rfl ?_
  refine x_ic (v := 1) r15_12 rfl rfl ?_
  obtain ⟨D3, e4, h⟩ := am_ltE h
  refine y_pf2 r15_13 rfl (by decide) e4 rfl ?_
  refine x_ld (v := .ref 0) r15_16 rfl rfl rfl ?_
  refine y_gf (cd := 3) (v := .ref 1) r15_17 rfl rfl rfl ?_
  refine y_gf (cd := 4) (v := .ref 2) r15_20 rfl rfl rfl ?_
  refine y_gf (cd := 0) (v := .int (D3.1 2 4)) r15_23 rfl rfl rfl ?_
  subst h
  exact x_ret (ret := some .int) (C := True) (v := some (.int _)) r15_26 rt15 rfl rfl rfl rfl rfl rfl rfl rfl trivial hQ
theorem m15_ok {D : am_D} {r : Int32 × am_D} (h : m15 D = r) : am_Y xs L 15 4 0 0 [.ref 0] D (.inl (some (.int r.1))) r.2 := am_Yof (mi := am_m15) (lc := [.ref 0]) pg15 (Nat.le_of_ble_eq_true rfl) (am_rc1 (ci := 7) rfl rfl rfl rfl rfl) rfl (fun Q hQ => m15_w (Nat.le_refl _) h hQ)
theorem r40_0 : am_at 40 0 = some (.iload_n 0, 1, [0]) := by decide +kernel
theorem r40_1 : am_at 40 1 = some (.ifCond .lt (12), 3, [13]) := by decide +kernel
theorem r40_4 : am_at 40 4 = some (.iload_n 0, 1, [0]) := by decide +kernel
theorem r40_5 : am_at 40 5 = some (.iconst (4), 1, []) := by decide +kernel
theorem r40_6 : am_at 40 6 = some (.if_icmp .ge (7), 3, [13]) := by decide +kernel
theorem r40_9 : am_at 40 9 = some (.iconst (1), 1, []) := by decide +kernel
theorem r40_10 : am_at 40 10 = some (.goto (4), 3, [14]) := by decide +kernel
theorem r40_13 : am_at 40 13 = some (.iconst (0), 1, []) := by decide +kernel
theorem r40_14 : am_at 40 14 = some (.ireturn, 1, []) := by decide +kernel
theorem rt40 : am_rtt 40 = some (some .boolean) := by decide +kernel
set_option maxRecDepth 100000 in
theorem pg40 : am_pg[40]? = some am_m40 := rfl
theorem m40_w {d mc ms : Nat} {D : am_D} {v0 : Int32} {Q : am_O → am_AH → Prop} (hd : 1 ≤ d) {r : Int32} (h : m40 v0 = r) (hQ : Q (.inl (some (.int r))) (am_mk D)) : am_X xs L 40 d mc ms 0 [.int v0] [] (am_mk D) 0 0 Q := by
  unfold m40 at h
  refine x_ld (v := .int v0) r40_0 rfl rfl rfl ?_
  rcases am_ifE h with ⟨c1, h⟩ | ⟨c1, h⟩
  · refine x_ifltT r40_1 c1 ?_
    refine x_ic (v := 0) r40_13 rfl rfl ?_
    subst h
    exact x_ret (ret := some .boolean) (C := narrow .boolean (.int (0 : Int32)) = .int (0 : Int32)) (v := some (.int (0 : Int32))) r40_14 rt40 rfl rfl rfl rfl rfl rfl rfl rfl (by decide) hQ
  · refine x_ifltF r40_1 c1 rfl ?_
    refine x_ld (v := .int v0) r40_4 rfl rfl rfl ?_
    refine x_ic (v := 4) r40_5 rfl rfl ?_
    rcases am_ifE h with ⟨c2, h⟩ | ⟨c2, h⟩
    · refine x_icgeT r40_6 c2 ?_
      refine x_ic (v := 0) r40_13 rfl rfl ?_
      subst h
      exact x_ret (ret := some .boolean) (C := narrow .boolean (.int (0 : Int32)) = .int (0 : Int32)) (v := some (.int (0 : Int32))) r40_14 rt40 rfl rfl rfl rfl rfl rfl rfl rfl (by decide) hQ
    · refine x_icgeF r40_6 c2 rfl ?_
      refine x_ic (v := 1) r40_9 rfl rfl ?_
      refine x_goto r40_10 ?_
      subst h
      exact x_ret (ret := some .boolean) (C := narrow .boolean (.int (1 : Int32)) = .int (1 : Int32)) (v := some (.int (1 : Int32))) r40_14 rt40 rfl rfl rfl rfl rfl rfl rfl rfl (by decide) hQ
theorem m40_ok {D : am_D} {v0 : Int32} {r : Int32} (h : m40 v0 = r) : am_Y xs L 40 1 0 0 [.int v0] D (.inl (some (.int r))) D := am_Yof (mi := am_m40) (lc := [.int v0]) pg40 (Nat.le_of_ble_eq_true rfl) (am_rc0 rfl) rfl (fun Q hQ => m40_w (Nat.le_refl _) h hQ)
theorem m40_b (v0 : Int32) : m40 v0 &&& 1 = m40 v0 := by
  unfold m40
  (repeat' split) <;> rfl
theorem r41_0 : am_at 41 0 = some (.iload_n 0, 1, [0]) := by decide +kernel
theorem r41_1 : am_at 41 1 = some (.ifCond .lt (13), 3, [14]) := by decide +kernel
theorem r41_4 : am_at 41 4 = some (.iload_n 0, 1, [0]) := by decide +kernel
theorem r41_5 : am_at 41 5 = some (.bipush (28), 2, []) := by decide +kernel
theorem r41_7 : am_at 41 7 = some (.if_icmp .ge (7), 3, [14]) := by decide +kernel
theorem r41_10 : am_at 41 10 = some (.iconst (1), 1, []) := by decide +kernel
theorem r41_11 : am_at 41 11 = some (.goto (4), 3, [15]) := by decide +kernel
theorem r41_14 : am_at 41 14 = some (.iconst (0), 1, []) := by decide +kernel
theorem r41_15 : am_at 41 15 = some (.ireturn, 1, []) := by decide +kernel
theorem rt41 : am_rtt 41 = some (some .boolean) := by decide +kernel
set_option maxRecDepth 100000 in
theorem pg41 : am_pg[41]? = some am_m41 := rfl
theorem m41_w {d mc ms : Nat} {D : am_D} {v0 : Int32} {Q : am_O → am_AH → Prop} (hd : 1 ≤ d) {r : Int32} (h : m41 v0 = r) (hQ : Q (.inl (some (.int r))) (am_mk D)) : am_X xs L 41 d mc ms 0 [.int v0] [] (am_mk D) 0 0 Q := by
  unfold m41 at h
  refine x_ld (v := .int v0) r41_0 rfl rfl rfl ?_
  rcases am_ifE h with ⟨c1, h⟩ | ⟨c1, h⟩
  · refine x_ifltT r41_1 c1 ?_
    refine x_ic (v := 0) r41_14 rfl rfl ?_
    subst h
    exact x_ret (ret := some .boolean) (C := narrow .boolean (.int (0 : Int32)) = .int (0 : Int32)) (v := some (.int (0 : Int32))) r41_15 rt41 rfl rfl rfl rfl rfl rfl rfl rfl (by decide) hQ
  · refine x_ifltF r41_1 c1 rfl ?_
    refine x_ld (v := .int v0) r41_4 rfl rfl rfl ?_
    refine x_bi (v := 28) r41_5 rfl rfl ?_
    rcases am_ifE h with ⟨c2, h⟩ | ⟨c2, h⟩
    · refine x_icgeT r41_7 c2 ?_
      refine x_ic (v := 0) r41_14 rfl rfl ?_
      subst h
      exact x_ret (ret := some .boolean) (C := narrow .boolean (.int (0 : Int32)) = .int (0 : Int32)) (v := some (.int (0 : Int32))) r41_15 rt41 rfl rfl rfl rfl rfl rfl rfl rfl (by decide) hQ
    · refine x_icgeF r41_7 c2 rfl ?_
      refine x_ic (v := 1) r41_10 rfl rfl ?_
      refine x_goto r41_11 ?_
      subst h
      exact x_ret (ret := some .boolean) (C := narrow .boolean (.int (1 : Int32)) = .int (1 : Int32)) (v := some (.int (1 : Int32))) r41_15 rt41 rfl rfl rfl rfl rfl rfl rfl rfl (by decide) hQ
theorem m41_ok {D : am_D} {v0 : Int32} {r : Int32} (h : m41 v0 = r) : am_Y xs L 41 1 0 0 [.int v0] D (.inl (some (.int r))) D := am_Yof (mi := am_m41) (lc := [.int v0]) pg41 (Nat.le_of_ble_eq_true rfl) (am_rc0 rfl) rfl (fun Q hQ => m41_w (Nat.le_refl _) h hQ)
theorem m41_b (v0 : Int32) : m41 v0 &&& 1 = m41 v0 := by
  unfold m41
  (repeat' split) <;> rfl
theorem r42_0 : am_at 42 0 = some (.iload_n 0, 1, [0]) := by decide +kernel
theorem r42_1 : am_at 42 1 = some (.ifCond .lt (13), 3, [14]) := by decide +kernel
theorem r42_4 : am_at 42 4 = some (.iload_n 0, 1, [0]) := by decide +kernel
theorem r42_5 : am_at 42 5 = some (.bipush (7), 2, []) := by decide +kernel
theorem r42_7 : am_at 42 7 = some (.if_icmp .ge (7), 3, [14]) := by decide +kernel
theorem r42_10 : am_at 42 10 = some (.iconst (1), 1, []) := by decide +kernel
theorem r42_11 : am_at 42 11 = some (.goto (4), 3, [15]) := by decide +kernel
theorem r42_14 : am_at 42 14 = some (.iconst (0), 1, []) := by decide +kernel
theorem r42_15 : am_at 42 15 = some (.ireturn, 1, []) := by decide +kernel
theorem rt42 : am_rtt 42 = some (some .boolean) := by decide +kernel
set_option maxRecDepth 100000 in
theorem pg42 : am_pg[42]? = some am_m42 := rfl
theorem m42_w {d mc ms : Nat} {D : am_D} {v0 : Int32} {Q : am_O → am_AH → Prop} (hd : 1 ≤ d) {r : Int32} (h : m42 v0 = r) (hQ : Q (.inl (some (.int r))) (am_mk D)) : am_X xs L 42 d mc ms 0 [.int v0] [] (am_mk D) 0 0 Q := by
  unfold m42 at h
  refine x_ld (v := .int v0) r42_0 rfl rfl rfl ?_
  rcases am_ifE h with ⟨c1, h⟩ | ⟨c1, h⟩
  · refine x_ifltT r42_1 c1 ?_
    refine x_ic (v := 0) r42_14 rfl rfl ?_
    subst h
    exact x_ret (ret := some .boolean) (C := narrow .boolean (.int (0 : Int32)) = .int (0 : Int32)) (v := some (.int (0 : Int32))) r42_15 rt42 rfl rfl rfl rfl rfl rfl rfl rfl (by decide) hQ
  · refine x_ifltF r42_1 c1 rfl ?_
    refine x_ld (v := .int v0) r42_4 rfl rfl rfl ?_
    refine x_bi (v := 7) r42_5 rfl rfl ?_
    rcases am_ifE h with ⟨c2, h⟩ | ⟨c2, h⟩
    · refine x_icgeT r42_7 c2 ?_
      refine x_ic (v := 0) r42_14 rfl rfl ?_
      subst h
      exact x_ret (ret := some .boolean) (C := narrow .boolean (.int (0 : Int32)) = .int (0 : Int32)) (v := some (.int (0 : Int32))) r42_15 rt42 rfl rfl rfl rfl rfl rfl rfl rfl (by decide) hQ
    · refine x_icgeF r42_7 c2 rfl ?_
      refine x_ic (v := 1) r42_10 rfl rfl ?_
      refine x_goto r42_11 ?_
      subst h
      exact x_ret (ret := some .boolean) (C := narrow .boolean (.int (1 : Int32)) = .int (1 : Int32)) (v := some (.int (1 : Int32))) r42_15 rt42 rfl rfl rfl rfl rfl rfl rfl rfl (by decide) hQ
theorem m42_ok {D : am_D} {v0 : Int32} {r : Int32} (h : m42 v0 = r) : am_Y xs L 42 1 0 0 [.int v0] D (.inl (some (.int r))) D := am_Yof (mi := am_m42) (lc := [.int v0]) pg42 (Nat.le_of_ble_eq_true rfl) (am_rc0 rfl) rfl (fun Q hQ => m42_w (Nat.le_refl _) h hQ)
theorem m42_b (v0 : Int32) : m42 v0 &&& 1 = m42 v0 := by
  unfold m42
  (repeat' split) <;> rfl
theorem r43_0 : am_at 43 0 = some (.iload_n 0, 1, [0]) := by decide +kernel
theorem r43_1 : am_at 43 1 = some (.ifCond .eq (8), 3, [9]) := by decide +kernel
theorem r43_4 : am_at 43 4 = some (.iload_n 0, 1, [0]) := by decide +kernel
theorem r43_5 : am_at 43 5 = some (.iconst (1), 1, []) := by decide +kernel
theorem r43_6 : am_at 43 6 = some (.if_icmp .ne (7), 3, [13]) := by decide +kernel
theorem r43_9 : am_at 43 9 = some (.iconst (1), 1, []) := by decide +kernel
theorem r43_10 : am_at 43 10 = some (.goto (4), 3, [14]) := by decide +kernel
theorem r43_13 : am_at 43 13 = some (.iconst (0), 1, []) := by decide +kernel
theorem r43_14 : am_at 43 14 = some (.ireturn, 1, []) := by decide +kernel
theorem rt43 : am_rtt 43 = some (some .boolean) := by decide +kernel
set_option maxRecDepth 100000 in
theorem pg43 : am_pg[43]? = some am_m43 := rfl
theorem m43_w {d mc ms : Nat} {D : am_D} {v0 : Int32} {Q : am_O → am_AH → Prop} (hd : 1 ≤ d) {r : Int32} (h : m43 v0 = r) (hQ : Q (.inl (some (.int r))) (am_mk D)) : am_X xs L 43 d mc ms 0 [.int v0] [] (am_mk D) 0 0 Q := by
  unfold m43 at h
  refine x_ld (v := .int v0) r43_0 rfl rfl rfl ?_
  rcases am_ifE h with ⟨c1, h⟩ | ⟨c1, h⟩
  · refine x_ifeqT r43_1 c1 ?_
    refine x_ic (v := 1) r43_9 rfl rfl ?_
    refine x_goto r43_10 ?_
    subst h
    exact x_ret (ret := some .boolean) (C := narrow .boolean (.int (1 : Int32)) = .int (1 : Int32)) (v := some (.int (1 : Int32))) r43_14 rt43 rfl rfl rfl rfl rfl rfl rfl rfl (by decide) hQ
  · refine x_ifeqF r43_1 c1 rfl ?_
    refine x_ld (v := .int v0) r43_4 rfl rfl rfl ?_
    refine x_ic (v := 1) r43_5 rfl rfl ?_
    rcases am_ifE h with ⟨c2, h⟩ | ⟨c2, h⟩
    · refine x_icneT r43_6 c2 rfl ?_
      refine x_ic (v := 1) r43_9 rfl rfl ?_
      refine x_goto r43_10 ?_
      subst h
      exact x_ret (ret := some .boolean) (C := narrow .boolean (.int (1 : Int32)) = .int (1 : Int32)) (v := some (.int (1 : Int32))) r43_14 rt43 rfl rfl rfl rfl rfl rfl rfl rfl (by decide) hQ
    · refine x_icneF r43_6 c2 ?_
      refine x_ic (v := 0) r43_13 rfl rfl ?_
      subst h
      exact x_ret (ret := some .boolean) (C := narrow .boolean (.int (0 : Int32)) = .int (0 : Int32)) (v := some (.int (0 : Int32))) r43_14 rt43 rfl rfl rfl rfl rfl rfl rfl rfl (by decide) hQ
theorem m43_ok {D : am_D} {v0 : Int32} {r : Int32} (h : m43 v0 = r) : am_Y xs L 43 1 0 0 [.int v0] D (.inl (some (.int r))) D := am_Yof (mi := am_m43) (lc := [.int v0]) pg43 (Nat.le_of_ble_eq_true rfl) (am_rc0 rfl) rfl (fun Q hQ => m43_w (Nat.le_refl _) h hQ)
theorem m43_b (v0 : Int32) : m43 v0 &&& 1 = m43 v0 := by
  unfold m43
  (repeat' split) <;> rfl
theorem r153_0 : am_at 153 0 = some (.aload_n 0, 1, [0]) := by decide +kernel
theorem r153_1 : am_at 153 1 = some (.iconst (0), 1, []) := by decide +kernel
theorem r153_2 : am_at 153 2 = some (.putfield 37, 3, [0, 4, 0, 67]) := by decide +kernel
theorem r153_5 : am_at 153 5 = some (.aload_n 0, 1, [0]) := by decide +kernel
theorem r153_6 : am_at 153 6 = some (.iconst (-1), 1, []) := by decide +kernel
theorem r153_7 : am_at 153 7 = some (.putfield 24, 3, [0, 5, 0, 69]) := by decide +kernel
theorem r153_10 : am_at 153 10 = some (.aload_n 0, 1, [0]) := by decide +kernel
theorem r153_11 : am_at 153 11 = some (.iconst (-1), 1, []) := by decide +kernel
theorem r153_12 : am_at 153 12 = some (.putfield 28, 3, [0, 6, 0, 70]) := by decide +kernel
theorem r153_15 : am_at 153 15 = some (.return_, 1, []) := by decide +kernel
theorem rt153 : am_rtt 153 = some (none) := by decide +kernel
set_option maxRecDepth 100000 in
theorem pg153 : am_pg[153]? = some am_m153 := rfl
theorem m153_w {d mc ms : Nat} {D : am_D} {Q : am_O → am_AH → Prop} (hd : 1 ≤ d) {r : am_D} (h : m153 D = r) (hQ : Q (.inl none) (am_mk r)) : am_X xs L 153 d mc ms 0 [.ref 2] [] (am_mk D) 0 0 Q := by
  unfold m153 at h
  refine x_ld (v := .ref 2) r153_0 rfl rfl rfl ?_
  refine x_ic (v := 0) r153_1 rfl rfl ?_
  obtain ⟨D1, e2, h⟩ := am_ltE h
  refine y_pf0 r153_2 rfl e2 rfl ?_
  refine x_ld (v := .ref 2) r153_5 rfl rfl rfl ?_
  refine x_ic (v := -1) r153_6 rfl rfl ?_
  obtain ⟨D3, e4, h⟩ := am_ltE h
  refine y_pf0 r153_7 rfl e4 rfl ?_
  refine x_ld (v := .ref 2) r153_10 rfl rfl rfl ?_
  refine x_ic (v := -1) r153_11 rfl rfl ?_
  obtain ⟨D5, e6, h⟩ := am_ltE h
  refine y_pf0 r153_12 rfl e6 rfl ?_
  subst h
  exact x_ret (ret := none) (C := True) (v := none) r153_15 rt153 rfl rfl rfl rfl rfl rfl rfl rfl trivial hQ
theorem m153_ok {D : am_D} {r : am_D} (h : m153 D = r) : am_Y xs L 153 1 0 0 [.ref 2] D (.inl none) r := am_Yof (mi := am_m153) (lc := [.ref 2]) pg153 (Nat.le_of_ble_eq_true rfl) (am_rc1 (ci := 0) rfl rfl rfl rfl rfl) rfl (fun Q hQ => m153_w (Nat.le_refl _) h hQ)
theorem r154_0 : am_at 154 0 = some (.iconst (0), 1, []) := by decide +kernel
theorem r154_1 : am_at 154 1 = some (.istore_n 2, 1, [2]) := by decide +kernel
theorem r154_2 : am_at 154 2 = some (.iload_n 2, 1, [2]) := by decide +kernel
theorem r154_3 : am_at 154 3 = some (.aload_n 0, 1, [0]) := by decide +kernel
theorem r154_4 : am_at 154 4 = some (.getfield 37, 3, [0, 4, 0, 67]) := by decide +kernel
theorem r154_7 : am_at 154 7 = some (.if_icmp .ge (23), 3, [30]) := by decide +kernel
theorem r154_10 : am_at 154 10 = some (.aload_n 0, 1, [0]) := by decide +kernel
theorem r154_11 : am_at 154 11 = some (.getfield 9, 3, [0, 0, 3, 59]) := by decide +kernel
theorem r154_14 : am_at 154 14 = some (.iload_n 2, 1, [2]) := by decide +kernel
theorem r154_15 : am_at 154 15 = some (.invokestatic 40, 3, [180, 2, 401, 0]) := by decide +kernel
theorem r154_18 : am_at 154 18 = some (.iload_n 1, 1, [1]) := by decide +kernel
theorem r154_19 : am_at 154 19 = some (.if_icmp .ne (5), 3, [24]) := by decide +kernel
theorem r154_22 : am_at 154 22 = some (.iload_n 2, 1, [2]) := by decide +kernel
theorem r154_23 : am_at 154 23 = some (.ireturn, 1, []) := by decide +kernel
theorem r154_24 : am_at 154 24 = some (.iinc 2 (1), 3, [2]) := by decide +kernel
theorem r154_27 : am_at 154 27 = some (.goto (-25), 3, [2]) := by decide +kernel
theorem r154_30 : am_at 154 30 = some (.iconst (-1), 1, []) := by decide +kernel
theorem r154_31 : am_at 154 31 = some (.ireturn, 1, []) := by decide +kernel
theorem rt154 : am_rtt 154 = some (some .int) := by decide +kernel
set_option maxRecDepth 100000 in
theorem pg154 : am_pg[154]? = some am_m154 := rfl
theorem m154_L2_w {d : Nat} {N : Nat} {D : am_D} {v1 : Int32} {mc ms : Nat} {Q : am_O → am_AH → Prop} (hd : 2 ≤ d) : ∀ (n : Nat) (v2 : Int32) {q : Nat × Int32} (h : m154_L2 N D v1  n v2 = some q) (k0 : q.1 = 0 → am_X xs L 154 d mc ms 30 [.ref 2, am_dead, am_dead] [] (am_mk D) 0 0 Q) (k1 : q.1 = 1 → am_X xs L 154 d mc ms 22 [.ref 2, am_dead, .int q.2] [] (am_mk D) 0 0 Q), am_X xs L 154 d mc ms 2 [.ref 2, .int v1, .int v2] [] (am_mk D) 0 0 Q := by
  intro n
  induction n with
  | zero =>
    intro v2 q h k0 k1
    exact (nomatch (show none = some q from h))
  | succ n ih =>
    intro v2 q h k0 k1
    rw [m154_L2] at h
    refine x_ld (v := .int v2) r154_2 rfl rfl rfl ?_
    refine x_ld (v := .ref 2) r154_3 rfl rfl rfl ?_
    refine y_gf (cd := 0) (v := .int (D.1 2 4)) r154_4 rfl rfl rfl ?_
    rcases am_ifE h with ⟨c1, h⟩ | ⟨c1, h⟩
    · refine x_icgeT r154_7 c1 ?_
      refine x_forget (lc0 := [.ref 2, am_dead, am_dead]) ⟨Or.inl rfl, Or.inr ⟨rfl, rfl⟩, Or.inr ⟨rfl, rfl⟩, trivial⟩ ?_
      cases h
      exact k0 rfl
    · refine x_icgeF r154_7 c1 rfl ?_
      refine x_ld (v := .ref 2) r154_10 rfl rfl rfl ?_
      refine y_gf (cd := 5) (v := .ref 3) r154_11 rfl rfl rfl ?_
      refine x_ld (v := .int v2) r154_14 rfl rfl rfl ?_
      refine x_call1 (as := [.ref 3, .int v2]) (rest := []) r154_15 rfl rfl rfl (by decide) (Nat.le_of_ble_eq_true rfl) (am_rows_at (n := 28) rfl (by decide)) (Nat.le_trans (by decide) hd) (Nat.zero_le _) (Nat.zero_le _) rfl ?_
      refine x_ld (v := .int v1) r154_18 rfl rfl rfl ?_
      rcases am_ifE h with ⟨c2, h⟩ | ⟨c2, h⟩
      · refine x_icneT r154_19 c2 rfl ?_
        refine x_forget (lc0 := [.ref 2, am_dead, .int v2]) ⟨Or.inl rfl, Or.inr ⟨rfl, rfl⟩, Or.inl rfl, trivial⟩ ?_
        cases h
        exact k1 rfl
      · refine x_icneF r154_19 c2 ?_
        obtain ⟨x3, e4, h⟩ := am_ltE h
        refine x_sto (lc' := [.ref 2, .int v1, .int x3]) r154_24 rfl rfl (by subst e4; rfl) rfl ?_
        refine x_goto r154_27 ?_
        exact x_forget (lc0 := [.ref 2, .int v1, .int x3]) ⟨Or.inl rfl, Or.inl rfl, Or.inl rfl, trivial⟩ (ih x3 h k0 k1)
theorem m154_w {d mc ms : Nat} {N : Nat} {D : am_D} {v1 : Int32} {Q : am_O → am_AH → Prop} (hd : 2 ≤ d) {r : Int32} (h : m154 N D v1 = some r) (hQ : Q (.inl (some (.int r))) (am_mk D)) : am_X xs L 154 d mc ms 0 [.ref 2, .int v1, am_dead] [] (am_mk D) 0 0 Q := by
  unfold m154 at h
  refine x_ic (v := 0) r154_0 rfl rfl ?_
  refine x_sto (lc' := [.ref 2, .int v1, .int (0 : Int32)]) r154_1 rfl rfl rfl rfl ?_
  obtain ⟨q5, h6, h⟩ := Option.bind_eq_some_iff.mp h
  refine x_forget (lc0 := [.ref 2, .int v1, .int (0 : Int32)]) ⟨Or.inl rfl, Or.inl rfl, Or.inl rfl, trivial⟩ (m154_L2_w hd N (0 : Int32) h6 (fun e7 => ?_) (fun e8 => ?_))
  · rw [if_pos e7] at h
    refine x_ic (v := -1) r154_30 rfl rfl ?_
    cases h
    exact x_ret (ret := some .int) (C := True) (v := some (.int _)) r154_31 rt154 rfl rfl rfl rfl rfl rfl rfl rfl trivial hQ
  · rw [if_neg (by rw [e8]; decide)] at h
    refine x_ld (v := .int q5.2) r154_22 rfl rfl rfl ?_
    cases h
    exact x_ret (ret := some .int) (C := True) (v := some (.int _)) r154_23 rt154 rfl rfl rfl rfl rfl rfl rfl rfl trivial hQ
theorem m154_ok {N : Nat} {D : am_D} {v1 : Int32} {r : Int32} (h : m154 N D v1 = some r) : am_Y xs L 154 2 0 0 [.ref 2, .int v1] D (.inl (some (.int r))) D := am_Yof (mi := am_m154) (lc := [.ref 2, .int v1, am_dead]) pg154 (Nat.le_of_ble_eq_true rfl) (am_rc1 (ci := 0) rfl rfl rfl rfl rfl) rfl (fun Q hQ => m154_w (Nat.le_refl _) h hQ)
theorem r156_0 : am_at 156 0 = some (.iload_n 1, 1, [1]) := by decide +kernel
theorem r156_1 : am_at 156 1 = some (.ifCond .ne (10), 3, [11]) := by decide +kernel
theorem r156_4 : am_at 156 4 = some (.aload_n 0, 1, [0]) := by decide +kernel
theorem r156_5 : am_at 156 5 = some (.getfield 24, 3, [0, 5, 0, 69]) := by decide +kernel
theorem r156_8 : am_at 156 8 = some (.goto (7), 3, [15]) := by decide +kernel
theorem r156_11 : am_at 156 11 = some (.aload_n 0, 1, [0]) := by decide +kernel
theorem r156_12 : am_at 156 12 = some (.getfield 28, 3, [0, 6, 0, 70]) := by decide +kernel
theorem r156_15 : am_at 156 15 = some (.ireturn, 1, []) := by decide +kernel
theorem rt156 : am_rtt 156 = some (some .int) := by decide +kernel
set_option maxRecDepth 100000 in
theorem pg156 : am_pg[156]? = some am_m156 := rfl
theorem m156_w {d mc ms : Nat} {D : am_D} {v1 : Int32} {Q : am_O → am_AH → Prop} (hd : 1 ≤ d) {r : Int32} (h : m156 D v1 = r) (hQ : Q (.inl (some (.int r))) (am_mk D)) : am_X xs L 156 d mc ms 0 [.ref 2, .int v1] [] (am_mk D) 0 0 Q := by
  unfold m156 at h
  refine x_ld (v := .int v1) r156_0 rfl rfl rfl ?_
  rcases am_ifE h with ⟨c1, h⟩ | ⟨c1, h⟩
  · refine x_ifneT r156_1 c1 rfl ?_
    refine x_ld (v := .ref 2) r156_4 rfl rfl rfl ?_
    refine y_gf (cd := 0) (v := .int (D.1 2 5)) r156_5 rfl rfl rfl ?_
    refine x_goto r156_8 ?_
    subst h
    exact x_ret (ret := some .int) (C := True) (v := some (.int _)) r156_15 rt156 rfl rfl rfl rfl rfl rfl rfl rfl trivial hQ
  · refine x_ifneF r156_1 c1 ?_
    refine x_ld (v := .ref 2) r156_11 rfl rfl rfl ?_
    refine y_gf (cd := 0) (v := .int (D.1 2 6)) r156_12 rfl rfl rfl ?_
    subst h
    exact x_ret (ret := some .int) (C := True) (v := some (.int _)) r156_15 rt156 rfl rfl rfl rfl rfl rfl rfl rfl trivial hQ
theorem m156_ok {D : am_D} {v1 : Int32} {r : Int32} (h : m156 D v1 = r) : am_Y xs L 156 1 0 0 [.ref 2, .int v1] D (.inl (some (.int r))) D := am_Yof (mi := am_m156) (lc := [.ref 2, .int v1]) pg156 (Nat.le_of_ble_eq_true rfl) (am_rc1 (ci := 0) rfl rfl rfl rfl rfl) rfl (fun Q hQ => m156_w (Nat.le_refl _) h hQ)
theorem r165_0 : am_at 165 0 = some (.aload_n 0, 1, [0]) := by decide +kernel
theorem r165_1 : am_at 165 1 = some (.getfield 9, 3, [0, 0, 3, 59]) := by decide +kernel
theorem r165_4 : am_at 165 4 = some (.iload_n 1, 1, [1]) := by decide +kernel
theorem r165_5 : am_at 165 5 = some (.aload_n 0, 1, [0]) := by decide +kernel
theorem r165_6 : am_at 165 6 = some (.getfield 9, 3, [0, 0, 3, 59]) := by decide +kernel
theorem r165_9 : am_at 165 9 = some (.iload_n 1, 1, [1]) := by decide +kernel
theorem r165_10 : am_at 165 10 = some (.iconst (1), 1, []) := by decide +kernel
theorem r165_11 : am_at 165 11 = some (.isub, 1, []) := by decide +kernel
theorem r165_12 : am_at 165 12 = some (.invokestatic 40, 3, [180, 2, 401, 0]) := by decide +kernel
theorem r165_15 : am_at 165 15 = some (.invokestatic 80, 3, [181, 3, 773, 0]) := by decide +kernel
theorem r165_18 : am_at 165 18 = some (.aload_n 0, 1, [0]) := by decide +kernel
theorem r165_19 : am_at 165 19 = some (.getfield 15, 3, [0, 1, 3, 61]) := by decide +kernel
theorem r165_22 : am_at 165 22 = some (.iload_n 1, 1, [1]) := by decide +kernel
theorem r165_23 : am_at 165 23 = some (.aload_n 0, 1, [0]) := by decide +kernel
theorem r165_24 : am_at 165 24 = some (.getfield 15, 3, [0, 1, 3, 61]) := by decide +kernel
theorem r165_27 : am_at 165 27 = some (.iload_n 1, 1, [1]) := by decide +kernel
theorem r165_28 : am_at 165 28 = some (.iconst (1), 1, []) := by decide +kernel
theorem r165_29 : am_at 165 29 = some (.isub, 1, []) := by decide +kernel
theorem r165_30 : am_at 165 30 = some (.invokestatic 40, 3, [180, 2, 401, 0]) := by decide +kernel
theorem r165_33 : am_at 165 33 = some (.invokestatic 80, 3, [181, 3, 773, 0]) := by decide +kernel
theorem r165_36 : am_at 165 36 = some (.aload_n 0, 1, [0]) := by decide +kernel
theorem r165_37 : am_at 165 37 = some (.getfield 18, 3, [0, 2, 3, 63]) := by decide +kernel
theorem r165_40 : am_at 165 40 = some (.iload_n 1, 1, [1]) := by decide +kernel
theorem r165_41 : am_at 165 41 = some (.aload_n 0, 1, [0]) := by decide +kernel
theorem r165_42 : am_at 165 42 = some (.getfield 18, 3, [0, 2, 3, 63]) := by decide +kernel
theorem r165_45 : am_at 165 45 = some (.iload_n 1, 1, [1]) := by decide +kernel
theorem r165_46 : am_at 165 46 = some (.iconst (1), 1, []) := by decide +kernel
theorem r165_47 : am_at 165 47 = some (.isub, 1, []) := by decide +kernel
theorem r165_48 : am_at 165 48 = some (.invokestatic 40, 3, [180, 2, 401, 0]) := by decide +kernel
theorem r165_51 : am_at 165 51 = some (.invokestatic 80, 3, [181, 3, 773, 0]) := by decide +kernel
theorem r165_54 : am_at 165 54 = some (.aload_n 0, 1, [0]) := by decide +kernel
theorem r165_55 : am_at 165 55 = some (.getfield 21, 3, [0, 3, 3, 65]) := by decide +kernel
theorem r165_58 : am_at 165 58 = some (.iload_n 1, 1, [1]) := by decide +kernel
theorem r165_59 : am_at 165 59 = some (.aload_n 0, 1, [0]) := by decide +kernel
theorem r165_60 : am_at 165 60 = some (.getfield 21, 3, [0, 3, 3, 65]) := by decide +kernel
theorem r165_63 : am_at 165 63 = some (.iload_n 1, 1, [1]) := by decide +kernel
theorem r165_64 : am_at 165 64 = some (.iconst (1), 1, []) := by decide +kernel
theorem r165_65 : am_at 165 65 = some (.isub, 1, []) := by decide +kernel
theorem r165_66 : am_at 165 66 = some (.invokestatic 40, 3, [180, 2, 401, 0]) := by decide +kernel
theorem r165_69 : am_at 165 69 = some (.invokestatic 80, 3, [181, 3, 773, 0]) := by decide +kernel
theorem r165_72 : am_at 165 72 = some (.return_, 1, []) := by decide +kernel
theorem rt165 : am_rtt 165 = some (none) := by decide +kernel
set_option maxRecDepth 100000 in
theorem pg165 : am_pg[165]? = some am_m165 := rfl
theorem m165_w {d mc ms : Nat} {D : am_D} {v1 : Int32} {Q : am_O → am_AH → Prop} (hd : 2 ≤ d) {r : am_D} (h : m165 D v1 = r) (hQ : Q (.inl none) (am_mk r)) : am_X xs L 165 d mc ms 0 [.ref 2, .int v1] [] (am_mk D) 0 0 Q := by
  unfold m165 at h
  refine x_ld (v := .ref 2) r165_0 rfl rfl rfl ?_
  refine y_gf (cd := 5) (v := .ref 3) r165_1 rfl rfl rfl ?_
  refine x_ld (v := .int v1) r165_4 rfl rfl rfl ?_
  refine x_ld (v := .ref 2) r165_5 rfl rfl rfl ?_
  refine y_gf (cd := 5) (v := .ref 3) r165_6 rfl rfl rfl ?_
  refine x_ld (v := .int v1) r165_9 rfl rfl rfl ?_
  refine x_ic (v := 1) r165_10 rfl rfl ?_
  refine x_ar r165_11 rfl trivial rfl ?_
  refine x_call1 (as := [.ref 3, .int (v1 - (1 : Int32))]) (rest := [.int v1, .ref 3]) r165_12 rfl rfl rfl (by decide) (Nat.le_of_ble_eq_true rfl) (am_rows_at (n := 28) rfl (by decide)) (Nat.le_trans (by decide) hd) (Nat.zero_le _) (Nat.zero_le _) rfl ?_
  obtain ⟨D1, e2, h⟩ := am_ltE h
  refine x_call0 (as := [.ref 3, .int v1, .int (am_rat (D.1 3) 28 (v1 - (1 : Int32)))]) (rest := []) r165_15 rfl rfl rfl (by decide) (Nat.le_of_ble_eq_true rfl) (am_rows_put (n := 28) rfl (by decide) e2) (Nat.le_trans (by decide) hd) (Nat.zero_le _) (Nat.zero_le _) rfl ?_
  refine x_ld (v := .ref 2) r165_18 rfl rfl rfl ?_
  refine y_gf (cd := 6) (v := .ref 4) r165_19 rfl rfl rfl ?_
  refine x_ld (v := .int v1) r165_22 rfl rfl rfl ?_
  refine x_ld (v := .ref 2) r165_23 rfl rfl rfl ?_
  refine y_gf (cd := 6) (v := .ref 4) r165_24 rfl rfl rfl ?_
  refine x_ld (v := .int v1) r165_27 rfl rfl rfl ?_
  refine x_ic (v := 1) r165_28 rfl rfl ?_
  refine x_ar r165_29 rfl trivial rfl ?_
  refine x_call1 (as := [.ref 4, .int (v1 - (1 : Int32))]) (rest := [.int v1, .ref 4]) r165_30 rfl rfl rfl (by decide) (Nat.le_of_ble_eq_true rfl) (am_rows_at (n := 28) rfl (by decide)) (Nat.le_trans (by decide) hd) (Nat.zero_le _) (Nat.zero_le _) rfl ?_
  obtain ⟨D3, e4, h⟩ := am_ltE h
  refine x_call0 (as := [.ref 4, .int v1, .int (am_rat (D1.1 4) 28 (v1 - (1 : Int32)))]) (rest := []) r165_33 rfl rfl rfl (by decide) (Nat.le_of_ble_eq_true rfl) (am_rows_put (n := 28) rfl (by decide) e4) (Nat.le_trans (by decide) hd) (Nat.zero_le _) (Nat.zero_le _) rfl ?_
  refine x_ld (v := .ref 2) r165_36 rfl rfl rfl ?_
  refine y_gf (cd := 7) (v := .ref 5) r165_37 rfl rfl rfl ?_
  refine x_ld (v := .int v1) r165_40 rfl rfl rfl ?_
  refine x_ld (v := .ref 2) r165_41 rfl rfl rfl ?_
  refine y_gf (cd := 7) (v := .ref 5) r165_42 rfl rfl rfl ?_
  refine x_ld (v := .int v1) r165_45 rfl rfl rfl ?_
  refine x_ic (v := 1) r165_46 rfl rfl ?_
  refine x_ar r165_47 rfl trivial rfl ?_
  refine x_call1 (as := [.ref 5, .int (v1 - (1 : Int32))]) (rest := [.int v1, .ref 5]) r165_48 rfl rfl rfl (by decide) (Nat.le_of_ble_eq_true rfl) (am_rows_at (n := 28) rfl (by decide)) (Nat.le_trans (by decide) hd) (Nat.zero_le _) (Nat.zero_le _) rfl ?_
  obtain ⟨D5, e6, h⟩ := am_ltE h
  refine x_call0 (as := [.ref 5, .int v1, .int (am_rat (D3.1 5) 28 (v1 - (1 : Int32)))]) (rest := []) r165_51 rfl rfl rfl (by decide) (Nat.le_of_ble_eq_true rfl) (am_rows_put (n := 28) rfl (by decide) e6) (Nat.le_trans (by decide) hd) (Nat.zero_le _) (Nat.zero_le _) rfl ?_
  refine x_ld (v := .ref 2) r165_54 rfl rfl rfl ?_
  refine y_gf (cd := 8) (v := .ref 6) r165_55 rfl rfl rfl ?_
  refine x_ld (v := .int v1) r165_58 rfl rfl rfl ?_
  refine x_ld (v := .ref 2) r165_59 rfl rfl rfl ?_
  refine y_gf (cd := 8) (v := .ref 6) r165_60 rfl rfl rfl ?_
  refine x_ld (v := .int v1) r165_63 rfl rfl rfl ?_
  refine x_ic (v := 1) r165_64 rfl rfl ?_
  refine x_ar r165_65 rfl trivial rfl ?_
  refine x_call1 (as := [.ref 6, .int (v1 - (1 : Int32))]) (rest := [.int v1, .ref 6]) r165_66 rfl rfl rfl (by decide) (Nat.le_of_ble_eq_true rfl) (am_rows_at (n := 28) rfl (by decide)) (Nat.le_trans (by decide) hd) (Nat.zero_le _) (Nat.zero_le _) rfl ?_
  obtain ⟨D7, e8, h⟩ := am_ltE h
  refine x_call0 (as := [.ref 6, .int v1, .int (am_rat (D5.1 6) 28 (v1 - (1 : Int32)))]) (rest := []) r165_69 rfl rfl rfl (by decide) (Nat.le_of_ble_eq_true rfl) (am_rows_put (n := 28) rfl (by decide) e8) (Nat.le_trans (by decide) hd) (Nat.zero_le _) (Nat.zero_le _) rfl ?_
  subst h
  exact x_ret (ret := none) (C := True) (v := none) r165_72 rt165 rfl rfl rfl rfl rfl rfl rfl rfl trivial hQ
theorem m165_ok {D : am_D} {v1 : Int32} {r : am_D} (h : m165 D v1 = r) : am_Y xs L 165 2 0 0 [.ref 2, .int v1] D (.inl none) r := am_Yof (mi := am_m165) (lc := [.ref 2, .int v1]) pg165 (Nat.le_of_ble_eq_true rfl) (am_rc1 (ci := 0) rfl rfl rfl rfl rfl) rfl (fun Q hQ => m165_w (Nat.le_refl _) h hQ)
theorem r166_0 : am_at 166 0 = some (.iload_n 0, 1, [0]) := by decide +kernel
theorem r166_1 : am_at 166 1 = some (.ifCond .ne (7), 3, [8]) := by decide +kernel
theorem r166_4 : am_at 166 4 = some (.iconst (1), 1, []) := by decide +kernel
theorem r166_5 : am_at 166 5 = some (.goto (4), 3, [9]) := by decide +kernel
theorem r166_8 : am_at 166 8 = some (.iconst (0), 1, []) := by decide +kernel
theorem r166_9 : am_at 166 9 = some (.ireturn, 1, []) := by decide +kernel
theorem rt166 : am_rtt 166 = some (some .int) := by decide +kernel
set_option maxRecDepth 100000 in
theorem pg166 : am_pg[166]? = some am_m166 := rfl
theorem m166_w {d mc ms : Nat} {D : am_D} {v0 : Int32} {Q : am_O → am_AH → Prop} (hd : 1 ≤ d) {r : Int32} (h : m166 v0 = r) (hQ : Q (.inl (some (.int r))) (am_mk D)) : am_X xs L 166 d mc ms 0 [.int v0] [] (am_mk D) 0 0 Q := by
  unfold m166 at h
  refine x_ld (v := .int v0) r166_0 rfl rfl rfl ?_
  rcases am_ifE h with ⟨c1, h⟩ | ⟨c1, h⟩
  · refine x_ifneT r166_1 c1 rfl ?_
    refine x_ic (v := 1) r166_4 rfl rfl ?_
    refine x_goto r166_5 ?_
    subst h
    exact x_ret (ret := some .int) (C := True) (v := some (.int _)) r166_9 rt166 rfl rfl rfl rfl rfl rfl rfl rfl trivial hQ
  · refine x_ifneF r166_1 c1 ?_
    refine x_ic (v := 0) r166_8 rfl rfl ?_
    subst h
    exact x_ret (ret := some .int) (C := True) (v := some (.int _)) r166_9 rt166 rfl rfl rfl rfl rfl rfl rfl rfl trivial hQ
theorem m166_ok {D : am_D} {v0 : Int32} {r : Int32} (h : m166 v0 = r) : am_Y xs L 166 1 0 0 [.int v0] D (.inl (some (.int r))) D := am_Yof (mi := am_m166) (lc := [.int v0]) pg166 (Nat.le_of_ble_eq_true rfl) (am_rc0 rfl) rfl (fun Q hQ => m166_w (Nat.le_refl _) h hQ)
theorem m152_26_2_w {d mc ms : Nat} {D : am_D} {Q : am_O → am_AH → Prop} (hd : 2 ≤ d) {r : am_D} (h : m152_26_2 D = r) (hQ : Q (.inl none) (am_mk r)) : am_X xs L 152 d mc ms 0 [.ref 26, .ref 2] [] (am_mk D) 0 0 Q := by
  unfold m152_26_2 at h
  refine x_ld (v := .ref 2) r152_0 rfl rfl rfl ?_
  refine y_gf (cd := 5) (v := .ref 3) r152_1 rfl rfl rfl ?_
  refine x_ld (v := .ref 26) r152_4 rfl rfl rfl ?_
  refine y_gf (cd := 29) (v := .ref 27) r152_5 rfl rfl rfl ?_
  obtain ⟨D1, e2, h⟩ := am_ltE h
  refine x_call0 (as := [.ref 3, .ref 27]) (rest := []) r152_8 rfl rfl rfl (by decide) (Nat.le_of_ble_eq_true rfl) (am_rows_copy (n := 28) (m := 28) rfl rfl (by decide) (by decide) e2) (Nat.le_trans (by decide) hd) (Nat.zero_le _) (Nat.zero_le _) rfl ?_
  refine x_ld (v := .ref 2) r152_11 rfl rfl rfl ?_
  refine y_gf (cd := 6) (v := .ref 4) r152_12 rfl rfl rfl ?_
  refine x_ld (v := .ref 26) r152_15 rfl rfl rfl ?_
  refine y_gf (cd := 30) (v := .ref 28) r152_16 rfl rfl rfl ?_
  obtain ⟨D3, e4, h⟩ := am_ltE h
  refine x_call0 (as := [.ref 4, .ref 28]) (rest := []) r152_19 rfl rfl rfl (by decide) (Nat.le_of_ble_eq_true rfl) (am_rows_copy (n := 28) (m := 28) rfl rfl (by decide) (by decide) e4) (Nat.le_trans (by decide) hd) (Nat.zero_le _) (Nat.zero_le _) rfl ?_
  refine x_ld (v := .ref 2) r152_22 rfl rfl rfl ?_
  refine y_gf (cd := 7) (v := .ref 5) r152_23 rfl rfl rfl ?_
  refine x_ld (v := .ref 26) r152_26 rfl rfl rfl ?_
  refine y_gf (cd := 31) (v := .ref 29) r152_27 rfl rfl rfl ?_
  obtain ⟨D5, e6, h⟩ := am_ltE h
  refine x_call0 (as := [.ref 5, .ref 29]) (rest := []) r152_30 rfl rfl rfl (by decide) (Nat.le_of_ble_eq_true rfl) (am_rows_copy (n := 28) (m := 28) rfl rfl (by decide) (by decide) e6) (Nat.le_trans (by decide) hd) (Nat.zero_le _) (Nat.zero_le _) rfl ?_
  refine x_ld (v := .ref 2) r152_33 rfl rfl rfl ?_
  refine y_gf (cd := 8) (v := .ref 6) r152_34 rfl rfl rfl ?_
  refine x_ld (v := .ref 26) r152_37 rfl rfl rfl ?_
  refine y_gf (cd := 32) (v := .ref 30) r152_38 rfl rfl rfl ?_
  obtain ⟨D7, e8, h⟩ := am_ltE h
  refine x_call0 (as := [.ref 6, .ref 30]) (rest := []) r152_41 rfl rfl rfl (by decide) (Nat.le_of_ble_eq_true rfl) (am_rows_copy (n := 28) (m := 28) rfl rfl (by decide) (by decide) e8) (Nat.le_trans (by decide) hd) (Nat.zero_le _) (Nat.zero_le _) rfl ?_
  refine x_ld (v := .ref 26) r152_44 rfl rfl rfl ?_
  refine x_ld (v := .ref 2) r152_45 rfl rfl rfl ?_
  refine y_gf (cd := 0) (v := .int (D7.1 2 4)) r152_46 rfl rfl rfl ?_
  obtain ⟨D9, e10, h⟩ := am_ltE h
  refine y_pf0 r152_49 rfl e10 rfl ?_
  refine x_ld (v := .ref 26) r152_52 rfl rfl rfl ?_
  refine x_ld (v := .ref 2) r152_53 rfl rfl rfl ?_
  refine y_gf (cd := 0) (v := .int (D9.1 2 5)) r152_54 rfl rfl rfl ?_
  obtain ⟨D11, e12, h⟩ := am_ltE h
  refine y_pf0 r152_57 rfl e12 rfl ?_
  refine x_ld (v := .ref 26) r152_60 rfl rfl rfl ?_
  refine x_ld (v := .ref 2) r152_61 rfl rfl rfl ?_
  refine y_gf (cd := 0) (v := .int (D11.1 2 6)) r152_62 rfl rfl rfl ?_
  obtain ⟨D13, e14, h⟩ := am_ltE h
  refine y_pf0 r152_65 rfl e14 rfl ?_
  subst h
  exact x_ret (ret := none) (C := True) (v := none) r152_68 rt152 rfl rfl rfl rfl rfl rfl rfl rfl trivial hQ
theorem m152_26_2_ok {D : am_D} {r : am_D} (h : m152_26_2 D = r) : am_Y xs L 152 2 0 0 [.ref 26, .ref 2] D (.inl none) r := am_Yof (mi := am_m152) (lc := [.ref 26, .ref 2]) pg152 (Nat.le_of_ble_eq_true rfl) (am_rc1 (ci := 0) rfl rfl rfl rfl rfl) rfl (fun Q hQ => m152_26_2_w (Nat.le_refl _) h hQ)
theorem m202_25_1_w {d mc ms : Nat} {D : am_D} {Q : am_O → am_AH → Prop} (hd : 3 ≤ d) {r : am_D} (h : m202_25_1 D = r) (hQ : Q (.inl none) (am_mk r)) : am_X xs L 202 d mc ms 0 [.ref 25, .ref 1] [] (am_mk D) 0 0 Q := by
  unfold m202_25_1 at h
  refine x_ld (v := .ref 25) r202_0 rfl rfl rfl ?_
  refine y_gf (cd := 28) (v := .ref 26) r202_1 rfl rfl rfl ?_
  refine x_ld (v := .ref 1) r202_4 rfl rfl rfl ?_
  refine y_gf (cd := 4) (v := .ref 2) r202_5 rfl rfl rfl ?_
  obtain ⟨q1, h2, h⟩ := am_ltE h
  replace h2 := h2.symm
  refine x_call0 (as := [.ref 26, .ref 2]) (rest := []) r202_8 rfl rfl rfl (by decide) (Nat.le_of_ble_eq_true rfl) (m152_26_2_ok h2) (Nat.le_trans (by decide) hd) (Nat.zero_le _) (Nat.zero_le _) rfl ?_
  refine x_ld (v := .ref 1) r202_11 rfl rfl rfl ?_
  refine y_gf (cd := 9) (v := .ref 7) r202_12 rfl rfl rfl ?_
  refine x_ld (v := .ref 25) r202_15 rfl rfl rfl ?_
  refine y_gf (cd := 33) (v := .ref 31) r202_16 rfl rfl rfl ?_
  obtain ⟨D3, e4, h⟩ := am_ltE h
  refine x_call0 (as := [.ref 7, .ref 31]) (rest := []) r202_19 rfl rfl rfl (by decide) (Nat.le_of_ble_eq_true rfl) (am_rows_copy (n := 28) (m := 28) rfl rfl (by decide) (by decide) e4) (Nat.le_trans (by decide) hd) (Nat.zero_le _) (Nat.zero_le _) rfl ?_
  refine x_ld (v := .ref 1) r202_22 rfl rfl rfl ?_
  refine y_gf (cd := 10) (v := .ref 8) r202_23 rfl rfl rfl ?_
  refine x_ld (v := .ref 25) r202_26 rfl rfl rfl ?_
  refine y_gf (cd := 34) (v := .ref 32) r202_27 rfl rfl rfl ?_
  obtain ⟨D5, e6, h⟩ := am_ltE h
  refine x_call0 (as := [.ref 8, .ref 32]) (rest := []) r202_30 rfl rfl rfl (by decide) (Nat.le_of_ble_eq_true rfl) (am_rows_copy (n := 4) (m := 4) rfl rfl (by decide) (by decide) e6) (Nat.le_trans (by decide) hd) (Nat.zero_le _) (Nat.zero_le _) rfl ?_
  refine x_ld (v := .ref 1) r202_33 rfl rfl rfl ?_
  refine y_gf (cd := 11) (v := .ref 9) r202_34 rfl rfl rfl ?_
  refine x_ld (v := .ref 25) r202_37 rfl rfl rfl ?_
  refine y_gf (cd := 35) (v := .ref 33) r202_38 rfl rfl rfl ?_
  obtain ⟨D7, e8, h⟩ := am_ltE h
  refine x_call0 (as := [.ref 9, .ref 33]) (rest := []) r202_41 rfl rfl rfl (by decide) (Nat.le_of_ble_eq_true rfl) (am_rows_copy (n := 4) (m := 4) rfl rfl (by decide) (by decide) e8) (Nat.le_trans (by decide) hd) (Nat.zero_le _) (Nat.zero_le _) rfl ?_
  refine x_ld (v := .ref 1) r202_44 rfl rfl rfl ?_
  refine y_gf (cd := 12) (v := .ref 10) r202_45 rfl rfl rfl ?_
  refine x_ld (v := .ref 25) r202_48 rfl rfl rfl ?_
  refine y_gf (cd := 36) (v := .ref 34) r202_49 rfl rfl rfl ?_
  obtain ⟨D9, e10, h⟩ := am_ltE h
  refine x_call0 (as := [.ref 10, .ref 34]) (rest := []) r202_52 rfl rfl rfl (by decide) (Nat.le_of_ble_eq_true rfl) (am_rows_copy (n := 4) (m := 4) rfl rfl (by decide) (by decide) e10) (Nat.le_trans (by decide) hd) (Nat.zero_le _) (Nat.zero_le _) rfl ?_
  refine x_ld (v := .ref 1) r202_55 rfl rfl rfl ?_
  refine y_gf (cd := 13) (v := .ref 11) r202_56 rfl rfl rfl ?_
  refine x_ld (v := .ref 25) r202_59 rfl rfl rfl ?_
  refine y_gf (cd := 37) (v := .ref 35) r202_60 rfl rfl rfl ?_
  obtain ⟨D11, e12, h⟩ := am_ltE h
  refine x_call0 (as := [.ref 11, .ref 35]) (rest := []) r202_63 rfl rfl rfl (by decide) (Nat.le_of_ble_eq_true rfl) (am_rows_copy (n := 2) (m := 2) rfl rfl (by decide) (by decide) e12) (Nat.le_trans (by decide) hd) (Nat.zero_le _) (Nat.zero_le _) rfl ?_
  refine x_ld (v := .ref 25) r202_66 rfl rfl rfl ?_
  refine x_ld (v := .ref 1) r202_67 rfl rfl rfl ?_
  refine y_gf (cd := 0) (v := .int (D11.1 1 6)) r202_68 rfl rfl rfl ?_
  obtain ⟨D13, e14, h⟩ := am_ltE h
  refine y_pf0 r202_71 rfl e14 rfl ?_
  refine x_ld (v := .ref 25) r202_74 rfl rfl rfl ?_
  refine x_ld (v := .ref 1) r202_75 rfl rfl rfl ?_
  refine y_gf (cd := 0) (v := .int (D13.1 1 7)) r202_76 rfl rfl rfl ?_
  obtain ⟨D15, e16, h⟩ := am_ltE h
  refine y_pf0 r202_79 rfl e16 rfl ?_
  refine x_ld (v := .ref 25) r202_82 rfl rfl rfl ?_
  refine x_ld (v := .ref 1) r202_83 rfl rfl rfl ?_
  refine y_gf (cd := 0) (v := .int (D15.1 1 8)) r202_84 rfl rfl rfl ?_
  obtain ⟨D17, e18, h⟩ := am_ltE h
  refine y_pf0 r202_87 rfl e18 rfl ?_
  refine x_ld (v := .ref 25) r202_90 rfl rfl rfl ?_
  refine x_ld (v := .ref 1) r202_91 rfl rfl rfl ?_
  refine y_gf (cd := 0) (v := .int (D17.1 1 9)) r202_92 rfl rfl rfl ?_
  obtain ⟨D19, e20, h⟩ := am_ltE h
  refine y_pf0 r202_95 rfl e20 rfl ?_
  refine x_ld (v := .ref 25) r202_98 rfl rfl rfl ?_
  refine x_ld (v := .ref 1) r202_99 rfl rfl rfl ?_
  refine y_gf (cd := 0) (v := .int (D19.1 1 10)) r202_100 rfl rfl rfl ?_
  obtain ⟨D21, e22, h⟩ := am_ltE h
  refine y_pf0 r202_103 rfl e22 rfl ?_
  refine x_ld (v := .ref 25) r202_106 rfl rfl rfl ?_
  refine x_ld (v := .ref 1) r202_107 rfl rfl rfl ?_
  refine y_gf (cd := 0) (v := .int (D21.1 1 11)) r202_108 rfl rfl rfl ?_
  obtain ⟨D23, e24, h⟩ := am_ltE h
  refine y_pf0 r202_111 rfl e24 rfl ?_
  refine x_ld (v := .ref 25) r202_114 rfl rfl rfl ?_
  refine x_ld (v := .ref 1) r202_115 rfl rfl rfl ?_
  refine y_gf (cd := 0) (v := .int (D23.1 1 12)) r202_116 rfl rfl rfl ?_
  obtain ⟨D25, e26, h⟩ := am_ltE h
  refine y_pf0 r202_119 rfl e26 rfl ?_
  refine x_ld (v := .ref 25) r202_122 rfl rfl rfl ?_
  refine x_ld (v := .ref 1) r202_123 rfl rfl rfl ?_
  refine y_gf (cd := 0) (v := .int (D25.1 1 13)) r202_124 rfl rfl rfl ?_
  obtain ⟨D27, e28, h⟩ := am_ltE h
  refine y_pf0 r202_127 rfl e28 rfl ?_
  refine x_ld (v := .ref 25) r202_130 rfl rfl rfl ?_
  refine x_ld (v := .ref 1) r202_131 rfl rfl rfl ?_
  refine y_gf (cd := 0) (v := .int (D27.1 1 14)) r202_132 rfl rfl rfl ?_
  obtain ⟨D29, e30, h⟩ := am_ltE h
  refine y_pf0 r202_135 rfl e30 rfl ?_
  refine x_ld (v := .ref 25) r202_138 rfl rfl rfl ?_
  refine x_ld (v := .ref 1) r202_139 rfl rfl rfl ?_
  refine y_gf (cd := 0) (v := .int (D29.1 1 15)) r202_140 rfl rfl rfl ?_
  obtain ⟨D31, e32, h⟩ := am_ltE h
  refine y_pf0 r202_143 rfl e32 rfl ?_
  subst h
  exact x_ret (ret := none) (C := True) (v := none) r202_146 rt202 rfl rfl rfl rfl rfl rfl rfl rfl trivial hQ
theorem m202_25_1_ok {D : am_D} {r : am_D} (h : m202_25_1 D = r) : am_Y xs L 202 3 0 0 [.ref 25, .ref 1] D (.inl none) r := am_Yof (mi := am_m202) (lc := [.ref 25, .ref 1]) pg202 (Nat.le_of_ble_eq_true rfl) (am_rc1 (ci := 4) rfl rfl rfl rfl rfl) rfl (fun Q hQ => m202_25_1_w (Nat.le_refl _) h hQ)
theorem m152_37_2_w {d mc ms : Nat} {D : am_D} {Q : am_O → am_AH → Prop} (hd : 2 ≤ d) {r : am_D} (h : m152_37_2 D = r) (hQ : Q (.inl none) (am_mk r)) : am_X xs L 152 d mc ms 0 [.ref 37, .ref 2] [] (am_mk D) 0 0 Q := by
  unfold m152_37_2 at h
  refine x_ld (v := .ref 2) r152_0 rfl rfl rfl ?_
  refine y_gf (cd := 5) (v := .ref 3) r152_1 rfl rfl rfl ?_
  refine x_ld (v := .ref 37) r152_4 rfl rfl rfl ?_
  refine y_gf (cd := 40) (v := .ref 38) r152_5 rfl rfl rfl ?_
  obtain ⟨D1, e2, h⟩ := am_ltE h
  refine x_call0 (as := [.ref 3, .ref 38]) (rest := []) r152_8 rfl rfl rfl (by decide) (Nat.le_of_ble_eq_true rfl) (am_rows_copy (n := 28) (m := 28) rfl rfl (by decide) (by decide) e2) (Nat.le_trans (by decide) hd) (Nat.zero_le _) (Nat.zero_le _) rfl ?_
  refine x_ld (v := .ref 2) r152_11 rfl rfl rfl ?_
  refine y_gf (cd := 6) (v := .ref 4) r152_12 rfl rfl rfl ?_
  refine x_ld (v := .ref 37) r152_15 rfl rfl rfl ?_
  refine y_gf (cd := 41) (v := .ref 39) r152_16 rfl rfl rfl ?_
  obtain ⟨D3, e4, h⟩ := am_ltE h
  refine x_call0 (as := [.ref 4, .ref 39]) (rest := []) r152_19 rfl rfl rfl (by decide) (Nat.le_of_ble_eq_true rfl) (am_rows_copy (n := 28) (m := 28) rfl rfl (by decide) (by decide) e4) (Nat.le_trans (by decide) hd) (Nat.zero_le _) (Nat.zero_le _) rfl ?_
  refine x_ld (v := .ref 2) r152_22 rfl rfl rfl ?_
  refine y_gf (cd := 7) (v := .ref 5) r152_23 rfl rfl rfl ?_
  refine x_ld (v := .ref 37) r152_26 rfl rfl rfl ?_
  refine y_gf (cd := 42) (v := .ref 40) r152_27 rfl rfl rfl ?_
  obtain ⟨D5, e6, h⟩ := am_ltE h
  refine x_call0 (as := [.ref 5, .ref 40]) (rest := []) r152_30 rfl rfl rfl (by decide) (Nat.le_of_ble_eq_true rfl) (am_rows_copy (n := 28) (m := 28) rfl rfl (by decide) (by decide) e6) (Nat.le_trans (by decide) hd) (Nat.zero_le _) (Nat.zero_le _) rfl ?_
  refine x_ld (v := .ref 2) r152_33 rfl rfl rfl ?_
  refine y_gf (cd := 8) (v := .ref 6) r152_34 rfl rfl rfl ?_
  refine x_ld (v := .ref 37) r152_37 rfl rfl rfl ?_
  refine y_gf (cd := 43) (v := .ref 41) r152_38 rfl rfl rfl ?_
  obtain ⟨D7, e8, h⟩ := am_ltE h
  refine x_call0 (as := [.ref 6, .ref 41]) (rest := []) r152_41 rfl rfl rfl (by decide) (Nat.le_of_ble_eq_true rfl) (am_rows_copy (n := 28) (m := 28) rfl rfl (by decide) (by decide) e8) (Nat.le_trans (by decide) hd) (Nat.zero_le _) (Nat.zero_le _) rfl ?_
  refine x_ld (v := .ref 37) r152_44 rfl rfl rfl ?_
  refine x_ld (v := .ref 2) r152_45 rfl rfl rfl ?_
  refine y_gf (cd := 0) (v := .int (D7.1 2 4)) r152_46 rfl rfl rfl ?_
  obtain ⟨D9, e10, h⟩ := am_ltE h
  refine y_pf0 r152_49 rfl e10 rfl ?_
  refine x_ld (v := .ref 37) r152_52 rfl rfl rfl ?_
  refine x_ld (v := .ref 2) r152_53 rfl rfl rfl ?_
  refine y_gf (cd := 0) (v := .int (D9.1 2 5)) r152_54 rfl rfl rfl ?_
  obtain ⟨D11, e12, h⟩ := am_ltE h
  refine y_pf0 r152_57 rfl e12 rfl ?_
  refine x_ld (v := .ref 37) r152_60 rfl rfl rfl ?_
  refine x_ld (v := .ref 2) r152_61 rfl rfl rfl ?_
  refine y_gf (cd := 0) (v := .int (D11.1 2 6)) r152_62 rfl rfl rfl ?_
  obtain ⟨D13, e14, h⟩ := am_ltE h
  refine y_pf0 r152_65 rfl e14 rfl ?_
  subst h
  exact x_ret (ret := none) (C := True) (v := none) r152_68 rt152 rfl rfl rfl rfl rfl rfl rfl rfl trivial hQ
theorem m152_37_2_ok {D : am_D} {r : am_D} (h : m152_37_2 D = r) : am_Y xs L 152 2 0 0 [.ref 37, .ref 2] D (.inl none) r := am_Yof (mi := am_m152) (lc := [.ref 37, .ref 2]) pg152 (Nat.le_of_ble_eq_true rfl) (am_rc1 (ci := 0) rfl rfl rfl rfl rfl) rfl (fun Q hQ => m152_37_2_w (Nat.le_refl _) h hQ)
theorem m202_36_1_w {d mc ms : Nat} {D : am_D} {Q : am_O → am_AH → Prop} (hd : 3 ≤ d) {r : am_D} (h : m202_36_1 D = r) (hQ : Q (.inl none) (am_mk r)) : am_X xs L 202 d mc ms 0 [.ref 36, .ref 1] [] (am_mk D) 0 0 Q := by
  unfold m202_36_1 at h
  refine x_ld (v := .ref 36) r202_0 rfl rfl rfl ?_
  refine y_gf (cd := 39) (v := .ref 37) r202_1 rfl rfl rfl ?_
  refine x_ld (v := .ref 1) r202_4 rfl rfl rfl ?_
  refine y_gf (cd := 4) (v := .ref 2) r202_5 rfl rfl rfl ?_
  obtain ⟨q1, h2, h⟩ := am_ltE h
  replace h2 := h2.symm
  refine x_call0 (as := [.ref 37, .ref 2]) (rest := []) r202_8 rfl rfl rfl (by decide) (Nat.le_of_ble_eq_true rfl) (m152_37_2_ok h2) (Nat.le_trans (by decide) hd) (Nat.zero_le _) (Nat.zero_le _) rfl ?_
  refine x_ld (v := .ref 1) r202_11 rfl rfl rfl ?_
  refine y_gf (cd := 9) (v := .ref 7) r202_12 rfl rfl rfl ?_
  refine x_ld (v := .ref 36) r202_15 rfl rfl rfl ?_
  refine y_gf (cd := 44) (v := .ref 42) r202_16 rfl rfl rfl ?_
  obtain ⟨D3, e4, h⟩ := am_ltE h
  refine x_call0 (as := [.ref 7, .ref 42]) (rest := []) r202_19 rfl rfl rfl (by decide) (Nat.le_of_ble_eq_true rfl) (am_rows_copy (n := 28) (m := 28) rfl rfl (by decide) (by decide) e4) (Nat.le_trans (by decide) hd) (Nat.zero_le _) (Nat.zero_le _) rfl ?_
  refine x_ld (v := .ref 1) r202_22 rfl rfl rfl ?_
  refine y_gf (cd := 10) (v := .ref 8) r202_23 rfl rfl rfl ?_
  refine x_ld (v := .ref 36) r202_26 rfl rfl rfl ?_
  refine y_gf (cd := 45) (v := .ref 43) r202_27 rfl rfl rfl ?_
  obtain ⟨D5, e6, h⟩ := am_ltE h
  refine x_call0 (as := [.ref 8, .ref 43]) (rest := []) r202_30 rfl rfl rfl (by decide) (Nat.le_of_ble_eq_true rfl) (am_rows_copy (n := 4) (m := 4) rfl rfl (by decide) (by decide) e6) (Nat.le_trans (by decide) hd) (Nat.zero_le _) (Nat.zero_le _) rfl ?_
  refine x_ld (v := .ref 1) r202_33 rfl rfl rfl ?_
  refine y_gf (cd := 11) (v := .ref 9) r202_34 rfl rfl rfl ?_
  refine x_ld (v := .ref 36) r202_37 rfl rfl rfl ?_
  refine y_gf (cd := 46) (v := .ref 44) r202_38 rfl rfl rfl ?_
  obtain ⟨D7, e8, h⟩ := am_ltE h
  refine x_call0 (as := [.ref 9, .ref 44]) (rest := []) r202_41 rfl rfl rfl (by decide) (Nat.le_of_ble_eq_true rfl) (am_rows_copy (n := 4) (m := 4) rfl rfl (by decide) (by decide) e8) (Nat.le_trans (by decide) hd) (Nat.zero_le _) (Nat.zero_le _) rfl ?_
  refine x_ld (v := .ref 1) r202_44 rfl rfl rfl ?_
  refine y_gf (cd := 12) (v := .ref 10) r202_45 rfl rfl rfl ?_
  refine x_ld (v := .ref 36) r202_48 rfl rfl rfl ?_
  refine y_gf (cd := 47) (v := .ref 45) r202_49 rfl rfl rfl ?_
  obtain ⟨D9, e10, h⟩ := am_ltE h
  refine x_call0 (as := [.ref 10, .ref 45]) (rest := []) r202_52 rfl rfl rfl (by decide) (Nat.le_of_ble_eq_true rfl) (am_rows_copy (n := 4) (m := 4) rfl rfl (by decide) (by decide) e10) (Nat.le_trans (by decide) hd) (Nat.zero_le _) (Nat.zero_le _) rfl ?_
  refine x_ld (v := .ref 1) r202_55 rfl rfl rfl ?_
  refine y_gf (cd := 13) (v := .ref 11) r202_56 rfl rfl rfl ?_
  refine x_ld (v := .ref 36) r202_59 rfl rfl rfl ?_
  refine y_gf (cd := 48) (v := .ref 46) r202_60 rfl rfl rfl ?_
  obtain ⟨D11, e12, h⟩ := am_ltE h
  refine x_call0 (as := [.ref 11, .ref 46]) (rest := []) r202_63 rfl rfl rfl (by decide) (Nat.le_of_ble_eq_true rfl) (am_rows_copy (n := 2) (m := 2) rfl rfl (by decide) (by decide) e12) (Nat.le_trans (by decide) hd) (Nat.zero_le _) (Nat.zero_le _) rfl ?_
  refine x_ld (v := .ref 36) r202_66 rfl rfl rfl ?_
  refine x_ld (v := .ref 1) r202_67 rfl rfl rfl ?_
  refine y_gf (cd := 0) (v := .int (D11.1 1 6)) r202_68 rfl rfl rfl ?_
  obtain ⟨D13, e14, h⟩ := am_ltE h
  refine y_pf0 r202_71 rfl e14 rfl ?_
  refine x_ld (v := .ref 36) r202_74 rfl rfl rfl ?_
  refine x_ld (v := .ref 1) r202_75 rfl rfl rfl ?_
  refine y_gf (cd := 0) (v := .int (D13.1 1 7)) r202_76 rfl rfl rfl ?_
  obtain ⟨D15, e16, h⟩ := am_ltE h
  refine y_pf0 r202_79 rfl e16 rfl ?_
  refine x_ld (v := .ref 36) r202_82 rfl rfl rfl ?_
  refine x_ld (v := .ref 1) r202_83 rfl rfl rfl ?_
  refine y_gf (cd := 0) (v := .int (D15.1 1 8)) r202_84 rfl rfl rfl ?_
  obtain ⟨D17, e18, h⟩ := am_ltE h
  refine y_pf0 r202_87 rfl e18 rfl ?_
  refine x_ld (v := .ref 36) r202_90 rfl rfl rfl ?_
  refine x_ld (v := .ref 1) r202_91 rfl rfl rfl ?_
  refine y_gf (cd := 0) (v := .int (D17.1 1 9)) r202_92 rfl rfl rfl ?_
  obtain ⟨D19, e20, h⟩ := am_ltE h
  refine y_pf0 r202_95 rfl e20 rfl ?_
  refine x_ld (v := .ref 36) r202_98 rfl rfl rfl ?_
  refine x_ld (v := .ref 1) r202_99 rfl rfl rfl ?_
  refine y_gf (cd := 0) (v := .int (D19.1 1 10)) r202_100 rfl rfl rfl ?_
  obtain ⟨D21, e22, h⟩ := am_ltE h
  refine y_pf0 r202_103 rfl e22 rfl ?_
  refine x_ld (v := .ref 36) r202_106 rfl rfl rfl ?_
  refine x_ld (v := .ref 1) r202_107 rfl rfl rfl ?_
  refine y_gf (cd := 0) (v := .int (D21.1 1 11)) r202_108 rfl rfl rfl ?_
  obtain ⟨D23, e24, h⟩ := am_ltE h
  refine y_pf0 r202_111 rfl e24 rfl ?_
  refine x_ld (v := .ref 36) r202_114 rfl rfl rfl ?_
  refine x_ld (v := .ref 1) r202_115 rfl rfl rfl ?_
  refine y_gf (cd := 0) (v := .int (D23.1 1 12)) r202_116 rfl rfl rfl ?_
  obtain ⟨D25, e26, h⟩ := am_ltE h
  refine y_pf0 r202_119 rfl e26 rfl ?_
  refine x_ld (v := .ref 36) r202_122 rfl rfl rfl ?_
  refine x_ld (v := .ref 1) r202_123 rfl rfl rfl ?_
  refine y_gf (cd := 0) (v := .int (D25.1 1 13)) r202_124 rfl rfl rfl ?_
  obtain ⟨D27, e28, h⟩ := am_ltE h
  refine y_pf0 r202_127 rfl e28 rfl ?_
  refine x_ld (v := .ref 36) r202_130 rfl rfl rfl ?_
  refine x_ld (v := .ref 1) r202_131 rfl rfl rfl ?_
  refine y_gf (cd := 0) (v := .int (D27.1 1 14)) r202_132 rfl rfl rfl ?_
  obtain ⟨D29, e30, h⟩ := am_ltE h
  refine y_pf0 r202_135 rfl e30 rfl ?_
  refine x_ld (v := .ref 36) r202_138 rfl rfl rfl ?_
  refine x_ld (v := .ref 1) r202_139 rfl rfl rfl ?_
  refine y_gf (cd := 0) (v := .int (D29.1 1 15)) r202_140 rfl rfl rfl ?_
  obtain ⟨D31, e32, h⟩ := am_ltE h
  refine y_pf0 r202_143 rfl e32 rfl ?_
  subst h
  exact x_ret (ret := none) (C := True) (v := none) r202_146 rt202 rfl rfl rfl rfl rfl rfl rfl rfl trivial hQ
theorem m202_36_1_ok {D : am_D} {r : am_D} (h : m202_36_1 D = r) : am_Y xs L 202 3 0 0 [.ref 36, .ref 1] D (.inl none) r := am_Yof (mi := am_m202) (lc := [.ref 36, .ref 1]) pg202 (Nat.le_of_ble_eq_true rfl) (am_rc1 (ci := 4) rfl rfl rfl rfl rfl) rfl (fun Q hQ => m202_36_1_w (Nat.le_refl _) h hQ)
theorem m152_48_2_w {d mc ms : Nat} {D : am_D} {Q : am_O → am_AH → Prop} (hd : 2 ≤ d) {r : am_D} (h : m152_48_2 D = r) (hQ : Q (.inl none) (am_mk r)) : am_X xs L 152 d mc ms 0 [.ref 48, .ref 2] [] (am_mk D) 0 0 Q := by
  unfold m152_48_2 at h
  refine x_ld (v := .ref 2) r152_0 rfl rfl rfl ?_
  refine y_gf (cd := 5) (v := .ref 3) r152_1 rfl rfl rfl ?_
  refine x_ld (v := .ref 48) r152_4 rfl rfl rfl ?_
  refine y_gf (cd := 51) (v := .ref 49) r152_5 rfl rfl rfl ?_
  obtain ⟨D1, e2, h⟩ := am_ltE h
  refine x_call0 (as := [.ref 3, .ref 49]) (rest := []) r152_8 rfl rfl rfl (by decide) (Nat.le_of_ble_eq_true rfl) (am_rows_copy (n := 28) (m := 28) rfl rfl (by decide) (by decide) e2) (Nat.le_trans (by decide) hd) (Nat.zero_le _) (Nat.zero_le _) rfl ?_
  refine x_ld (v := .ref 2) r152_11 rfl rfl rfl ?_
  refine y_gf (cd := 6) (v := .ref 4) r152_12 rfl rfl rfl ?_
  refine x_ld (v := .ref 48) r152_15 rfl rfl rfl ?_
  refine y_gf (cd := 52) (v := .ref 50) r152_16 rfl rfl rfl ?_
  obtain ⟨D3, e4, h⟩ := am_ltE h
  refine x_call0 (as := [.ref 4, .ref 50]) (rest := []) r152_19 rfl rfl rfl (by decide) (Nat.le_of_ble_eq_true rfl) (am_rows_copy (n := 28) (m := 28) rfl rfl (by decide) (by decide) e4) (Nat.le_trans (by decide) hd) (Nat.zero_le _) (Nat.zero_le _) rfl ?_
  refine x_ld (v := .ref 2) r152_22 rfl rfl rfl ?_
  refine y_gf (cd := 7) (v := .ref 5) r152_23 rfl rfl rfl ?_
  refine x_ld (v := .ref 48) r152_26 rfl rfl rfl ?_
  refine y_gf (cd := 53) (v := .ref 51) r152_27 rfl rfl rfl ?_
  obtain ⟨D5, e6, h⟩ := am_ltE h
  refine x_call0 (as := [.ref 5, .ref 51]) (rest := []) r152_30 rfl rfl rfl (by decide) (Nat.le_of_ble_eq_true rfl) (am_rows_copy (n := 28) (m := 28) rfl rfl (by decide) (by decide) e6) (Nat.le_trans (by decide) hd) (Nat.zero_le _) (Nat.zero_le _) rfl ?_
  refine x_ld (v := .ref 2) r152_33 rfl rfl rfl ?_
  refine y_gf (cd := 8) (v := .ref 6) r152_34 rfl rfl rfl ?_
  refine x_ld (v := .ref 48) r152_37 rfl rfl rfl ?_
  refine y_gf (cd := 54) (v := .ref 52) r152_38 rfl rfl rfl ?_
  obtain ⟨D7, e8, h⟩ := am_ltE h
  refine x_call0 (as := [.ref 6, .ref 52]) (rest := []) r152_41 rfl rfl rfl (by decide) (Nat.le_of_ble_eq_true rfl) (am_rows_copy (n := 28) (m := 28) rfl rfl (by decide) (by decide) e8) (Nat.le_trans (by decide) hd) (Nat.zero_le _) (Nat.zero_le _) rfl ?_
  refine x_ld (v := .ref 48) r152_44 rfl rfl rfl ?_
  refine x_ld (v := .ref 2) r152_45 rfl rfl rfl ?_
  refine y_gf (cd := 0) (v := .int (D7.1 2 4)) r152_46 rfl rfl rfl ?_
  obtain ⟨D9, e10, h⟩ := am_ltE h
  refine y_pf0 r152_49 rfl e10 rfl ?_
  refine x_ld (v := .ref 48) r152_52 rfl rfl rfl ?_
  refine x_ld (v := .ref 2) r152_53 rfl rfl rfl ?_
  refine y_gf (cd := 0) (v := .int (D9.1 2 5)) r152_54 rfl rfl rfl ?_
  obtain ⟨D11, e12, h⟩ := am_ltE h
  refine y_pf0 r152_57 rfl e12 rfl ?_
  refine x_ld (v := .ref 48) r152_60 rfl rfl rfl ?_
  refine x_ld (v := .ref 2) r152_61 rfl rfl rfl ?_
  refine y_gf (cd := 0) (v := .int (D11.1 2 6)) r152_62 rfl rfl rfl ?_
  obtain ⟨D13, e14, h⟩ := am_ltE h
  refine y_pf0 r152_65 rfl e14 rfl ?_
  subst h
  exact x_ret (ret := none) (C := True) (v := none) r152_68 rt152 rfl rfl rfl rfl rfl rfl rfl rfl trivial hQ
theorem m152_48_2_ok {D : am_D} {r : am_D} (h : m152_48_2 D = r) : am_Y xs L 152 2 0 0 [.ref 48, .ref 2] D (.inl none) r := am_Yof (mi := am_m152) (lc := [.ref 48, .ref 2]) pg152 (Nat.le_of_ble_eq_true rfl) (am_rc1 (ci := 0) rfl rfl rfl rfl rfl) rfl (fun Q hQ => m152_48_2_w (Nat.le_refl _) h hQ)
theorem m202_47_1_w {d mc ms : Nat} {D : am_D} {Q : am_O → am_AH → Prop} (hd : 3 ≤ d) {r : am_D} (h : m202_47_1 D = r) (hQ : Q (.inl none) (am_mk r)) : am_X xs L 202 d mc ms 0 [.ref 47, .ref 1] [] (am_mk D) 0 0 Q := by
  unfold m202_47_1 at h
  refine x_ld (v := .ref 47) r202_0 rfl rfl rfl ?_
  refine y_gf (cd := 50) (v := .ref 48) r202_1 rfl rfl rfl ?_
  refine x_ld (v := .ref 1) r202_4 rfl rfl rfl ?_
  refine y_gf (cd := 4) (v := .ref 2) r202_5 rfl rfl rfl ?_
  obtain ⟨q1, h2, h⟩ := am_ltE h
  replace h2 := h2.symm
  refine x_call0 (as := [.ref 48, .ref 2]) (rest := []) r202_8 rfl rfl rfl (by decide) (Nat.le_of_ble_eq_true rfl) (m152_48_2_ok h2) (Nat.le_trans (by decide) hd) (Nat.zero_le _) (Nat.zero_le _) rfl ?_
  refine x_ld (v := .ref 1) r202_11 rfl rfl rfl ?_
  refine y_gf (cd := 9) (v := .ref 7) r202_12 rfl rfl rfl ?_
  refine x_ld (v := .ref 47) r202_15 rfl rfl rfl ?_
  refine y_gf (cd := 55) (v := .ref 53) r202_16 rfl rfl rfl ?_
  obtain ⟨D3, e4, h⟩ := am_ltE h
  refine x_call0 (as := [.ref 7, .ref 53]) (rest := []) r202_19 rfl rfl rfl (by decide) (Nat.le_of_ble_eq_true rfl) (am_rows_copy (n := 28) (m := 28) rfl rfl (by decide) (by decide) e4) (Nat.le_trans (by decide) hd) (Nat.zero_le _) (Nat.zero_le _) rfl ?_
  refine x_ld (v := .ref 1) r202_22 rfl rfl rfl ?_
  refine y_gf (cd := 10) (v := .ref 8) r202_23 rfl rfl rfl ?_
  refine x_ld (v := .ref 47) r202_26 rfl rfl rfl ?_
  refine y_gf (cd := 56) (v := .ref 54) r202_27 rfl rfl rfl ?_
  obtain ⟨D5, e6, h⟩ := am_ltE h
  refine x_call0 (as := [.ref 8, .ref 54]) (rest := []) r202_30 rfl rfl rfl (by decide) (Nat.le_of_ble_eq_true rfl) (am_rows_copy (n := 4) (m := 4) rfl rfl (by decide) (by decide) e6) (Nat.le_trans (by decide) hd) (Nat.zero_le _) (Nat.zero_le _) rfl ?_
  refine x_ld (v := .ref 1) r202_33 rfl rfl rfl ?_
  refine y_gf (cd := 11) (v := .ref 9) r202_34 rfl rfl rfl ?_
  refine x_ld (v := .ref 47) r202_37 rfl rfl rfl ?_
  refine y_gf (cd := 57) (v := .ref 55) r202_38 rfl rfl rfl ?_
  obtain ⟨D7, e8, h⟩ := am_ltE h
  refine x_call0 (as := [.ref 9, .ref 55]) (rest := []) r202_41 rfl rfl rfl (by decide) (Nat.le_of_ble_eq_true rfl) (am_rows_copy (n := 4) (m := 4) rfl rfl (by decide) (by decide) e8) (Nat.le_trans (by decide) hd) (Nat.zero_le _) (Nat.zero_le _) rfl ?_
  refine x_ld (v := .ref 1) r202_44 rfl rfl rfl ?_
  refine y_gf (cd := 12) (v := .ref 10) r202_45 rfl rfl rfl ?_
  refine x_ld (v := .ref 47) r202_48 rfl rfl rfl ?_
  refine y_gf (cd := 58) (v := .ref 56) r202_49 rfl rfl rfl ?_
  obtain ⟨D9, e10, h⟩ := am_ltE h
  refine x_call0 (as := [.ref 10, .ref 56]) (rest := []) r202_52 rfl rfl rfl (by decide) (Nat.le_of_ble_eq_true rfl) (am_rows_copy (n := 4) (m := 4) rfl rfl (by decide) (by decide) e10) (Nat.le_trans (by decide) hd) (Nat.zero_le _) (Nat.zero_le _) rfl ?_
  refine x_ld (v := .ref 1) r202_55 rfl rfl rfl ?_
  refine y_gf (cd := 13) (v := .ref 11) r202_56 rfl rfl rfl ?_
  refine x_ld (v := .ref 47) r202_59 rfl rfl rfl ?_
  refine y_gf (cd := 59) (v := .ref 57) r202_60 rfl rfl rfl ?_
  obtain ⟨D11, e12, h⟩ := am_ltE h
  refine x_call0 (as := [.ref 11, .ref 57]) (rest := []) r202_63 rfl rfl rfl (by decide) (Nat.le_of_ble_eq_true rfl) (am_rows_copy (n := 2) (m := 2) rfl rfl (by decide) (by decide) e12) (Nat.le_trans (by decide) hd) (Nat.zero_le _) (Nat.zero_le _) rfl ?_
  refine x_ld (v := .ref 47) r202_66 rfl rfl rfl ?_
  refine x_ld (v := .ref 1) r202_67 rfl rfl rfl ?_
  refine y_gf (cd := 0) (v := .int (D11.1 1 6)) r202_68 rfl rfl rfl ?_
  obtain ⟨D13, e14, h⟩ := am_ltE h
  refine y_pf0 r202_71 rfl e14 rfl ?_
  refine x_ld (v := .ref 47) r202_74 rfl rfl rfl ?_
  refine x_ld (v := .ref 1) r202_75 rfl rfl rfl ?_
  refine y_gf (cd := 0) (v := .int (D13.1 1 7)) r202_76 rfl rfl rfl ?_
  obtain ⟨D15, e16, h⟩ := am_ltE h
  refine y_pf0 r202_79 rfl e16 rfl ?_
  refine x_ld (v := .ref 47) r202_82 rfl rfl rfl ?_
  refine x_ld (v := .ref 1) r202_83 rfl rfl rfl ?_
  refine y_gf (cd := 0) (v := .int (D15.1 1 8)) r202_84 rfl rfl rfl ?_
  obtain ⟨D17, e18, h⟩ := am_ltE h
  refine y_pf0 r202_87 rfl e18 rfl ?_
  refine x_ld (v := .ref 47) r202_90 rfl rfl rfl ?_
  refine x_ld (v := .ref 1) r202_91 rfl rfl rfl ?_
  refine y_gf (cd := 0) (v := .int (D17.1 1 9)) r202_92 rfl rfl rfl ?_
  obtain ⟨D19, e20, h⟩ := am_ltE h
  refine y_pf0 r202_95 rfl e20 rfl ?_
  refine x_ld (v := .ref 47) r202_98 rfl rfl rfl ?_
  refine x_ld (v := .ref 1) r202_99 rfl rfl rfl ?_
  refine y_gf (cd := 0) (v := .int (D19.1 1 10)) r202_100 rfl rfl rfl ?_
  obtain ⟨D21, e22, h⟩ := am_ltE h
  refine y_pf0 r202_103 rfl e22 rfl ?_
  refine x_ld (v := .ref 47) r202_106 rfl rfl rfl ?_
  refine x_ld (v := .ref 1) r202_107 rfl rfl rfl ?_
  refine y_gf (cd := 0) (v := .int (D21.1 1 11)) r202_108 rfl rfl rfl ?_
  obtain ⟨D23, e24, h⟩ := am_ltE h
  refine y_pf0 r202_111 rfl e24 rfl ?_
  refine x_ld (v := .ref 47) r202_114 rfl rfl rfl ?_
  refine x_ld (v := .ref 1) r202_115 rfl rfl rfl ?_
  refine y_gf (cd := 0) (v := .int (D23.1 1 12)) r202_116 rfl rfl rfl ?_
  obtain ⟨D25, e26, h⟩ := am_ltE h
  refine y_pf0 r202_119 rfl e26 rfl ?_
  refine x_ld (v := .ref 47) r202_122 rfl rfl rfl ?_
  refine x_ld (v := .ref 1) r202_123 rfl rfl rfl ?_
  refine y_gf (cd := 0) (v := .int (D25.1 1 13)) r202_124 rfl rfl rfl ?_
  obtain ⟨D27, e28, h⟩ := am_ltE h
  refine y_pf0 r202_127 rfl e28 rfl ?_
  refine x_ld (v := .ref 47) r202_130 rfl rfl rfl ?_
  refine x_ld (v := .ref 1) r202_131 rfl rfl rfl ?_
  refine y_gf (cd := 0) (v := .int (D27.1 1 14)) r202_132 rfl rfl rfl ?_
  obtain ⟨D29, e30, h⟩ := am_ltE h
  refine y_pf0 r202_135 rfl e30 rfl ?_
  refine x_ld (v := .ref 47) r202_138 rfl rfl rfl ?_
  refine x_ld (v := .ref 1) r202_139 rfl rfl rfl ?_
  refine y_gf (cd := 0) (v := .int (D29.1 1 15)) r202_140 rfl rfl rfl ?_
  obtain ⟨D31, e32, h⟩ := am_ltE h
  refine y_pf0 r202_143 rfl e32 rfl ?_
  subst h
  exact x_ret (ret := none) (C := True) (v := none) r202_146 rt202 rfl rfl rfl rfl rfl rfl rfl rfl trivial hQ
theorem m202_47_1_ok {D : am_D} {r : am_D} (h : m202_47_1 D = r) : am_Y xs L 202 3 0 0 [.ref 47, .ref 1] D (.inl none) r := am_Yof (mi := am_m202) (lc := [.ref 47, .ref 1]) pg202 (Nat.le_of_ble_eq_true rfl) (am_rc1 (ci := 4) rfl rfl rfl rfl rfl) rfl (fun Q hQ => m202_47_1_w (Nat.le_refl _) h hQ)
theorem m152_59_2_w {d mc ms : Nat} {D : am_D} {Q : am_O → am_AH → Prop} (hd : 2 ≤ d) {r : am_D} (h : m152_59_2 D = r) (hQ : Q (.inl none) (am_mk r)) : am_X xs L 152 d mc ms 0 [.ref 59, .ref 2] [] (am_mk D) 0 0 Q := by
  unfold m152_59_2 at h
  refine x_ld (v := .ref 2) r152_0 rfl rfl rfl ?_
  refine y_gf (cd := 5) (v := .ref 3) r152_1 rfl rfl rfl ?_
  refine x_ld (v := .ref 59) r152_4 rfl rfl rfl ?_
  refine y_gf (cd := 62) (v := .ref 60) r152_5 rfl rfl rfl ?_
  obtain ⟨D1, e2, h⟩ := am_ltE h
  refine x_call0 (as := [.ref 3, .ref 60]) (rest := []) r152_8 rfl rfl rfl (by decide) (Nat.le_of_ble_eq_true rfl) (am_rows_copy (n := 28) (m := 28) rfl rfl (by decide) (by decide) e2) (Nat.le_trans (by decide) hd) (Nat.zero_le _) (Nat.zero_le _) rfl ?_
  refine x_ld (v := .ref 2) r152_11 rfl rfl rfl ?_
  refine y_gf (cd := 6) (v := .ref 4) r152_12 rfl rfl rfl ?_
  refine x_ld (v := .ref 59) r152_15 rfl rfl rfl ?_
  refine y_gf (cd := 63) (v := .ref 61) r152_16 rfl rfl rfl ?_
  obtain ⟨D3, e4, h⟩ := am_ltE h
  refine x_call0 (as := [.ref 4, .ref 61]) (rest := []) r152_19 rfl rfl rfl (by decide) (Nat.le_of_ble_eq_true rfl) (am_rows_copy (n := 28) (m := 28) rfl rfl (by decide) (by decide) e4) (Nat.le_trans (by decide) hd) (Nat.zero_le _) (Nat.zero_le _) rfl ?_
  refine x_ld (v := .ref 2) r152_22 rfl rfl rfl ?_
  refine y_gf (cd := 7) (v := .ref 5) r152_23 rfl rfl rfl ?_
  refine x_ld (v := .ref 59) r152_26 rfl rfl rfl ?_
  refine y_gf (cd := 64) (v := .ref 62) r152_27 rfl rfl rfl ?_
  obtain ⟨D5, e6, h⟩ := am_ltE h
  refine x_call0 (as := [.ref 5, .ref 62]) (rest := []) r152_30 rfl rfl rfl (by decide) (Nat.le_of_ble_eq_true rfl) (am_rows_copy (n := 28) (m := 28) rfl rfl (by decide) (by decide) e6) (Nat.le_trans (by decide) hd) (Nat.zero_le _) (Nat.zero_le _) rfl ?_
  refine x_ld (v := .ref 2) r152_33 rfl rfl rfl ?_
  refine y_gf (cd := 8) (v := .ref 6) r152_34 rfl rfl rfl ?_
  refine x_ld (v := .ref 59) r152_37 rfl rfl rfl ?_
  refine y_gf (cd := 65) (v := .ref 63) r152_38 rfl rfl rfl ?_
  obtain ⟨D7, e8, h⟩ := am_ltE h
  refine x_call0 (as := [.ref 6, .ref 63]) (rest := []) r152_41 rfl rfl rfl (by decide) (Nat.le_of_ble_eq_true rfl) (am_rows_copy (n := 28) (m := 28) rfl rfl (by decide) (by decide) e8) (Nat.le_trans (by decide) hd) (Nat.zero_le _) (Nat.zero_le _) rfl ?_
  refine x_ld (v := .ref 59) r152_44 rfl rfl rfl ?_
  refine x_ld (v := .ref 2) r152_45 rfl rfl rfl ?_
  refine y_gf (cd := 0) (v := .int (D7.1 2 4)) r152_46 rfl rfl rfl ?_
  obtain ⟨D9, e10, h⟩ := am_ltE h
  refine y_pf0 r152_49 rfl e10 rfl ?_
  refine x_ld (v := .ref 59) r152_52 rfl rfl rfl ?_
  refine x_ld (v := .ref 2) r152_53 rfl rfl rfl ?_
  refine y_gf (cd := 0) (v := .int (D9.1 2 5)) r152_54 rfl rfl rfl ?_
  obtain ⟨D11, e12, h⟩ := am_ltE h
  refine y_pf0 r152_57 rfl e12 rfl ?_
  refine x_ld (v := .ref 59) r152_60 rfl rfl rfl ?_
  refine x_ld (v := .ref 2) r152_61 rfl rfl rfl ?_
  refine y_gf (cd := 0) (v := .int (D11.1 2 6)) r152_62 rfl rfl rfl ?_
  obtain ⟨D13, e14, h⟩ := am_ltE h
  refine y_pf0 r152_65 rfl e14 rfl ?_
  subst h
  exact x_ret (ret := none) (C := True) (v := none) r152_68 rt152 rfl rfl rfl rfl rfl rfl rfl rfl trivial hQ
theorem m152_59_2_ok {D : am_D} {r : am_D} (h : m152_59_2 D = r) : am_Y xs L 152 2 0 0 [.ref 59, .ref 2] D (.inl none) r := am_Yof (mi := am_m152) (lc := [.ref 59, .ref 2]) pg152 (Nat.le_of_ble_eq_true rfl) (am_rc1 (ci := 0) rfl rfl rfl rfl rfl) rfl (fun Q hQ => m152_59_2_w (Nat.le_refl _) h hQ)
theorem m202_58_1_w {d mc ms : Nat} {D : am_D} {Q : am_O → am_AH → Prop} (hd : 3 ≤ d) {r : am_D} (h : m202_58_1 D = r) (hQ : Q (.inl none) (am_mk r)) : am_X xs L 202 d mc ms 0 [.ref 58, .ref 1] [] (am_mk D) 0 0 Q := by
  unfold m202_58_1 at h
  refine x_ld (v := .ref 58) r202_0 rfl rfl rfl ?_
  refine y_gf (cd := 61) (v := .ref 59) r202_1 rfl rfl rfl ?_
  refine x_ld (v := .ref 1) r202_4 rfl rfl rfl ?_
  refine y_gf (cd := 4) (v := .ref 2) r202_5 rfl rfl rfl ?_
  obtain ⟨q1, h2, h⟩ := am_ltE h
  replace h2 := h2.symm
  refine x_call0 (as := [.ref 59, .ref 2]) (rest := []) r202_8 rfl rfl rfl (by decide) (Nat.le_of_ble_eq_true rfl) (m152_59_2_ok h2) (Nat.le_trans (by decide) hd) (Nat.zero_le _) (Nat.zero_le _) rfl ?_
  refine x_ld (v := .ref 1) r202_11 rfl rfl rfl ?_
  refine y_gf (cd := 9) (v := .ref 7) r202_12 rfl rfl rfl ?_
  refine x_ld (v := .ref 58) r202_15 rfl rfl rfl ?_
  refine y_gf (cd := 66) (v := .ref 64) r202_16 rfl rfl rfl ?_
  obtain ⟨D3, e4, h⟩ := am_ltE h
  refine x_call0 (as := [.ref 7, .ref 64]) (rest := []) r202_19 rfl rfl rfl (by decide) (Nat.le_of_ble_eq_true rfl) (am_rows_copy (n := 28) (m := 28) rfl rfl (by decide) (by decide) e4) (Nat.le_trans (by decide) hd) (Nat.zero_le _) (Nat.zero_le _) rfl ?_
  refine x_ld (v := .ref 1) r202_22 rfl rfl rfl ?_
  refine y_gf (cd := 10) (v := .ref 8) r202_23 rfl rfl rfl ?_
  refine x_ld (v := .ref 58) r202_26 rfl rfl rfl ?_
  refine y_gf (cd := 67) (v := .ref 65) r202_27 rfl rfl rfl ?_
  obtain ⟨D5, e6, h⟩ := am_ltE h
  refine x_call0 (as := [.ref 8, .ref 65]) (rest := []) r202_30 rfl rfl rfl (by decide) (Nat.le_of_ble_eq_true rfl) (am_rows_copy (n := 4) (m := 4) rfl rfl (by decide) (by decide) e6) (Nat.le_trans (by decide) hd) (Nat.zero_le _) (Nat.zero_le _) rfl ?_
  refine x_ld (v := .ref 1) r202_33 rfl rfl rfl ?_
  refine y_gf (cd := 11) (v := .ref 9) r202_34 rfl rfl rfl ?_
  refine x_ld (v := .ref 58) r202_37 rfl rfl rfl ?_
  refine y_gf (cd := 68) (v := .ref 66) r202_38 rfl rfl rfl ?_
  obtain ⟨D7, e8, h⟩ := am_ltE h
  refine x_call0 (as := [.ref 9, .ref 66]) (rest := []) r202_41 rfl rfl rfl (by decide) (Nat.le_of_ble_eq_true rfl) (am_rows_copy (n := 4) (m := 4) rfl rfl (by decide) (by decide) e8) (Nat.le_trans (by decide) hd) (Nat.zero_le _) (Nat.zero_le _) rfl ?_
  refine x_ld (v := .ref 1) r202_44 rfl rfl rfl ?_
  refine y_gf (cd := 12) (v := .ref 10) r202_45 rfl rfl rfl ?_
  refine x_ld (v := .ref 58) r202_48 rfl rfl rfl ?_
  refine y_gf (cd := 69) (v := .ref 67) r202_49 rfl rfl rfl ?_
  obtain ⟨D9, e10, h⟩ := am_ltE h
  refine x_call0 (as := [.ref 10, .ref 67]) (rest := []) r202_52 rfl rfl rfl (by decide) (Nat.le_of_ble_eq_true rfl) (am_rows_copy (n := 4) (m := 4) rfl rfl (by decide) (by decide) e10) (Nat.le_trans (by decide) hd) (Nat.zero_le _) (Nat.zero_le _) rfl ?_
  refine x_ld (v := .ref 1) r202_55 rfl rfl rfl ?_
  refine y_gf (cd := 13) (v := .ref 11) r202_56 rfl rfl rfl ?_
  refine x_ld (v := .ref 58) r202_59 rfl rfl rfl ?_
  refine y_gf (cd := 70) (v := .ref 68) r202_60 rfl rfl rfl ?_
  obtain ⟨D11, e12, h⟩ := am_ltE h
  refine x_call0 (as := [.ref 11, .ref 68]) (rest := []) r202_63 rfl rfl rfl (by decide) (Nat.le_of_ble_eq_true rfl) (am_rows_copy (n := 2) (m := 2) rfl rfl (by decide) (by decide) e12) (Nat.le_trans (by decide) hd) (Nat.zero_le _) (Nat.zero_le _) rfl ?_
  refine x_ld (v := .ref 58) r202_66 rfl rfl rfl ?_
  refine x_ld (v := .ref 1) r202_67 rfl rfl rfl ?_
  refine y_gf (cd := 0) (v := .int (D11.1 1 6)) r202_68 rfl rfl rfl ?_
  obtain ⟨D13, e14, h⟩ := am_ltE h
  refine y_pf0 r202_71 rfl e14 rfl ?_
  refine x_ld (v := .ref 58) r202_74 rfl rfl rfl ?_
  refine x_ld (v := .ref 1) r202_75 rfl rfl rfl ?_
  refine y_gf (cd := 0) (v := .int (D13.1 1 7)) r202_76 rfl rfl rfl ?_
  obtain ⟨D15, e16, h⟩ := am_ltE h
  refine y_pf0 r202_79 rfl e16 rfl ?_
  refine x_ld (v := .ref 58) r202_82 rfl rfl rfl ?_
  refine x_ld (v := .ref 1) r202_83 rfl rfl rfl ?_
  refine y_gf (cd := 0) (v := .int (D15.1 1 8)) r202_84 rfl rfl rfl ?_
  obtain ⟨D17, e18, h⟩ := am_ltE h
  refine y_pf0 r202_87 rfl e18 rfl ?_
  refine x_ld (v := .ref 58) r202_90 rfl rfl rfl ?_
  refine x_ld (v := .ref 1) r202_91 rfl rfl rfl ?_
  refine y_gf (cd := 0) (v := .int (D17.1 1 9)) r202_92 rfl rfl rfl ?_
  obtain ⟨D19, e20, h⟩ := am_ltE h
  refine y_pf0 r202_95 rfl e20 rfl ?_
  refine x_ld (v := .ref 58) r202_98 rfl rfl rfl ?_
  refine x_ld (v := .ref 1) r202_99 rfl rfl rfl ?_
  refine y_gf (cd := 0) (v := .int (D19.1 1 10)) r202_100 rfl rfl rfl ?_
  obtain ⟨D21, e22, h⟩ := am_ltE h
  refine y_pf0 r202_103 rfl e22 rfl ?_
  refine x_ld (v := .ref 58) r202_106 rfl rfl rfl ?_
  refine x_ld (v := .ref 1) r202_107 rfl rfl rfl ?_
  refine y_gf (cd := 0) (v := .int (D21.1 1 11)) r202_108 rfl rfl rfl ?_
  obtain ⟨D23, e24, h⟩ := am_ltE h
  refine y_pf0 r202_111 rfl e24 rfl ?_
  refine x_ld (v := .ref 58) r202_114 rfl rfl rfl ?_
  refine x_ld (v := .ref 1) r202_115 rfl rfl rfl ?_
  refine y_gf (cd := 0) (v := .int (D23.1 1 12)) r202_116 rfl rfl rfl ?_
  obtain ⟨D25, e26, h⟩ := am_ltE h
  refine y_pf0 r202_119 rfl e26 rfl ?_
  refine x_ld (v := .ref 58) r202_122 rfl rfl rfl ?_
  refine x_ld (v := .ref 1) r202_123 rfl rfl rfl ?_
  refine y_gf (cd := 0) (v := .int (D25.1 1 13)) r202_124 rfl rfl rfl ?_
  obtain ⟨D27, e28, h⟩ := am_ltE h
  refine y_pf0 r202_127 rfl e28 rfl ?_
  refine x_ld (v := .ref 58) r202_130 rfl rfl rfl ?_
  refine x_ld (v := .ref 1) r202_131 rfl rfl rfl ?_
  refine y_gf (cd := 0) (v := .int (D27.1 1 14)) r202_132 rfl rfl rfl ?_
  obtain ⟨D29, e30, h⟩ := am_ltE h
  refine y_pf0 r202_135 rfl e30 rfl ?_
  refine x_ld (v := .ref 58) r202_138 rfl rfl rfl ?_
  refine x_ld (v := .ref 1) r202_139 rfl rfl rfl ?_
  refine y_gf (cd := 0) (v := .int (D29.1 1 15)) r202_140 rfl rfl rfl ?_
  obtain ⟨D31, e32, h⟩ := am_ltE h
  refine y_pf0 r202_143 rfl e32 rfl ?_
  subst h
  exact x_ret (ret := none) (C := True) (v := none) r202_146 rt202 rfl rfl rfl rfl rfl rfl rfl rfl trivial hQ
theorem m202_58_1_ok {D : am_D} {r : am_D} (h : m202_58_1 D = r) : am_Y xs L 202 3 0 0 [.ref 58, .ref 1] D (.inl none) r := am_Yof (mi := am_m202) (lc := [.ref 58, .ref 1]) pg202 (Nat.le_of_ble_eq_true rfl) (am_rc1 (ci := 4) rfl rfl rfl rfl rfl) rfl (fun Q hQ => m202_58_1_w (Nat.le_refl _) h hQ)
theorem m152_70_2_w {d mc ms : Nat} {D : am_D} {Q : am_O → am_AH → Prop} (hd : 2 ≤ d) {r : am_D} (h : m152_70_2 D = r) (hQ : Q (.inl none) (am_mk r)) : am_X xs L 152 d mc ms 0 [.ref 70, .ref 2] [] (am_mk D) 0 0 Q := by
  unfold m152_70_2 at h
  refine x_ld (v := .ref 2) r152_0 rfl rfl rfl ?_
  refine y_gf (cd := 5) (v := .ref 3) r152_1 rfl rfl rfl ?_
  refine x_ld (v := .ref 70) r152_4 rfl rfl rfl ?_
  refine y_gf (cd := 73) (v := .ref 71) r152_5 rfl rfl rfl ?_
  obtain ⟨D1, e2, h⟩ := am_ltE h
  refine x_call0 (as := [.ref 3, .ref 71]) (rest := []) r152_8 rfl rfl rfl (by decide) (Nat.le_of_ble_eq_true rfl) (am_rows_copy (n := 28) (m := 28) rfl rfl (by decide) (by decide) e2) (Nat.le_trans (by decide) hd) (Nat.zero_le _) (Nat.zero_le _) rfl ?_
  refine x_ld (v := .ref 2) r152_11 rfl rfl rfl ?_
  refine y_gf (cd := 6) (v := .ref 4) r152_12 rfl rfl rfl ?_
  refine x_ld (v := .ref 70) r152_15 rfl rfl rfl ?_
  refine y_gf (cd := 74) (v := .ref 72) r152_16 rfl rfl rfl ?_
  obtain ⟨D3, e4, h⟩ := am_ltE h
  refine x_call0 (as := [.ref 4, .ref 72]) (rest := []) r152_19 rfl rfl rfl (by decide) (Nat.le_of_ble_eq_true rfl) (am_rows_copy (n := 28) (m := 28) rfl rfl (by decide) (by decide) e4) (Nat.le_trans (by decide) hd) (Nat.zero_le _) (Nat.zero_le _) rfl ?_
  refine x_ld (v := .ref 2) r152_22 rfl rfl rfl ?_
  refine y_gf (cd := 7) (v := .ref 5) r152_23 rfl rfl rfl ?_
  refine x_ld (v := .ref 70) r152_26 rfl rfl rfl ?_
  refine y_gf (cd := 75) (v := .ref 73) r152_27 rfl rfl rfl ?_
  obtain ⟨D5, e6, h⟩ := am_ltE h
  refine x_call0 (as := [.ref 5, .ref 73]) (rest := []) r152_30 rfl rfl rfl (by decide) (Nat.le_of_ble_eq_true rfl) (am_rows_copy (n := 28) (m := 28) rfl rfl (by decide) (by decide) e6) (Nat.le_trans (by decide) hd) (Nat.zero_le _) (Nat.zero_le _) rfl ?_
  refine x_ld (v := .ref 2) r152_33 rfl rfl rfl ?_
  refine y_gf (cd := 8) (v := .ref 6) r152_34 rfl rfl rfl ?_
  refine x_ld (v := .ref 70) r152_37 rfl rfl rfl ?_
  refine y_gf (cd := 76) (v := .ref 74) r152_38 rfl rfl rfl ?_
  obtain ⟨D7, e8, h⟩ := am_ltE h
  refine x_call0 (as := [.ref 6, .ref 74]) (rest := []) r152_41 rfl rfl rfl (by decide) (Nat.le_of_ble_eq_true rfl) (am_rows_copy (n := 28) (m := 28) rfl rfl (by decide) (by decide) e8) (Nat.le_trans (by decide) hd) (Nat.zero_le _) (Nat.zero_le _) rfl ?_
  refine x_ld (v := .ref 70) r152_44 rfl rfl rfl ?_
  refine x_ld (v := .ref 2) r152_45 rfl rfl rfl ?_
  refine y_gf (cd := 0) (v := .int (D7.1 2 4)) r152_46 rfl rfl rfl ?_
  obtain ⟨D9, e10, h⟩ := am_ltE h
  refine y_pf0 r152_49 rfl e10 rfl ?_
  refine x_ld (v := .ref 70) r152_52 rfl rfl rfl ?_
  refine x_ld (v := .ref 2) r152_53 rfl rfl rfl ?_
  refine y_gf (cd := 0) (v := .int (D9.1 2 5)) r152_54 rfl rfl rfl ?_
  obtain ⟨D11, e12, h⟩ := am_ltE h
  refine y_pf0 r152_57 rfl e12 rfl ?_
  refine x_ld (v := .ref 70) r152_60 rfl rfl rfl ?_
  refine x_ld (v := .ref 2) r152_61 rfl rfl rfl ?_
  refine y_gf (cd := 0) (v := .int (D11.1 2 6)) r152_62 rfl rfl rfl ?_
  obtain ⟨D13, e14, h⟩ := am_ltE h
  refine y_pf0 r152_65 rfl e14 rfl ?_
  subst h
  exact x_ret (ret := none) (C := True) (v := none) r152_68 rt152 rfl rfl rfl rfl rfl rfl rfl rfl trivial hQ
theorem m152_70_2_ok {D : am_D} {r : am_D} (h : m152_70_2 D = r) : am_Y xs L 152 2 0 0 [.ref 70, .ref 2] D (.inl none) r := am_Yof (mi := am_m152) (lc := [.ref 70, .ref 2]) pg152 (Nat.le_of_ble_eq_true rfl) (am_rc1 (ci := 0) rfl rfl rfl rfl rfl) rfl (fun Q hQ => m152_70_2_w (Nat.le_refl _) h hQ)
theorem m202_69_1_w {d mc ms : Nat} {D : am_D} {Q : am_O → am_AH → Prop} (hd : 3 ≤ d) {r : am_D} (h : m202_69_1 D = r) (hQ : Q (.inl none) (am_mk r)) : am_X xs L 202 d mc ms 0 [.ref 69, .ref 1] [] (am_mk D) 0 0 Q := by
  unfold m202_69_1 at h
  refine x_ld (v := .ref 69) r202_0 rfl rfl rfl ?_
  refine y_gf (cd := 72) (v := .ref 70) r202_1 rfl rfl rfl ?_
  refine x_ld (v := .ref 1) r202_4 rfl rfl rfl ?_
  refine y_gf (cd := 4) (v := .ref 2) r202_5 rfl rfl rfl ?_
  obtain ⟨q1, h2, h⟩ := am_ltE h
  replace h2 := h2.symm
  refine x_call0 (as := [.ref 70, .ref 2]) (rest := []) r202_8 rfl rfl rfl (by decide) (Nat.le_of_ble_eq_true rfl) (m152_70_2_ok h2) (Nat.le_trans (by decide) hd) (Nat.zero_le _) (Nat.zero_le _) rfl ?_
  refine x_ld (v := .ref 1) r202_11 rfl rfl rfl ?_
  refine y_gf (cd := 9) (v := .ref 7) r202_12 rfl rfl rfl ?_
  refine x_ld (v := .ref 69) r202_15 rfl rfl rfl ?_
  refine y_gf (cd := 77) (v := .ref 75) r202_16 rfl rfl rfl ?_
  obtain ⟨D3, e4, h⟩ := am_ltE h
  refine x_call0 (as := [.ref 7, .ref 75]) (rest := []) r202_19 rfl rfl rfl (by decide) (Nat.le_of_ble_eq_true rfl) (am_rows_copy (n := 28) (m := 28) rfl rfl (by decide) (by decide) e4) (Nat.le_trans (by decide) hd) (Nat.zero_le _) (Nat.zero_le _) rfl ?_
  refine x_ld (v := .ref 1) r202_22 rfl rfl rfl ?_
  refine y_gf (cd := 10) (v := .ref 8) r202_23 rfl rfl rfl ?_
  refine x_ld (v := .ref 69) r202_26 rfl rfl rfl ?_
  refine y_gf (cd := 78) (v := .ref 76) r202_27 rfl rfl rfl ?_
  obtain ⟨D5, e6, h⟩ := am_ltE h
  refine x_call0 (as := [.ref 8, .ref 76]) (rest := []) r202_30 rfl rfl rfl (by decide) (Nat.le_of_ble_eq_true rfl) (am_rows_copy (n := 4) (m := 4) rfl rfl (by decide) (by decide) e6) (Nat.le_trans (by decide) hd) (Nat.zero_le _) (Nat.zero_le _) rfl ?_
  refine x_ld (v := .ref 1) r202_33 rfl rfl rfl ?_
  refine y_gf (cd := 11) (v := .ref 9) r202_34 rfl rfl rfl ?_
  refine x_ld (v := .ref 69) r202_37 rfl rfl rfl ?_
  refine y_gf (cd := 79) (v := .ref 77) r202_38 rfl rfl rfl ?_
  obtain ⟨D7, e8, h⟩ := am_ltE h
  refine x_call0 (as := [.ref 9, .ref 77]) (rest := []) r202_41 rfl rfl rfl (by decide) (Nat.le_of_ble_eq_true rfl) (am_rows_copy (n := 4) (m := 4) rfl rfl (by decide) (by decide) e8) (Nat.le_trans (by decide) hd) (Nat.zero_le _) (Nat.zero_le _) rfl ?_
  refine x_ld (v := .ref 1) r202_44 rfl rfl rfl ?_
  refine y_gf (cd := 12) (v := .ref 10) r202_45 rfl rfl rfl ?_
  refine x_ld (v := .ref 69) r202_48 rfl rfl rfl ?_
  refine y_gf (cd := 80) (v := .ref 78) r202_49 rfl rfl rfl ?_
  obtain ⟨D9, e10, h⟩ := am_ltE h
  refine x_call0 (as := [.ref 10, .ref 78]) (rest := []) r202_52 rfl rfl rfl (by decide) (Nat.le_of_ble_eq_true rfl) (am_rows_copy (n := 4) (m := 4) rfl rfl (by decide) (by decide) e10) (Nat.le_trans (by decide) hd) (Nat.zero_le _) (Nat.zero_le _) rfl ?_
  refine x_ld (v := .ref 1) r202_55 rfl rfl rfl ?_
  refine y_gf (cd := 13) (v := .ref 11) r202_56 rfl rfl rfl ?_
  refine x_ld (v := .ref 69) r202_59 rfl rfl rfl ?_
  refine y_gf (cd := 81) (v := .ref 79) r202_60 rfl rfl rfl ?_
  obtain ⟨D11, e12, h⟩ := am_ltE h
  refine x_call0 (as := [.ref 11, .ref 79]) (rest := []) r202_63 rfl rfl rfl (by decide) (Nat.le_of_ble_eq_true rfl) (am_rows_copy (n := 2) (m := 2) rfl rfl (by decide) (by decide) e12) (Nat.le_trans (by decide) hd) (Nat.zero_le _) (Nat.zero_le _) rfl ?_
  refine x_ld (v := .ref 69) r202_66 rfl rfl rfl ?_
  refine x_ld (v := .ref 1) r202_67 rfl rfl rfl ?_
  refine y_gf (cd := 0) (v := .int (D11.1 1 6)) r202_68 rfl rfl rfl ?_
  obtain ⟨D13, e14, h⟩ := am_ltE h
  refine y_pf0 r202_71 rfl e14 rfl ?_
  refine x_ld (v := .ref 69) r202_74 rfl rfl rfl ?_
  refine x_ld (v := .ref 1) r202_75 rfl rfl rfl ?_
  refine y_gf (cd := 0) (v := .int (D13.1 1 7)) r202_76 rfl rfl rfl ?_
  obtain ⟨D15, e16, h⟩ := am_ltE h
  refine y_pf0 r202_79 rfl e16 rfl ?_
  refine x_ld (v := .ref 69) r202_82 rfl rfl rfl ?_
  refine x_ld (v := .ref 1) r202_83 rfl rfl rfl ?_
  refine y_gf (cd := 0) (v := .int (D15.1 1 8)) r202_84 rfl rfl rfl ?_
  obtain ⟨D17, e18, h⟩ := am_ltE h
  refine y_pf0 r202_87 rfl e18 rfl ?_
  refine x_ld (v := .ref 69) r202_90 rfl rfl rfl ?_
  refine x_ld (v := .ref 1) r202_91 rfl rfl rfl ?_
  refine y_gf (cd := 0) (v := .int (D17.1 1 9)) r202_92 rfl rfl rfl ?_
  obtain ⟨D19, e20, h⟩ := am_ltE h
  refine y_pf0 r202_95 rfl e20 rfl ?_
  refine x_ld (v := .ref 69) r202_98 rfl rfl rfl ?_
  refine x_ld (v := .ref 1) r202_99 rfl rfl rfl ?_
  refine y_gf (cd := 0) (v := .int (D19.1 1 10)) r202_100 rfl rfl rfl ?_
  obtain ⟨D21, e22, h⟩ := am_ltE h
  refine y_pf0 r202_103 rfl e22 rfl ?_
  refine x_ld (v := .ref 69) r202_106 rfl rfl rfl ?_
  refine x_ld (v := .ref 1) r202_107 rfl rfl rfl ?_
  refine y_gf (cd := 0) (v := .int (D21.1 1 11)) r202_108 rfl rfl rfl ?_
  obtain ⟨D23, e24, h⟩ := am_ltE h
  refine y_pf0 r202_111 rfl e24 rfl ?_
  refine x_ld (v := .ref 69) r202_114 rfl rfl rfl ?_
  refine x_ld (v := .ref 1) r202_115 rfl rfl rfl ?_
  refine y_gf (cd := 0) (v := .int (D23.1 1 12)) r202_116 rfl rfl rfl ?_
  obtain ⟨D25, e26, h⟩ := am_ltE h
  refine y_pf0 r202_119 rfl e26 rfl ?_
  refine x_ld (v := .ref 69) r202_122 rfl rfl rfl ?_
  refine x_ld (v := .ref 1) r202_123 rfl rfl rfl ?_
  refine y_gf (cd := 0) (v := .int (D25.1 1 13)) r202_124 rfl rfl rfl ?_
  obtain ⟨D27, e28, h⟩ := am_ltE h
  refine y_pf0 r202_127 rfl e28 rfl ?_
  refine x_ld (v := .ref 69) r202_130 rfl rfl rfl ?_
  refine x_ld (v := .ref 1) r202_131 rfl rfl rfl ?_
  refine y_gf (cd := 0) (v := .int (D27.1 1 14)) r202_132 rfl rfl rfl ?_
  obtain ⟨D29, e30, h⟩ := am_ltE h
  refine y_pf0 r202_135 rfl e30 rfl ?_
  refine x_ld (v := .ref 69) r202_138 rfl rfl rfl ?_
  refine x_ld (v := .ref 1) r202_139 rfl rfl rfl ?_
  refine y_gf (cd := 0) (v := .int (D29.1 1 15)) r202_140 rfl rfl rfl ?_
  obtain ⟨D31, e32, h⟩ := am_ltE h
  refine y_pf0 r202_143 rfl e32 rfl ?_
  subst h
  exact x_ret (ret := none) (C := True) (v := none) r202_146 rt202 rfl rfl rfl rfl rfl rfl rfl rfl trivial hQ
theorem m202_69_1_ok {D : am_D} {r : am_D} (h : m202_69_1 D = r) : am_Y xs L 202 3 0 0 [.ref 69, .ref 1] D (.inl none) r := am_Yof (mi := am_m202) (lc := [.ref 69, .ref 1]) pg202 (Nat.le_of_ble_eq_true rfl) (am_rc1 (ci := 4) rfl rfl rfl rfl rfl) rfl (fun Q hQ => m202_69_1_w (Nat.le_refl _) h hQ)
theorem m152_81_2_w {d mc ms : Nat} {D : am_D} {Q : am_O → am_AH → Prop} (hd : 2 ≤ d) {r : am_D} (h : m152_81_2 D = r) (hQ : Q (.inl none) (am_mk r)) : am_X xs L 152 d mc ms 0 [.ref 81, .ref 2] [] (am_mk D) 0 0 Q := by
  unfold m152_81_2 at h
  refine x_ld (v := .ref 2) r152_0 rfl rfl rfl ?_
  refine y_gf (cd := 5) (v := .ref 3) r152_1 rfl rfl rfl ?_
  refine x_ld (v := .ref 81) r152_4 rfl rfl rfl ?_
  refine y_gf (cd := 84) (v := .ref 82) r152_5 rfl rfl rfl ?_
  obtain ⟨D1, e2, h⟩ := am_ltE h
  refine x_call0 (as := [.ref 3, .ref 82]) (rest := []) r152_8 rfl rfl rfl (by decide) (Nat.le_of_ble_eq_true rfl) (am_rows_copy (n := 28) (m := 28) rfl rfl (by decide) (by decide) e2) (Nat.le_trans (by decide) hd) (Nat.zero_le _) (Nat.zero_le _) rfl ?_
  refine x_ld (v := .ref 2) r152_11 rfl rfl rfl ?_
  refine y_gf (cd := 6) (v := .ref 4) r152_12 rfl rfl rfl ?_
  refine x_ld (v := .ref 81) r152_15 rfl rfl rfl ?_
  refine y_gf (cd := 85) (v := .ref 83) r152_16 rfl rfl rfl ?_
  obtain ⟨D3, e4, h⟩ := am_ltE h
  refine x_call0 (as := [.ref 4, .ref 83]) (rest := []) r152_19 rfl rfl rfl (by decide) (Nat.le_of_ble_eq_true rfl) (am_rows_copy (n := 28) (m := 28) rfl rfl (by decide) (by decide) e4) (Nat.le_trans (by decide) hd) (Nat.zero_le _) (Nat.zero_le _) rfl ?_
  refine x_ld (v := .ref 2) r152_22 rfl rfl rfl ?_
  refine y_gf (cd := 7) (v := .ref 5) r152_23 rfl rfl rfl ?_
  refine x_ld (v := .ref 81) r152_26 rfl rfl rfl ?_
  refine y_gf (cd := 86) (v := .ref 84) r152_27 rfl rfl rfl ?_
  obtain ⟨D5, e6, h⟩ := am_ltE h
  refine x_call0 (as := [.ref 5, .ref 84]) (rest := []) r152_30 rfl rfl rfl (by decide) (Nat.le_of_ble_eq_true rfl) (am_rows_copy (n := 28) (m := 28) rfl rfl (by decide) (by decide) e6) (Nat.le_trans (by decide) hd) (Nat.zero_le _) (Nat.zero_le _) rfl ?_
  refine x_ld (v := .ref 2) r152_33 rfl rfl rfl ?_
  refine y_gf (cd := 8) (v := .ref 6) r152_34 rfl rfl rfl ?_
  refine x_ld (v := .ref 81) r152_37 rfl rfl rfl ?_
  refine y_gf (cd := 87) (v := .ref 85) r152_38 rfl rfl rfl ?_
  obtain ⟨D7, e8, h⟩ := am_ltE h
  refine x_call0 (as := [.ref 6, .ref 85]) (rest := []) r152_41 rfl rfl rfl (by decide) (Nat.le_of_ble_eq_true rfl) (am_rows_copy (n := 28) (m := 28) rfl rfl (by decide) (by decide) e8) (Nat.le_trans (by decide) hd) (Nat.zero_le _) (Nat.zero_le _) rfl ?_
  refine x_ld (v := .ref 81) r152_44 rfl rfl rfl ?_
  refine x_ld (v := .ref 2) r152_45 rfl rfl rfl ?_
  refine y_gf (cd := 0) (v := .int (D7.1 2 4)) r152_46 rfl rfl rfl ?_
  obtain ⟨D9, e10, h⟩ := am_ltE h
  refine y_pf0 r152_49 rfl e10 rfl ?_
  refine x_ld (v := .ref 81) r152_52 rfl rfl rfl ?_
  refine x_ld (v := .ref 2) r152_53 rfl rfl rfl ?_
  refine y_gf (cd := 0) (v := .int (D9.1 2 5)) r152_54 rfl rfl rfl ?_
  obtain ⟨D11, e12, h⟩ := am_ltE h
  refine y_pf0 r152_57 rfl e12 rfl ?_
  refine x_ld (v := .ref 81) r152_60 rfl rfl rfl ?_
  refine x_ld (v := .ref 2) r152_61 rfl rfl rfl ?_
  refine y_gf (cd := 0) (v := .int (D11.1 2 6)) r152_62 rfl rfl rfl ?_
  obtain ⟨D13, e14, h⟩ := am_ltE h
  refine y_pf0 r152_65 rfl e14 rfl ?_
  subst h
  exact x_ret (ret := none) (C := True) (v := none) r152_68 rt152 rfl rfl rfl rfl rfl rfl rfl rfl trivial hQ
theorem m152_81_2_ok {D : am_D} {r : am_D} (h : m152_81_2 D = r) : am_Y xs L 152 2 0 0 [.ref 81, .ref 2] D (.inl none) r := am_Yof (mi := am_m152) (lc := [.ref 81, .ref 2]) pg152 (Nat.le_of_ble_eq_true rfl) (am_rc1 (ci := 0) rfl rfl rfl rfl rfl) rfl (fun Q hQ => m152_81_2_w (Nat.le_refl _) h hQ)
theorem m202_80_1_w {d mc ms : Nat} {D : am_D} {Q : am_O → am_AH → Prop} (hd : 3 ≤ d) {r : am_D} (h : m202_80_1 D = r) (hQ : Q (.inl none) (am_mk r)) : am_X xs L 202 d mc ms 0 [.ref 80, .ref 1] [] (am_mk D) 0 0 Q := by
  unfold m202_80_1 at h
  refine x_ld (v := .ref 80) r202_0 rfl rfl rfl ?_
  refine y_gf (cd := 83) (v := .ref 81) r202_1 rfl rfl rfl ?_
  refine x_ld (v := .ref 1) r202_4 rfl rfl rfl ?_
  refine y_gf (cd := 4) (v := .ref 2) r202_5 rfl rfl rfl ?_
  obtain ⟨q1, h2, h⟩ := am_ltE h
  replace h2 := h2.symm
  refine x_call0 (as := [.ref 81, .ref 2]) (rest := []) r202_8 rfl rfl rfl (by decide) (Nat.le_of_ble_eq_true rfl) (m152_81_2_ok h2) (Nat.le_trans (by decide) hd) (Nat.zero_le _) (Nat.zero_le _) rfl ?_
  refine x_ld (v := .ref 1) r202_11 rfl rfl rfl ?_
  refine y_gf (cd := 9) (v := .ref 7) r202_12 rfl rfl rfl ?_
  refine x_ld (v := .ref 80) r202_15 rfl rfl rfl ?_
  refine y_gf (cd := 88) (v := .ref 86) r202_16 rfl rfl rfl ?_
  obtain ⟨D3, e4, h⟩ := am_ltE h
  refine x_call0 (as := [.ref 7, .ref 86]) (rest := []) r202_19 rfl rfl rfl (by decide) (Nat.le_of_ble_eq_true rfl) (am_rows_copy (n := 28) (m := 28) rfl rfl (by decide) (by decide) e4) (Nat.le_trans (by decide) hd) (Nat.zero_le _) (Nat.zero_le _) rfl ?_
  refine x_ld (v := .ref 1) r202_22 rfl rfl rfl ?_
  refine y_gf (cd := 10) (v := .ref 8) r202_23 rfl rfl rfl ?_
  refine x_ld (v := .ref 80) r202_26 rfl rfl rfl ?_
  refine y_gf (cd := 89) (v := .ref 87) r202_27 rfl rfl rfl ?_
  obtain ⟨D5, e6, h⟩ := am_ltE h
  refine x_call0 (as := [.ref 8, .ref 87]) (rest := []) r202_30 rfl rfl rfl (by decide) (Nat.le_of_ble_eq_true rfl) (am_rows_copy (n := 4) (m := 4) rfl rfl (by decide) (by decide) e6) (Nat.le_trans (by decide) hd) (Nat.zero_le _) (Nat.zero_le _) rfl ?_
  refine x_ld (v := .ref 1) r202_33 rfl rfl rfl ?_
  refine y_gf (cd := 11) (v := .ref 9) r202_34 rfl rfl rfl ?_
  refine x_ld (v := .ref 80) r202_37 rfl rfl rfl ?_
  refine y_gf (cd := 90) (v := .ref 88) r202_38 rfl rfl rfl ?_
  obtain ⟨D7, e8, h⟩ := am_ltE h
  refine x_call0 (as := [.ref 9, .ref 88]) (rest := []) r202_41 rfl rfl rfl (by decide) (Nat.le_of_ble_eq_true rfl) (am_rows_copy (n := 4) (m := 4) rfl rfl (by decide) (by decide) e8) (Nat.le_trans (by decide) hd) (Nat.zero_le _) (Nat.zero_le _) rfl ?_
  refine x_ld (v := .ref 1) r202_44 rfl rfl rfl ?_
  refine y_gf (cd := 12) (v := .ref 10) r202_45 rfl rfl rfl ?_
  refine x_ld (v := .ref 80) r202_48 rfl rfl rfl ?_
  refine y_gf (cd := 91) (v := .ref 89) r202_49 rfl rfl rfl ?_
  obtain ⟨D9, e10, h⟩ := am_ltE h
  refine x_call0 (as := [.ref 10, .ref 89]) (rest := []) r202_52 rfl rfl rfl (by decide) (Nat.le_of_ble_eq_true rfl) (am_rows_copy (n := 4) (m := 4) rfl rfl (by decide) (by decide) e10) (Nat.le_trans (by decide) hd) (Nat.zero_le _) (Nat.zero_le _) rfl ?_
  refine x_ld (v := .ref 1) r202_55 rfl rfl rfl ?_
  refine y_gf (cd := 13) (v := .ref 11) r202_56 rfl rfl rfl ?_
  refine x_ld (v := .ref 80) r202_59 rfl rfl rfl ?_
  refine y_gf (cd := 92) (v := .ref 90) r202_60 rfl rfl rfl ?_
  obtain ⟨D11, e12, h⟩ := am_ltE h
  refine x_call0 (as := [.ref 11, .ref 90]) (rest := []) r202_63 rfl rfl rfl (by decide) (Nat.le_of_ble_eq_true rfl) (am_rows_copy (n := 2) (m := 2) rfl rfl (by decide) (by decide) e12) (Nat.le_trans (by decide) hd) (Nat.zero_le _) (Nat.zero_le _) rfl ?_
  refine x_ld (v := .ref 80) r202_66 rfl rfl rfl ?_
  refine x_ld (v := .ref 1) r202_67 rfl rfl rfl ?_
  refine y_gf (cd := 0) (v := .int (D11.1 1 6)) r202_68 rfl rfl rfl ?_
  obtain ⟨D13, e14, h⟩ := am_ltE h
  refine y_pf0 r202_71 rfl e14 rfl ?_
  refine x_ld (v := .ref 80) r202_74 rfl rfl rfl ?_
  refine x_ld (v := .ref 1) r202_75 rfl rfl rfl ?_
  refine y_gf (cd := 0) (v := .int (D13.1 1 7)) r202_76 rfl rfl rfl ?_
  obtain ⟨D15, e16, h⟩ := am_ltE h
  refine y_pf0 r202_79 rfl e16 rfl ?_
  refine x_ld (v := .ref 80) r202_82 rfl rfl rfl ?_
  refine x_ld (v := .ref 1) r202_83 rfl rfl rfl ?_
  refine y_gf (cd := 0) (v := .int (D15.1 1 8)) r202_84 rfl rfl rfl ?_
  obtain ⟨D17, e18, h⟩ := am_ltE h
  refine y_pf0 r202_87 rfl e18 rfl ?_
  refine x_ld (v := .ref 80) r202_90 rfl rfl rfl ?_
  refine x_ld (v := .ref 1) r202_91 rfl rfl rfl ?_
  refine y_gf (cd := 0) (v := .int (D17.1 1 9)) r202_92 rfl rfl rfl ?_
  obtain ⟨D19, e20, h⟩ := am_ltE h
  refine y_pf0 r202_95 rfl e20 rfl ?_
  refine x_ld (v := .ref 80) r202_98 rfl rfl rfl ?_
  refine x_ld (v := .ref 1) r202_99 rfl rfl rfl ?_
  refine y_gf (cd := 0) (v := .int (D19.1 1 10)) r202_100 rfl rfl rfl ?_
  obtain ⟨D21, e22, h⟩ := am_ltE h
  refine y_pf0 r202_103 rfl e22 rfl ?_
  refine x_ld (v := .ref 80) r202_106 rfl rfl rfl ?_
  refine x_ld (v := .ref 1) r202_107 rfl rfl rfl ?_
  refine y_gf (cd := 0) (v := .int (D21.1 1 11)) r202_108 rfl rfl rfl ?_
  obtain ⟨D23, e24, h⟩ := am_ltE h
  refine y_pf0 r202_111 rfl e24 rfl ?_
  refine x_ld (v := .ref 80) r202_114 rfl rfl rfl ?_
  refine x_ld (v := .ref 1) r202_115 rfl rfl rfl ?_
  refine y_gf (cd := 0) (v := .int (D23.1 1 12)) r202_116 rfl rfl rfl ?_
  obtain ⟨D25, e26, h⟩ := am_ltE h
  refine y_pf0 r202_119 rfl e26 rfl ?_
  refine x_ld (v := .ref 80) r202_122 rfl rfl rfl ?_
  refine x_ld (v := .ref 1) r202_123 rfl rfl rfl ?_
  refine y_gf (cd := 0) (v := .int (D25.1 1 13)) r202_124 rfl rfl rfl ?_
  obtain ⟨D27, e28, h⟩ := am_ltE h
  refine y_pf0 r202_127 rfl e28 rfl ?_
  refine x_ld (v := .ref 80) r202_130 rfl rfl rfl ?_
  refine x_ld (v := .ref 1) r202_131 rfl rfl rfl ?_
  refine y_gf (cd := 0) (v := .int (D27.1 1 14)) r202_132 rfl rfl rfl ?_
  obtain ⟨D29, e30, h⟩ := am_ltE h
  refine y_pf0 r202_135 rfl e30 rfl ?_
  refine x_ld (v := .ref 80) r202_138 rfl rfl rfl ?_
  refine x_ld (v := .ref 1) r202_139 rfl rfl rfl ?_
  refine y_gf (cd := 0) (v := .int (D29.1 1 15)) r202_140 rfl rfl rfl ?_
  obtain ⟨D31, e32, h⟩ := am_ltE h
  refine y_pf0 r202_143 rfl e32 rfl ?_
  subst h
  exact x_ret (ret := none) (C := True) (v := none) r202_146 rt202 rfl rfl rfl rfl rfl rfl rfl rfl trivial hQ
theorem m202_80_1_ok {D : am_D} {r : am_D} (h : m202_80_1 D = r) : am_Y xs L 202 3 0 0 [.ref 80, .ref 1] D (.inl none) r := am_Yof (mi := am_m202) (lc := [.ref 80, .ref 1]) pg202 (Nat.le_of_ble_eq_true rfl) (am_rc1 (ci := 4) rfl rfl rfl rfl rfl) rfl (fun Q hQ => m202_80_1_w (Nat.le_refl _) h hQ)
theorem r168_0 : am_at 168 0 = some (.aload_n 0, 1, [0]) := by decide +kernel
theorem r168_1 : am_at 168 1 = some (.getfield 18, 3, [1, 2, 0, 166]) := by decide +kernel
theorem r168_4 : am_at 168 4 = some (.bipush (6), 2, []) := by decide +kernel
theorem r168_6 : am_at 168 6 = some (.if_icmp .lt (26), 3, [32]) := by decide +kernel
theorem r168_9 : am_at 168 9 = some (.aload_n 0, 1, [0]) := by decide +kernel
theorem r168_10 : am_at 168 10 = some (.aload_n 0, 1, [0]) := by decide +kernel
theorem r168_11 : am_at 168 11 = some (.getfield 22, 3, [1, 1, 0, 165]) := by decide +kernel
theorem r168_14 : am_at 168 14 = some (.iconst (1), 1, []) := by decide +kernel
theorem r168_15 : am_at 168 15 = some (.iadd, 1, []) := by decide +kernel
theorem r168_16 : am_at 168 16 = some (.bipush (6), 2, []) := by decide +kernel
theorem r168_18 : am_at 168 18 = some (.irem, 1, []) := by decide +kernel
theorem r168_19 : am_at 168 19 = some (.putfield 22, 3, [1, 1, 0, 165]) := by decide +kernel
theorem r168_22 : am_at 168 22 = some (.aload_n 0, 1, [0]) := by decide +kernel
theorem r168_23 : am_at 168 23 = some (.dup, 1, []) := by decide +kernel
theorem r168_24 : am_at 168 24 = some (.getfield 18, 3, [1, 2, 0, 166]) := by decide +kernel
theorem r168_27 : am_at 168 27 = some (.iconst (1), 1, []) := by decide +kernel
theorem r168_28 : am_at 168 28 = some (.isub, 1, []) := by decide +kernel
theorem r168_29 : am_at 168 29 = some (.putfield 18, 3, [1, 2, 0, 166]) := by decide +kernel
theorem r168_32 : am_at 168 32 = some (.aload_n 0, 1, [0]) := by decide +kernel
theorem r168_33 : am_at 168 33 = some (.aload_n 0, 1, [0]) := by decide +kernel
theorem r168_34 : am_at 168 34 = some (.getfield 18, 3, [1, 2, 0, 166]) := by decide +kernel
theorem r168_37 : am_at 168 37 = some (.invokevirtual 25, 3, [170, 2, 380, 0]) := by decide +kernel
theorem r168_40 : am_at 168 40 = some (.astore_n 2, 1, [2]) := by decide +kernel
theorem r168_41 : am_at 168 41 = some (.aload_n 2, 1, [2]) := by decide +kernel
theorem r168_42 : am_at 168 42 = some (.ifnull (18), 3, [60]) := by decide +kernel
theorem r168_45 : am_at 168 45 = some (.aload_n 2, 1, [2]) := by decide +kernel
theorem r168_46 : am_at 168 46 = some (.aload_n 1, 1, [1]) := by decide +kernel
theorem r168_47 : am_at 168 47 = some (.invokevirtual 29, 3, [202, 2, 384, 0]) := by decide +kernel
theorem r168_50 : am_at 168 50 = some (.aload_n 0, 1, [0]) := by decide +kernel
theorem r168_51 : am_at 168 51 = some (.dup, 1, []) := by decide +kernel
theorem r168_52 : am_at 168 52 = some (.getfield 18, 3, [1, 2, 0, 166]) := by decide +kernel
theorem r168_55 : am_at 168 55 = some (.iconst (1), 1, []) := by decide +kernel
theorem r168_56 : am_at 168 56 = some (.iadd, 1, []) := by decide +kernel
theorem r168_57 : am_at 168 57 = some (.putfield 18, 3, [1, 2, 0, 166]) := by decide +kernel
theorem r168_60 : am_at 168 60 = some (.return_, 1, []) := by decide +kernel
theorem rt168 : am_rtt 168 = some (none) := by decide +kernel
set_option maxRecDepth 100000 in
theorem pg168 : am_pg[168]? = some am_m168 := rfl
theorem m168_w {d mc ms : Nat} {D : am_D} {Q : am_O → am_AH → Prop} (hd : 4 ≤ d) {r : am_D} (h : m168 D = some r) (hQ : Q (.inl none) (am_mk r)) : am_X xs L 168 d mc ms 0 [.ref 23, .ref 1, am_dead] [] (am_mk D) 0 0 Q := by
  unfold m168 at h
  refine x_ld (v := .ref 23) r168_0 rfl rfl rfl ?_
  refine y_gf (cd := 0) (v := .int (D.1 23 2)) r168_1 rfl rfl rfl ?_
  refine x_bi (v := 6) r168_4 rfl rfl ?_
  obtain ⟨q1, h3, h⟩ := am_ltE h
  replace h3 := h3.symm
  have kj2 : am_X xs L 168 d mc ms 32 [.ref 23, .ref 1, am_dead] [] (am_mk q1) 0 0 Q := by
    refine x_ld (v := .ref 23) r168_32 rfl rfl rfl ?_
    refine x_ld (v := .ref 23) r168_33 rfl rfl rfl ?_
    refine y_gf (cd := 0) (v := .int (q1.1 23 2)) r168_34 rfl rfl rfl ?_
    obtain ⟨q9, h10, h⟩ := Option.bind_eq_some_iff.mp h
    refine x_call1 (as := [.ref 23, .int (q1.1 23 2)]) (rest := []) r168_37 rfl rfl rfl (by decide) (Nat.le_of_ble_eq_true rfl) (m170_ok h10) (Nat.le_trans (by decide) hd) (Nat.zero_le _) (Nat.zero_le _) rfl ?_
    rcases am_ifE h with ⟨c11, h⟩ | ⟨c11, h⟩
    · refine am_topR (v := 25) (by rw [c11]) ?_
      refine x_sto (lc' := [.ref 23, .ref 1, .ref 25]) r168_40 rfl rfl rfl rfl ?_
      refine x_ld (v := .ref 25) r168_41 rfl rfl rfl ?_
      refine x_ifnull r168_42 rfl ?_
      refine x_ld (v := .ref 25) r168_45 rfl rfl rfl ?_
      refine x_ld (v := .ref 1) r168_46 rfl rfl rfl ?_
      obtain ⟨q12, h13, h⟩ := am_ltE h
      replace h13 := h13.symm
      refine x_call0 (as := [.ref 25, .ref 1]) (rest := []) r168_47 rfl rfl rfl (by decide) (Nat.le_of_ble_eq_true rfl) (m202_25_1_ok h13) (Nat.le_trans (by decide) hd) (Nat.zero_le _) (Nat.zero_le _) rfl ?_
      refine x_ld (v := .ref 23) r168_50 rfl rfl rfl ?_
      refine x_ar r168_51 rfl trivial rfl ?_
      refine y_gf (cd := 0) (v := .int (q12.1 23 2)) r168_52 rfl rfl rfl ?_
      refine x_ic (v := 1) r168_55 rfl rfl ?_
      refine x_ar r168_56 rfl trivial rfl ?_
      obtain ⟨D14, e15, h⟩ := am_ltE h
      refine y_pf0 r168_57 rfl e15 rfl ?_
      cases h
      exact x_ret (ret := none) (C := True) (v := none) r168_60 rt168 rfl rfl rfl rfl rfl rfl rfl rfl trivial hQ
    · rcases am_ifE h with ⟨c16, h⟩ | ⟨c16, h⟩
      · refine am_topR (v := 36) (by rw [c16]) ?_
        refine x_sto (lc' := [.ref 23, .ref 1, .ref 36]) r168_40 rfl rfl rfl rfl ?_
        refine x_ld (v := .ref 36) r168_41 rfl rfl rfl ?_
        refine x_ifnull r168_42 rfl ?_
        refine x_ld (v := .ref 36) r168_45 rfl rfl rfl ?_
        refine x_ld (v := .ref 1) r168_46 rfl rfl rfl ?_
        obtain ⟨q17, h18, h⟩ := am_ltE h
        replace h18 := h18.symm
        refine x_call0 (as := [.ref 36, .ref 1]) (rest := []) r168_47 rfl rfl rfl (by decide) (Nat.le_of_ble_eq_true rfl) (m202_36_1_ok h18) (Nat.le_trans (by decide) hd) (Nat.zero_le _) (Nat.zero_le _) rfl ?_
        refine x_ld (v := .ref 23) r168_50 rfl rfl rfl ?_
        refine x_ar r168_51 rfl trivial rfl ?_
        refine y_gf (cd := 0) (v := .int (q17.1 23 2)) r168_52 rfl rfl rfl ?_
        refine x_ic (v := 1) r168_55 rfl rfl ?_
        refine x_ar r168_56 rfl trivial rfl ?_
        obtain ⟨D19, e20, h⟩ := am_ltE h
        refine y_pf0 r168_57 rfl e20 rfl ?_
        cases h
        exact x_ret (ret := none) (C := True) (v := none) r168_60 rt168 rfl rfl rfl rfl rfl rfl rfl rfl trivial hQ
      · rcases am_ifE h with ⟨c21, h⟩ | ⟨c21, h⟩
        · refine am_topR (v := 47) (by rw [c21]) ?_
          refine x_sto (lc' := [.ref 23, .ref 1, .ref 47]) r168_40 rfl rfl rfl rfl ?_
          refine x_ld (v := .ref 47) r168_41 rfl rfl rfl ?_
          refine x_ifnull r168_42 rfl ?_
          refine x_ld (v := .ref 47) r168_45 rfl rfl rfl ?_
          refine x_ld (v := .ref 1) r168_46 rfl rfl rfl ?_
          obtain ⟨q22, h23, h⟩ := am_ltE h
          replace h23 := h23.symm
          refine x_call0 (as := [.ref 47, .ref 1]) (rest := []) r168_47 rfl rfl rfl (by decide) (Nat.le_of_ble_eq_true rfl) (m202_47_1_ok h23) (Nat.le_trans (by decide) hd) (Nat.zero_le _) (Nat.zero_le _) rfl ?_
          refine x_ld (v := .ref 23) r168_50 rfl rfl rfl ?_
          refine x_ar r168_51 rfl trivial rfl ?_
          refine y_gf (cd := 0) (v := .int (q22.1 23 2)) r168_52 rfl rfl rfl ?_
          refine x_ic (v := 1) r168_55 rfl rfl ?_
          refine x_ar r168_56 rfl trivial rfl ?_
          obtain ⟨D24, e25, h⟩ := am_ltE h
          refine y_pf0 r168_57 rfl e25 rfl ?_
          cases h
          exact x_ret (ret := none) (C := True) (v := none) r168_60 rt168 rfl rfl rfl rfl rfl rfl rfl rfl trivial hQ
        · rcases am_ifE h with ⟨c26, h⟩ | ⟨c26, h⟩
          · refine am_topR (v := 58) (by rw [c26]) ?_
            refine x_sto (lc' := [.ref 23, .ref 1, .ref 58]) r168_40 rfl rfl rfl rfl ?_
            refine x_ld (v := .ref 58) r168_41 rfl rfl rfl ?_
            refine x_ifnull r168_42 rfl ?_
            refine x_ld (v := .ref 58) r168_45 rfl rfl rfl ?_
            refine x_ld (v := .ref 1) r168_46 rfl rfl rfl ?_
            obtain ⟨q27, h28, h⟩ := am_ltE h
            replace h28 := h28.symm
            refine x_call0 (as := [.ref 58, .ref 1]) (rest := []) r168_47 rfl rfl rfl (by decide) (Nat.le_of_ble_eq_true rfl) (m202_58_1_ok h28) (Nat.le_trans (by decide) hd) (Nat.zero_le _) (Nat.zero_le _) rfl ?_
            refine x_ld (v := .ref 23) r168_50 rfl rfl rfl ?_
            refine x_ar r168_51 rfl trivial rfl ?_
            refine y_gf (cd := 0) (v := .int (q27.1 23 2)) r168_52 rfl rfl rfl ?_
            refine x_ic (v := 1) r168_55 rfl rfl ?_
            refine x_ar r168_56 rfl trivial rfl ?_
            obtain ⟨D29, e30, h⟩ := am_ltE h
            refine y_pf0 r168_57 rfl e30 rfl ?_
            cases h
            exact x_ret (ret := none) (C := True) (v := none) r168_60 rt168 rfl rfl rfl rfl rfl rfl rfl rfl trivial hQ
          · rcases am_ifE h with ⟨c31, h⟩ | ⟨c31, h⟩
            · refine am_topR (v := 69) (by rw [c31]) ?_
              refine x_sto (lc' := [.ref 23, .ref 1, .ref 69]) r168_40 rfl rfl rfl rfl ?_
              refine x_ld (v := .ref 69) r168_41 rfl rfl rfl ?_
              refine x_ifnull r168_42 rfl ?_
              refine x_ld (v := .ref 69) r168_45 rfl rfl rfl ?_
              refine x_ld (v := .ref 1) r168_46 rfl rfl rfl ?_
              obtain ⟨q32, h33, h⟩ := am_ltE h
              replace h33 := h33.symm
              refine x_call0 (as := [.ref 69, .ref 1]) (rest := []) r168_47 rfl rfl rfl (by decide) (Nat.le_of_ble_eq_true rfl) (m202_69_1_ok h33) (Nat.le_trans (by decide) hd) (Nat.zero_le _) (Nat.zero_le _) rfl ?_
              refine x_ld (v := .ref 23) r168_50 rfl rfl rfl ?_
              refine x_ar r168_51 rfl trivial rfl ?_
              refine y_gf (cd := 0) (v := .int (q32.1 23 2)) r168_52 rfl rfl rfl ?_
              refine x_ic (v := 1) r168_55 rfl rfl ?_
              refine x_ar r168_56 rfl trivial rfl ?_
              obtain ⟨D34, e35, h⟩ := am_ltE h
              refine y_pf0 r168_57 rfl e35 rfl ?_
              cases h
              exact x_ret (ret := none) (C := True) (v := none) r168_60 rt168 rfl rfl rfl rfl rfl rfl rfl rfl trivial hQ
            · rcases am_ifE h with ⟨c36, h⟩ | ⟨c36, h⟩
              · refine am_topR (v := 80) (by rw [c36]) ?_
                refine x_sto (lc' := [.ref 23, .ref 1, .ref 80]) r168_40 rfl rfl rfl rfl ?_
                refine x_ld (v := .ref 80) r168_41 rfl rfl rfl ?_
                refine x_ifnull r168_42 rfl ?_
                refine x_ld (v := .ref 80) r168_45 rfl rfl rfl ?_
                refine x_ld (v := .ref 1) r168_46 rfl rfl rfl ?_
                obtain ⟨q37, h38, h⟩ := am_ltE h
                replace h38 := h38.symm
                refine x_call0 (as := [.ref 80, .ref 1]) (rest := []) r168_47 rfl rfl rfl (by decide) (Nat.le_of_ble_eq_true rfl) (m202_80_1_ok h38) (Nat.le_trans (by decide) hd) (Nat.zero_le _) (Nat.zero_le _) rfl ?_
                refine x_ld (v := .ref 23) r168_50 rfl rfl rfl ?_
                refine x_ar r168_51 rfl trivial rfl ?_
                refine y_gf (cd := 0) (v := .int (q37.1 23 2)) r168_52 rfl rfl rfl ?_
                refine x_ic (v := 1) r168_55 rfl rfl ?_
                refine x_ar r168_56 rfl trivial rfl ?_
                obtain ⟨D39, e40, h⟩ := am_ltE h
                refine y_pf0 r168_57 rfl e40 rfl ?_
                cases h
                exact x_ret (ret := none) (C := True) (v := none) r168_60 rt168 rfl rfl rfl rfl rfl rfl rfl rfl trivial hQ
              · cases h
  rcases am_ifE h3 with ⟨c4, h3⟩ | ⟨c4, h3⟩
  · refine x_icltT r168_6 c4 ?_
    subst h3
    exact kj2
  · refine x_icltF r168_6 c4 rfl ?_
    refine x_ld (v := .ref 23) r168_9 rfl rfl rfl ?_
    refine x_ld (v := .ref 23) r168_10 rfl rfl rfl ?_
    refine y_gf (cd := 0) (v := .int (D.1 23 1)) r168_11 rfl rfl rfl ?_
    refine x_ic (v := 1) r168_14 rfl rfl ?_
    refine x_ar r168_15 rfl trivial rfl ?_
    refine x_bi (v := 6) r168_16 rfl rfl ?_
    refine x_ar r168_18 rfl (by decide) rfl ?_
    obtain ⟨D5, e6, h3⟩ := am_ltE h3
    refine y_pf0 r168_19 rfl e6 rfl ?_
    refine x_ld (v := .ref 23) r168_22 rfl rfl rfl ?_
    refine x_ar r168_23 rfl trivial rfl ?_
    refine y_gf (cd := 0) (v := .int (D5.1 23 2)) r168_24 rfl rfl rfl ?_
    refine x_ic (v := 1) r168_27 rfl rfl ?_
    refine x_ar r168_28 rfl trivial rfl ?_
    obtain ⟨D7, e8, h3⟩ := am_ltE h3
    refine y_pf0 r168_29 rfl e8 rfl ?_
    subst h3
    exact kj2
theorem m168_ok {D : am_D} {r : am_D} (h : m168 D = some r) : am_Y xs L 168 4 0 0 [.ref 23, .ref 1] D (.inl none) r := am_Yof (mi := am_m168) (lc := [.ref 23, .ref 1, am_dead]) pg168 (Nat.le_of_ble_eq_true rfl) (am_rc1 (ci := 1) rfl rfl rfl rfl rfl) rfl (fun Q hQ => m168_w (Nat.le_refl _) h hQ)
theorem m152_2_26_w {d mc ms : Nat} {D : am_D} {Q : am_O → am_AH → Prop} (hd : 2 ≤ d) {r : am_D} (h : m152_2_26 D = r) (hQ : Q (.inl none) (am_mk r)) : am_X xs L 152 d mc ms 0 [.ref 2, .ref 26] [] (am_mk D) 0 0 Q := by
  unfold m152_2_26 at h
  refine x_ld (v := .ref 26) r152_0 rfl rfl rfl ?_
  refine y_gf (cd := 29) (v := .ref 27) r152_1 rfl rfl rfl ?_
  refine x_ld (v := .ref 2) r152_4 rfl rfl rfl ?_
  refine y_gf (cd := 5) (v := .ref 3) r152_5 rfl rfl rfl ?_
  obtain ⟨D1, e2, h⟩ := am_ltE h
  refine x_call0 (as := [.ref 27, .ref 3]) (rest := []) r152_8 rfl rfl rfl (by decide) (Nat.le_of_ble_eq_true rfl) (am_rows_copy (n := 28) (m := 28) rfl rfl (by decide) (by decide) e2) (Nat.le_trans (by decide) hd) (Nat.zero_le _) (Nat.zero_le _) rfl ?_
  refine x_ld (v := .ref 26) r152_11 rfl rfl rfl ?_
  refine y_gf (cd := 30) (v := .ref 28) r152_12 rfl rfl rfl ?_
  refine x_ld (v := .ref 2) r152_15 rfl rfl rfl ?_
  refine y_gf (cd := 6) (v := .ref 4) r152_16 rfl rfl rfl ?_
  obtain ⟨D3, e4, h⟩ := am_ltE h
  refine x_call0 (as := [.ref 28, .ref 4]) (rest := []) r152_19 rfl rfl rfl (by decide) (Nat.le_of_ble_eq_true rfl) (am_rows_copy (n := 28) (m := 28) rfl rfl (by decide) (by decide) e4) (Nat.le_trans (by decide) hd) (Nat.zero_le _) (Nat.zero_le _) rfl ?_
  refine x_ld (v := .ref 26) r152_22 rfl rfl rfl ?_
  refine y_gf (cd := 31) (v := .ref 29) r152_23 rfl rfl rfl ?_
  refine x_ld (v := .ref 2) r152_26 rfl rfl rfl ?_
  refine y_gf (cd := 7) (v := .ref 5) r152_27 rfl rfl rfl ?_
  obtain ⟨D5, e6, h⟩ := am_ltE h
  refine x_call0 (as := [.ref 29, .ref 5]) (rest := []) r152_30 rfl rfl rfl (by decide) (Nat.le_of_ble_eq_true rfl) (am_rows_copy (n := 28) (m := 28) rfl rfl (by decide) (by decide) e6) (Nat.le_trans (by decide) hd) (Nat.zero_le _) (Nat.zero_le _) rfl ?_
  refine x_ld (v := .ref 26) r152_33 rfl rfl rfl ?_
  refine y_gf (cd := 32) (v := .ref 30) r152_34 rfl rfl rfl ?_
  refine x_ld (v := .ref 2) r152_37 rfl rfl rfl ?_
  refine y_gf (cd := 8) (v := .ref 6) r152_38 rfl rfl rfl ?_
  obtain ⟨D7, e8, h⟩ := am_ltE h
  refine x_call0 (as := [.ref 30, .ref 6]) (rest := []) r152_41 rfl rfl rfl (by decide) (Nat.le_of_ble_eq_true rfl) (am_rows_copy (n := 28) (m := 28) rfl rfl (by decide) (by decide) e8) (Nat.le_trans (by decide) hd) (Nat.zero_le _) (Nat.zero_le _) rfl ?_
  refine x_ld (v := .ref 2) r152_44 rfl rfl rfl ?_
  refine x_ld (v := .ref 26) r152_45 rfl rfl rfl ?_
  refine y_gf (cd := 0) (v := .int (D7.1 26 4)) r152_46 rfl rfl rfl ?_
  obtain ⟨D9, e10, h⟩ := am_ltE h
  refine y_pf0 r152_49 rfl e10 rfl ?_
  refine x_ld (v := .ref 2) r152_52 rfl rfl rfl ?_
  refine x_ld (v := .ref 26) r152_53 rfl rfl rfl ?_
  refine y_gf (cd := 0) (v := .int (D9.1 26 5)) r152_54 rfl rfl rfl ?_
  obtain ⟨D11, e12, h⟩ := am_ltE h
  refine y_pf0 r152_57 rfl e12 rfl ?_
  refine x_ld (v := .ref 2) r152_60 rfl rfl rfl ?_
  refine x_ld (v := .ref 26) r152_61 rfl rfl rfl ?_
  refine y_gf (cd := 0) (v := .int (D11.1 26 6)) r152_62 rfl rfl rfl ?_
  obtain ⟨D13, e14, h⟩ := am_ltE h
  refine y_pf0 r152_65 rfl e14 rfl ?_
  subst h
  exact x_ret (ret := none) (C := True) (v := none) r152_68 rt152 rfl rfl rfl rfl rfl rfl rfl rfl trivial hQ
theorem m152_2_26_ok {D : am_D} {r : am_D} (h : m152_2_26 D = r) : am_Y xs L 152 2 0 0 [.ref 2, .ref 26] D (.inl none) r := am_Yof (mi := am_m152) (lc := [.ref 2, .ref 26]) pg152 (Nat.le_of_ble_eq_true rfl) (am_rc1 (ci := 0) rfl rfl rfl rfl rfl) rfl (fun Q hQ => m152_2_26_w (Nat.le_refl _) h hQ)
end XE
