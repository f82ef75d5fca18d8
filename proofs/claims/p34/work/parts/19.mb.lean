/-! walks (by wip/p34/tools/decomp.py): 169 169 169 169 169 169 169 169 169 169 169 169 177 185 186 187 190 194 195 198 203 204 207 210 212 213 215 -/
section XE
variable {xs : Nat → Int32} {L : Nat}
theorem m202_1_25_w {d mc ms : Nat} {D : am_D} {Q : am_O → am_AH → Prop} (hd : 3 ≤ d) {r : am_D} (h : m202_1_25 D = r) (hQ : Q (.inl none) (am_mk r)) : am_X xs L 202 d mc ms 0 [.ref 1, .ref 25] [] (am_mk D) 0 0 Q := by
  unfold m202_1_25 at h
  refine x_ld (v := .ref 1) r202_0 rfl rfl rfl ?_
  refine y_gf (cd := 4) (v := .ref 2) r202_1 rfl rfl rfl ?_
  refine x_ld (v := .ref 25) r202_4 rfl rfl rfl ?_
  refine y_gf (cd := 28) (v := .ref 26) r202_5 rfl rfl rfl ?_
  obtain ⟨q1, h2, h⟩ := am_ltE h
  replace h2 := h2.symm
  refine x_call0 (as := [.ref 2, .ref 26]) (rest := []) r202_8 rfl rfl rfl (by decide) (Nat.le_of_ble_eq_true rfl) (m152_2_26_ok h2) (Nat.le_trans (by decide) hd) (Nat.zero_le _) (Nat.zero_le _) rfl ?_
  refine x_ld (v := .ref 25) r202_11 rfl rfl rfl ?_
  refine y_gf (cd := 33) (v := .ref 31) r202_12 rfl rfl rfl ?_
  refine x_ld (v := .ref 1) r202_15 rfl rfl rfl ?_
  refine y_gf (cd := 9) (v := .ref 7) r202_16 rfl rfl rfl ?_
  obtain ⟨D3, e4, h⟩ := am_ltE h
  refine x_call0 (as := [.ref 31, .ref 7]) (rest := []) r202_19 rfl rfl rfl (by decide) (Nat.le_of_ble_eq_true rfl) (am_rows_copy (n := 28) (m := 28) rfl rfl (by decide) (by decide) e4) (Nat.le_trans (by decide) hd) (Nat.zero_le _) (Nat.zero_le _) rfl ?_
  refine x_ld (v := .ref 25) r202_22 rfl rfl rfl ?_
  refine y_gf (cd := 34) (v := .ref 32) r202_23 rfl rfl rfl ?_
  refine x_ld (v := .ref 1) r202_26 rfl rfl rfl ?_
  refine y_gf (cd := 10) (v := .ref 8) r202_27 rfl rfl rfl ?_
  obtain ⟨D5, e6, h⟩ := am_ltE h
  refine x_call0 (as := [.ref 32, .ref 8]) (rest := []) r202_30 rfl rfl rfl (by decide) (Nat.le_of_ble_eq_true rfl) (am_rows_copy (n := 4) (m := 4) rfl rfl (by decide) (by decide) e6) (Nat.le_trans (by decide) hd) (Nat.zero_le _) (Nat.zero_le _) rfl ?_
  refine x_ld (v := .ref 25) r202_33 rfl rfl rfl ?_
  refine y_gf (cd := 35) (v := .ref 33) r202_34 rfl rfl rfl ?_
  refine x_ld (v := .ref 1) r202_37 rfl rfl rfl ?_
  refine y_gf (cd := 11) (v := .ref 9) r202_38 rfl rfl rfl ?_
  obtain ⟨D7, e8, h⟩ := am_ltE h
  refine x_call0 (as := [.ref 33, .ref 9]) (rest := []) r202_41 rfl rfl rfl (by decide) (Nat.le_of_ble_eq_true rfl) (am_rows_copy (n := 4) (m := 4) rfl rfl (by decide) (by decide) e8) (Nat.le_trans (by decide) hd) (Nat.zero_le _) (Nat.zero_le _) rfl ?_
  refine x_ld (v := .ref 25) r202_44 rfl rfl rfl ?_
  refine y_gf (cd := 36) (v := .ref 34) r202_45 rfl rfl rfl ?_
  refine x_ld (v := .ref 1) r202_48 rfl rfl rfl ?_
  refine y_gf (cd := 12) (v := .ref 10) r202_49 rfl rfl rfl ?_
  obtain ⟨D9, e10, h⟩ := am_ltE h
  refine x_call0 (as := [.ref 34, .ref 10]) (rest := []) r202_52 rfl rfl rfl (by decide) (Nat.le_of_ble_eq_true rfl) (am_rows_copy (n := 4) (m := 4) rfl rfl (by decide) (by decide) e10) (Nat.le_trans (by decide) hd) (Nat.zero_le _) (Nat.zero_le _) rfl ?_
  refine x_ld (v := .ref 25) r202_55 rfl rfl rfl ?_
  refine y_gf (cd := 37) (v := .ref 35) r202_56 rfl rfl rfl ?_
  refine x_ld (v := .ref 1) r202_59 rfl rfl rfl ?_
  refine y_gf (cd := 13) (v := .ref 11) r202_60 rfl rfl rfl ?_
  obtain ⟨D11, e12, h⟩ := am_ltE h
  refine x_call0 (as := [.ref 35, .ref 11]) (rest := []) r202_63 rfl rfl rfl (by decide) (Nat.le_of_ble_eq_true rfl) (am_rows_copy (n := 2) (m := 2) rfl rfl (by decide) (by decide) e12) (Nat.le_trans (by decide) hd) (Nat.zero_le _) (Nat.zero_le _) rfl ?_
  refine x_ld (v := .ref 1) r202_66 rfl rfl rfl ?_
  refine x_ld (v := .ref 25) r202_67 rfl rfl rfl ?_
  refine y_gf (cd := 0) (v := .int (D11.1 25 6)) r202_68 rfl rfl rfl ?_
  obtain ⟨D13, e14, h⟩ := am_ltE h
  refine y_pf0 r202_71 rfl e14 rfl ?_
  refine x_ld (v := .ref 1) r202_74 rfl rfl rfl ?_
  refine x_ld (v := .ref 25) r202_75 rfl rfl rfl ?_
  refine y_gf (cd := 0) (v := .int (D13.1 25 7)) r202_76 rfl rfl rfl ?_
  obtain ⟨D15, e16, h⟩ := am_ltE h
  refine y_pf0 r202_79 rfl e16 rfl ?_
  refine x_ld (v := .ref 1) r202_82 rfl rfl rfl ?_
  refine x_ld (v := .ref 25) r202_83 rfl rfl rfl ?_
  refine y_gf (cd := 0) (v := .int (D15.1 25 8)) r202_84 rfl rfl rfl ?_
  obtain ⟨D17, e18, h⟩ := am_ltE h
  refine y_pf0 r202_87 rfl e18 rfl ?_
  refine x_ld (v := .ref 1) r202_90 rfl rfl rfl ?_
  refine x_ld (v := .ref 25) r202_91 rfl rfl rfl ?_
  refine y_gf (cd := 0) (v := .int (D17.1 25 9)) r202_92 rfl rfl rfl ?_
  obtain ⟨D19, e20, h⟩ := am_ltE h
  refine y_pf0 r202_95 rfl e20 rfl ?_
  refine x_ld (v := .ref 1) r202_98 rfl rfl rfl ?_
  refine x_ld (v := .ref 25) r202_99 rfl rfl rfl ?_
  refine y_gf (cd := 0) (v := .int (D19.1 25 10)) r202_100 rfl rfl rfl ?_
  obtain ⟨D21, e22, h⟩ := am_ltE h
  refine y_pf0 r202_103 rfl e22 rfl ?_
  refine x_ld (v := .ref 1) r202_106 rfl rfl rfl ?_
  refine x_ld (v := .ref 25) r202_107 rfl rfl rfl ?_
  refine y_gf (cd := 0) (v := .int (D21.1 25 11)) r202_108 rfl rfl rfl ?_
  obtain ⟨D23, e24, h⟩ := am_ltE h
  refine y_pf0 r202_111 rfl e24 rfl ?_
  refine x_ld (v := .ref 1) r202_114 rfl rfl rfl ?_
  refine x_ld (v := .ref 25) r202_115 rfl rfl rfl ?_
  refine y_gf (cd := 0) (v := .int (D23.1 25 12)) r202_116 rfl rfl rfl ?_
  obtain ⟨D25, e26, h⟩ := am_ltE h
  refine y_pf0 r202_119 rfl e26 rfl ?_
  refine x_ld (v := .ref 1) r202_122 rfl rfl rfl ?_
  refine x_ld (v := .ref 25) r202_123 rfl rfl rfl ?_
  refine y_gf (cd := 0) (v := .int (D25.1 25 13)) r202_124 rfl rfl rfl ?_
  obtain ⟨D27, e28, h⟩ := am_ltE h
  refine y_pf0 r202_127 rfl e28 rfl ?_
  refine x_ld (v := .ref 1) r202_130 rfl rfl rfl ?_
  refine x_ld (v := .ref 25) r202_131 rfl rfl rfl ?_
  refine y_gf (cd := 0) (v := .int (D27.1 25 14)) r202_132 rfl rfl rfl ?_
  obtain ⟨D29, e30, h⟩ := am_ltE h
  refine y_pf0 r202_135 rfl e30 rfl ?_
  refine x_ld (v := .ref 1) r202_138 rfl rfl rfl ?_
  refine x_ld (v := .ref 25) r202_139 rfl rfl rfl ?_
  refine y_gf (cd := 0) (v := .int (D29.1 25 15)) r202_140 rfl rfl rfl ?_
  obtain ⟨D31, e32, h⟩ := am_ltE h
  refine y_pf0 r202_143 rfl e32 rfl ?_
  subst h
  exact x_ret (ret := none) (C := True) (v := none) r202_146 rt202 rfl rfl rfl rfl rfl rfl rfl rfl trivial hQ
theorem m202_1_25_ok {D : am_D} {r : am_D} (h : m202_1_25 D = r) : am_Y xs L 202 3 0 0 [.ref 1, .ref 25] D (.inl none) r := am_Yof (mi := am_m202) (lc := [.ref 1, .ref 25]) pg202 (Nat.le_of_ble_eq_true rfl) (am_rc1 (ci := 4) rfl rfl rfl rfl rfl) rfl (fun Q hQ => m202_1_25_w (Nat.le_refl _) h hQ)
theorem m152_2_37_w {d mc ms : Nat} {D : am_D} {Q : am_O → am_AH → Prop} (hd : 2 ≤ d) {r : am_D} (h : m152_2_37 D = r) (hQ : Q (.inl none) (am_mk r)) : am_X xs L 152 d mc ms 0 [.ref 2, .ref 37] [] (am_mk D) 0 0 Q := by
  unfold m152_2_37 at h
  refine x_ld (v := .ref 37) r152_0 rfl rfl rfl ?_
  refine y_gf (cd := 40) (v := .ref 38) r152_1 rfl rfl rfl ?_
  refine x_ld (v := .ref 2) r152_4 rfl rfl rfl ?_
  refine y_gf (cd := 5) (v := .ref 3) r152_5 rfl rfl rfl ?_
  obtain ⟨D1, e2, h⟩ := am_ltE h
  refine x_call0 (as := [.ref 38, .ref 3]) (rest := []) r152_8 rfl rfl rfl (by decide) (Nat.le_of_ble_eq_true rfl) (am_rows_copy (n := 28) (m := 28) rfl rfl (by decide) (by decide) e2) (Nat.le_trans (by decide) hd) (Nat.zero_le _) (Nat.zero_le _) rfl ?_
  refine x_ld (v := .ref 37) r152_11 rfl rfl rfl ?_
  refine y_gf (cd := 41) (v := .ref 39) r152_12 rfl rfl rfl ?_
  refine x_ld (v := .ref 2) r152_15 rfl rfl rfl ?_
  refine y_gf (cd := 6) (v := .ref 4) r152_16 rfl rfl rfl ?_
  obtain ⟨D3, e4, h⟩ := am_ltE h
  refine x_call0 (as := [.ref 39, .ref 4]) (rest := []) r152_19 rfl rfl rfl (by decide) (Nat.le_of_ble_eq_true rfl) (am_rows_copy (n := 28) (m := 28) rfl rfl (by decide) (by decide) e4) (Nat.le_trans (by decide) hd) (Nat.zero_le _) (Nat.zero_le _) rfl ?_
  refine x_ld (v := .ref 37) r152_22 rfl rfl rfl ?_
  refine y_gf (cd := 42) (v := .ref 40) r152_23 rfl rfl rfl ?_
  refine x_ld (v := .ref 2) r152_26 rfl rfl rfl ?_
  refine y_gf (cd := 7) (v := .ref 5) r152_27 rfl rfl rfl ?_
  obtain ⟨D5, e6, h⟩ := am_ltE h
  refine x_call0 (as := [.ref 40, .ref 5]) (rest := []) r152_30 rfl rfl rfl (by decide) (Nat.le_of_ble_eq_true rfl) (am_rows_copy (n := 28) (m := 28) rfl rfl (by decide) (by decide) e6) (Nat.le_trans (by decide) hd) (Nat.zero_le _) (Nat.zero_le _) rfl ?_
  refine x_ld (v := .ref 37) r152_33 rfl rfl rfl ?_
  refine y_gf (cd := 43) (v := .ref 41) r152_34 rfl rfl rfl ?_
  refine x_ld (v := .ref 2) r152_37 rfl rfl rfl ?_
  refine y_gf (cd := 8) (v := .ref 6) r152_38 rfl rfl rfl ?_
  obtain ⟨D7, e8, h⟩ := am_ltE h
  refine x_call0 (as := [.ref 41, .ref 6]) (rest := []) r152_41 rfl rfl rfl (by decide) (Nat.le_of_ble_eq_true rfl) (am_rows_copy (n := 28) (m := 28) rfl rfl (by decide) (by decide) e8) (Nat.le_trans (by decide) hd) (Nat.zero_le _) (Nat.zero_le _) rfl ?_
  refine x_ld (v := .ref 2) r152_44 rfl rfl rfl ?_
  refine x_ld (v := .ref 37) r152_45 rfl rfl rfl ?_
  refine y_gf (cd := 0) (v := .int (D7.1 37 4)) r152_46 rfl rfl rfl ?_
  obtain ⟨D9, e10, h⟩ := am_ltE h
  refine y_pf0 r152_49 rfl e10 rfl ?_
  refine x_ld (v := .ref 2) r152_52 rfl rfl rfl ?_
  refine x_ld (v := .ref 37) r152_53 rfl rfl rfl ?_
  refine y_gf (cd := 0) (v := .int (D9.1 37 5)) r152_54 rfl rfl rfl ?_
  obtain ⟨D11, e12, h⟩ := am_ltE h
  refine y_pf0 r152_57 rfl e12 rfl ?_
  refine x_ld (v := .ref 2) r152_60 rfl rfl rfl ?_
  refine x_ld (v := .ref 37) r152_61 rfl rfl rfl ?_
  refine y_gf (cd := 0) (v := .int (D11.1 37 6)) r152_62 rfl rfl rfl ?_
  obtain ⟨D13, e14, h⟩ := am_ltE h
  refine y_pf0 r152_65 rfl e14 rfl ?_
  subst h
  exact x_ret (ret := none) (C := True) (v := none) r152_68 rt152 rfl rfl rfl rfl rfl rfl rfl rfl trivial hQ
theorem m152_2_37_ok {D : am_D} {r : am_D} (h : m152_2_37 D = r) : am_Y xs L 152 2 0 0 [.ref 2, .ref 37] D (.inl none) r := am_Yof (mi := am_m152) (lc := [.ref 2, .ref 37]) pg152 (Nat.le_of_ble_eq_true rfl) (am_rc1 (ci := 0) rfl rfl rfl rfl rfl) rfl (fun Q hQ => m152_2_37_w (Nat.le_refl _) h hQ)
theorem m202_1_36_w {d mc ms : Nat} {D : am_D} {Q : am_O → am_AH → Prop} (hd : 3 ≤ d) {r : am_D} (h : m202_1_36 D = r) (hQ : Q (.inl none) (am_mk r)) : am_X xs L 202 d mc ms 0 [.ref 1, .ref 36] [] (am_mk D) 0 0 Q := by
  unfold m202_1_36 at h
  refine x_ld (v := .ref 1) r202_0 rfl rfl rfl ?_
  refine y_gf (cd := 4) (v := .ref 2) r202_1 rfl rfl rfl ?_
  refine x_ld (v := .ref 36) r202_4 rfl rfl rfl ?_
  refine y_gf (cd := 39) (v := .ref 37) r202_5 rfl rfl rfl ?_
  obtain ⟨q1, h2, h⟩ := am_ltE h
  replace h2 := h2.symm
  refine x_call0 (as := [.ref 2, .ref 37]) (rest := []) r202_8 rfl rfl rfl (by decide) (Nat.le_of_ble_eq_true rfl) (m152_2_37_ok h2) (Nat.le_trans (by decide) hd) (Nat.zero_le _) (Nat.zero_le _) rfl ?_
  refine x_ld (v := .ref 36) r202_11 rfl rfl rfl ?_
  refine y_gf (cd := 44) (v := .ref 42) r202_12 rfl rfl rfl ?_
  refine x_ld (v := .ref 1) r202_15 rfl rfl rfl ?_
  refine y_gf (cd := 9) (v := .ref 7) r202_16 rfl rfl rfl ?_
  obtain ⟨D3, e4, h⟩ := am_ltE h
  refine x_call0 (as := [.ref 42, .ref 7]) (rest := []) r202_19 rfl rfl rfl (by decide) (Nat.le_of_ble_eq_true rfl) (am_rows_copy (n := 28) (m := 28) rfl rfl (by decide) (by decide) e4) (Nat.le_trans (by decide) hd) (Nat.zero_le _) (Nat.zero_le _) rfl ?_
  refine x_ld (v := .ref 36) r202_22 rfl rfl rfl ?_
  refine y_gf (cd := 45) (v := .ref 43) r202_23 rfl rfl rfl ?_
  refine x_ld (v := .ref 1) r202_26 rfl rfl rfl ?_
  refine y_gf (cd := 10) (v := .ref 8) r202_27 rfl rfl rfl ?_
  obtain ⟨D5, e6, h⟩ := am_ltE h
  refine x_call0 (as := [.ref 43, .ref 8]) (rest := []) r202_30 rfl rfl rfl (by decide) (Nat.le_of_ble_eq_true rfl) (am_rows_copy (n := 4) (m := 4) rfl rfl (by decide) (by decide) e6) (Nat.le_trans (by decide) hd) (Nat.zero_le _) (Nat.zero_le _) rfl ?_
  refine x_ld (v := .ref 36) r202_33 rfl rfl rfl ?_
  refine y_gf (cd := 46) (v := .ref 44) r202_34 rfl rfl rfl ?_
  refine x_ld (v := .ref 1) r202_37 rfl rfl rfl ?_
  refine y_gf (cd := 11) (v := .ref 9) r202_38 rfl rfl rfl ?_
  obtain ⟨D7, e8, h⟩ := am_ltE h
  refine x_call0 (as := [.ref 44, .ref 9]) (rest := []) r202_41 rfl rfl rfl (by decide) (Nat.le_of_ble_eq_true rfl) (am_rows_copy (n := 4) (m := 4) rfl rfl (by decide) (by decide) e8) (Nat.le_trans (by decide) hd) (Nat.zero_le _) (Nat.zero_le _) rfl ?_
  refine x_ld (v := .ref 36) r202_44 rfl rfl rfl ?_
  refine y_gf (cd := 47) (v := .ref 45) r202_45 rfl rfl rfl ?_
  refine x_ld (v := .ref 1) r202_48 rfl rfl rfl ?_
  refine y_gf (cd := 12) (v := .ref 10) r202_49 rfl rfl rfl ?_
  obtain ⟨D9, e10, h⟩ := am_ltE h
  refine x_call0 (as := [.ref 45, .ref 10]) (rest := []) r202_52 rfl rfl rfl (by decide) (Nat.le_of_ble_eq_true rfl) (am_rows_copy (n := 4) (m := 4) rfl rfl (by decide) (by decide) e10) (Nat.le_trans (by decide) hd) (Nat.zero_le _) (Nat.zero_le _) rfl ?_
  refine x_ld (v := .ref 36) r202_55 rfl rfl rfl ?_
  refine y_gf (cd := 48) (v := .ref 46) r202_56 rfl rfl rfl ?_
  refine x_ld (v := .ref 1) r202_59 rfl rfl rfl ?_
  refine y_gf (cd := 13) (v := .ref 11) r202_60 rfl rfl rfl ?_
  obtain ⟨D11, e12, h⟩ := am_ltE h
  refine x_call0 (as := [.ref 46, .ref 11]) (rest := []) r202_63 rfl rfl rfl (by decide) (Nat.le_of_ble_eq_true rfl) (am_rows_copy (n := 2) (m := 2) rfl rfl (by decide) (by decide) e12) (Nat.le_trans (by decide) hd) (Nat.zero_le _) (Nat.zero_le _) rfl ?_
  refine x_ld (v := .ref 1) r202_66 rfl rfl rfl ?_
  refine x_ld (v := .ref 36) r202_67 rfl rfl rfl ?_
  refine y_gf (cd := 0) (v := .int (D11.1 36 6)) r202_68 rfl rfl rfl ?_
  obtain ⟨D13, e14, h⟩ := am_ltE h
  refine y_pf0 r202_71 rfl e14 rfl ?_
  refine x_ld (v := .ref 1) r202_74 rfl rfl rfl ?_
  refine x_ld (v := .ref 36) r202_75 rfl rfl rfl ?_
  refine y_gf (cd := 0) (v := .int (D13.1 36 7)) r202_76 rfl rfl rfl ?_
  obtain ⟨D15, e16, h⟩ := am_ltE h
  refine y_pf0 r202_79 rfl e16 rfl ?_
  refine x_ld (v := .ref 1) r202_82 rfl rfl rfl ?_
  refine x_ld (v := .ref 36) r202_83 rfl rfl rfl ?_
  refine y_gf (cd := 0) (v := .int (D15.1 36 8)) r202_84 rfl rfl rfl ?_
  obtain ⟨D17, e18, h⟩ := am_ltE h
  refine y_pf0 r202_87 rfl e18 rfl ?_
  refine x_ld (v := .ref 1) r202_90 rfl rfl rfl ?_
  refine x_ld (v := .ref 36) r202_91 rfl rfl rfl ?_
  refine y_gf (cd := 0) (v := .int (D17.1 36 9)) r202_92 rfl rfl rfl ?_
  obtain ⟨D19, e20, h⟩ := am_ltE h
  refine y_pf0 r202_95 rfl e20 rfl ?_
  refine x_ld (v := .ref 1) r202_98 rfl rfl rfl ?_
  refine x_ld (v := .ref 36) r202_99 rfl rfl rfl ?_
  refine y_gf (cd := 0) (v := .int (D19.1 36 10)) r202_100 rfl rfl rfl ?_
  obtain ⟨D21, e22, h⟩ := am_ltE h
  refine y_pf0 r202_103 rfl e22 rfl ?_
  refine x_ld (v := .ref 1) r202_106 rfl rfl rfl ?_
  refine x_ld (v := .ref 36) r202_107 rfl rfl rfl ?_
  refine y_gf (cd := 0) (v := .int (D21.1 36 11)) r202_108 rfl rfl rfl ?_
  obtain ⟨D23, e24, h⟩ := am_ltE h
  refine y_pf0 r202_111 rfl e24 rfl ?_
  refine x_ld (v := .ref 1) r202_114 rfl rfl rfl ?_
  refine x_ld (v := .ref 36) r202_115 rfl rfl rfl ?_
  refine y_gf (cd := 0) (v := .int (D23.1 36 12)) r202_116 rfl rfl rfl ?_
  obtain ⟨D25, e26, h⟩ := am_ltE h
  refine y_pf0 r202_119 rfl e26 rfl ?_
  refine x_ld (v := .ref 1) r202_122 rfl rfl rfl ?_
  refine x_ld (v := .ref 36) r202_123 rfl rfl rfl ?_
  refine y_gf (cd := 0) (v := .int (D25.1 36 13)) r202_124 rfl rfl rfl ?_
  obtain ⟨D27, e28, h⟩ := am_ltE h
  refine y_pf0 r202_127 rfl e28 rfl ?_
  refine x_ld (v := .ref 1) r202_130 rfl rfl rfl ?_
  refine x_ld (v := .ref 36) r202_131 rfl rfl rfl ?_
  refine y_gf (cd := 0) (v := .int (D27.1 36 14)) r202_132 rfl rfl rfl ?_
  obtain ⟨D29, e30, h⟩ := am_ltE h
  refine y_pf0 r202_135 rfl e30 rfl ?_
  refine x_ld (v := .ref 1) r202_138 rfl rfl rfl ?_
  refine x_ld (v := .ref 36) r202_139 rfl rfl rfl ?_
  refine y_gf (cd := 0) (v := .int (D29.1 36 15)) r202_140 rfl rfl rfl ?_
  obtain ⟨D31, e32, h⟩ := am_ltE h
  refine y_pf0 r202_143 rfl e32 rfl ?_
  subst h
  exact x_ret (ret := none) (C := True) (v := none) r202_146 rt202 rfl rfl rfl rfl rfl rfl rfl rfl trivial hQ
theorem m202_1_36_ok {D : am_D} {r : am_D} (h : m202_1_36 D = r) : am_Y xs L 202 3 0 0 [.ref 1, .ref 36] D (.inl none) r := am_Yof (mi := am_m202) (lc := [.ref 1, .ref 36]) pg202 (Nat.le_of_ble_eq_true rfl) (am_rc1 (ci := 4) rfl rfl rfl rfl rfl) rfl (fun Q hQ => m202_1_36_w (Nat.le_refl _) h hQ)
theorem m152_2_48_w {d mc ms : Nat} {D : am_D} {Q : am_O → am_AH → Prop} (hd : 2 ≤ d) {r : am_D} (h : m152_2_48 D = r) (hQ : Q (.inl none) (am_mk r)) : am_X xs L 152 d mc ms 0 [.ref 2, .ref 48] [] (am_mk D) 0 0 Q := by
  unfold m152_2_48 at h
  refine x_ld (v := .ref 48) r152_0 rfl rfl rfl ?_
  refine y_gf (cd := 51) (v := .ref 49) r152_1 rfl rfl rfl ?_
  refine x_ld (v := .ref 2) r152_4 rfl rfl rfl ?_
  refine y_gf (cd := 5) (v := .ref 3) r152_5 rfl rfl rfl ?_
  obtain ⟨D1, e2, h⟩ := am_ltE h
  refine x_call0 (as := [.ref 49, .ref 3]) (rest := []) r152_8 rfl rfl rfl (by decide) (Nat.le_of_ble_eq_true rfl) (am_rows_copy (n := 28) (m := 28) rfl rfl (by decide) (by decide) e2) (Nat.le_trans (by decide) hd) (Nat.zero_le _) (Nat.zero_le _) rfl ?_
  refine x_ld (v := .ref 48) r152_11 rfl rfl rfl ?_
  refine y_gf (cd := 52) (v := .ref 50) r152_12 rfl rfl rfl ?_
  refine x_ld (v := .ref 2) r152_15 rfl rfl rfl ?_
  refine y_gf (cd := 6) (v := .ref 4) r152_16 rfl rfl rfl ?_
  obtain ⟨D3, e4, h⟩ := am_ltE h
  refine x_call0 (as := [.ref 50, .ref 4]) (rest := []) r152_19 rfl rfl rfl (by decide) (Nat.le_of_ble_eq_true rfl) (am_rows_copy (n := 28) (m := 28) rfl rfl (by decide) (by decide) e4) (Nat.le_trans (by decide) hd) (Nat.zero_le _) (Nat.zero_le _) rfl ?_
  refine x_ld (v := .ref 48) r152_22 rfl rfl rfl ?_
  refine y_gf (cd := 53) (v := .ref 51) r152_23 rfl rfl rfl ?_
  refine x_ld (v := .ref 2) r152_26 rfl rfl rfl ?_
  refine y_gf (cd := 7) (v := .ref 5) r152_27 rfl rfl rfl ?_
  obtain ⟨D5, e6, h⟩ := am_ltE h
  refine x_call0 (as := [.ref 51, .ref 5]) (rest := []) r152_30 rfl rfl rfl (by decide) (Nat.le_of_ble_eq_true rfl) (am_rows_copy (n := 28) (m := 28) rfl rfl (by decide) (by decide) e6) (Nat.le_trans (by decide) hd) (Nat.zero_le _) (Nat.zero_le _) rfl ?_
  refine x_ld (v := .ref 48) r152_33 rfl rfl rfl ?_
  refine y_gf (cd := 54) (v := .ref 52) r152_34 rfl rfl rfl ?_
  refine x_ld (v := .ref 2) r152_37 rfl rfl rfl ?_
  refine y_gf (cd := 8) (v := .ref 6) r152_38 rfl rfl rfl ?_
  obtain ⟨D7, e8, h⟩ := am_ltE h
  refine x_call0 (as := [.ref 52, .ref 6]) (rest := []) r152_41 rfl rfl rfl (by decide) (Nat.le_of_ble_eq_true rfl) (am_rows_copy (n := 28) (m := 28) rfl rfl (by decide) (by decide) e8) (Nat.le_trans (by decide) hd) (Nat.zero_le _) (Nat.zero_le _) rfl ?_
  refine x_ld (v := .ref 2) r152_44 rfl rfl rfl ?_
  refine x_ld (v := .ref 48) r152_45 rfl rfl rfl ?_
  refine y_gf (cd := 0) (v := .int (D7.1 48 4)) r152_46 rfl rfl rfl ?_
  obtain ⟨D9, e10, h⟩ := am_ltE h
  refine y_pf0 r152_49 rfl e10 rfl ?_
  refine x_ld (v := .ref 2) r152_52 rfl rfl rfl ?_
  refine x_ld (v := .ref 48) r152_53 rfl rfl rfl ?_
  refine y_gf (cd := 0) (v := .int (D9.1 48 5)) r152_54 rfl rfl rfl ?_
  obtain ⟨D11, e12, h⟩ := am_ltE h
  refine y_pf0 r152_57 rfl e12 rfl ?_
  refine x_ld (v := .ref 2) r152_60 rfl rfl rfl ?_
  refine x_ld (v := .ref 48) r152_61 rfl rfl rfl ?_
  refine y_gf (cd := 0) (v := .int (D11.1 48 6)) r152_62 rfl rfl rfl ?_
  obtain ⟨D13, e14, h⟩ := am_ltE h
  refine y_pf0 r152_65 rfl e14 rfl ?_
  subst h
  exact x_ret (ret := none) (C := True) (v := none) r152_68 rt152 rfl rfl rfl rfl rfl rfl rfl rfl trivial hQ
theorem m152_2_48_ok {D : am_D} {r : am_D} (h : m152_2_48 D = r) : am_Y xs L 152 2 0 0 [.ref 2, .ref 48] D (.inl none) r := am_Yof (mi := am_m152) (lc := [.ref 2, .ref 48]) pg152 (Nat.le_of_ble_eq_true rfl) (am_rc1 (ci := 0) rfl rfl rfl rfl rfl) rfl (fun Q hQ => m152_2_48_w (Nat.le_refl _) h hQ)
theorem m202_1_47_w {d mc ms : Nat} {D : am_D} {Q : am_O → am_AH → Prop} (hd : 3 ≤ d) {r : am_D} (h : m202_1_47 D = r) (hQ : Q (.inl none) (am_mk r)) : am_X xs L 202 d mc ms 0 [.ref 1, .ref 47] [] (am_mk D) 0 0 Q := by
  unfold m202_1_47 at h
  refine x_ld (v := .ref 1) r202_0 rfl rfl rfl ?_
  refine y_gf (cd := 4) (v := .ref 2) r202_1 rfl rfl rfl ?_
  refine x_ld (v := .ref 47) r202_4 rfl rfl rfl ?_
  refine y_gf (cd := 50) (v := .ref 48) r202_5 rfl rfl rfl ?_
  obtain ⟨q1, h2, h⟩ := am_ltE h
  replace h2 := h2.symm
  refine x_call0 (as := [.ref 2, .ref 48]) (rest := []) r202_8 rfl rfl rfl (by decide) (Nat.le_of_ble_eq_true rfl) (m152_2_48_ok h2) (Nat.le_trans (by decide) hd) (Nat.zero_le _) (Nat.zero_le _) rfl ?_
  refine x_ld (v := .ref 47) r202_11 rfl rfl rfl ?_
  refine y_gf (cd := 55) (v := .ref 53) r202_12 rfl rfl rfl ?_
  refine x_ld (v := .ref 1) r202_15 rfl rfl rfl ?_
  refine y_gf (cd := 9) (v := .ref 7) r202_16 rfl rfl rfl ?_
  obtain ⟨D3, e4, h⟩ := am_ltE h
  refine x_call0 (as := [.ref 53, .ref 7]) (rest := []) r202_19 rfl rfl rfl (by decide) (Nat.le_of_ble_eq_true rfl) (am_rows_copy (n := 28) (m := 28) rfl rfl (by decide) (by decide) e4) (Nat.le_trans (by decide) hd) (Nat.zero_le _) (Nat.zero_le _) rfl ?_
  refine x_ld (v := .ref 47) r202_22 rfl rfl rfl ?_
  refine y_gf (cd := 56) (v := .ref 54) r202_23 rfl rfl rfl ?_
  refine x_ld (v := .ref 1) r202_26 rfl rfl rfl ?_
  refine y_gf (cd := 10) (v := .ref 8) r202_27 rfl rfl rfl ?_
  obtain ⟨D5, e6, h⟩ := am_ltE h
  refine x_call0 (as := [.ref 54, .ref 8]) (rest := []) r202_30 rfl rfl rfl (by decide) (Nat.le_of_ble_eq_true rfl) (am_rows_copy (n := 4) (m := 4) rfl rfl (by decide) (by decide) e6) (Nat.le_trans (by decide) hd) (Nat.zero_le _) (Nat.zero_le _) rfl ?_
  refine x_ld (v := .ref 47) r202_33 rfl rfl rfl ?_
  refine y_gf (cd := 57) (v := .ref 55) r202_34 rfl rfl rfl ?_
  refine x_ld (v := .ref 1) r202_37 rfl rfl rfl ?_
  refine y_gf (cd := 11) (v := .ref 9) r202_38 rfl rfl rfl ?_
  obtain ⟨D7, e8, h⟩ := am_ltE h
  refine x_call0 (as := [.ref 55, .ref 9]) (rest := []) r202_41 rfl rfl rfl (by decide) (Nat.le_of_ble_eq_true rfl) (am_rows_copy (n := 4) (m := 4) rfl rfl (by decide) (by decide) e8) (Nat.le_trans (by decide) hd) (Nat.zero_le _) (Nat.zero_le _) rfl ?_
  refine x_ld (v := .ref 47) r202_44 rfl rfl rfl ?_
  refine y_gf (cd := 58) (v := .ref 56) r202_45 rfl rfl rfl ?_
  refine x_ld (v := .ref 1) r202_48 rfl rfl rfl ?_
  refine y_gf (cd := 12) (v := .ref 10) r202_49 rfl rfl rfl ?_
  obtain ⟨D9, e10, h⟩ := am_ltE h
  refine x_call0 (as := [.ref 56, .ref 10]) (rest := []) r202_52 rfl rfl rfl (by decide) (Nat.le_of_ble_eq_true rfl) (am_rows_copy (n := 4) (m := 4) rfl rfl (by decide) (by decide) e10) (Nat.le_trans (by decide) hd) (Nat.zero_le _) (Nat.zero_le _) rfl ?_
  refine x_ld (v := .ref 47) r202_55 rfl rfl rfl ?_
  refine y_gf (cd := 59) (v := .ref 57) r202_56 rfl rfl rfl ?_
  refine x_ld (v := .ref 1) r202_59 rfl rfl rfl ?_
  refine y_gf (cd := 13) (v := .ref 11) r202_60 rfl rfl rfl ?_
  obtain ⟨D11, e12, h⟩ := am_ltE h
  refine x_call0 (as := [.ref 57, .ref 11]) (rest := []) r202_63 rfl rfl rfl (by decide) (Nat.le_of_ble_eq_true rfl) (am_rows_copy (n := 2) (m := 2) rfl rfl (by decide) (by decide) e12) (Nat.le_trans (by decide) hd) (Nat.zero_le _) (Nat.zero_le _) rfl ?_
  refine x_ld (v := .ref 1) r202_66 rfl rfl rfl ?_
  refine x_ld (v := .ref 47) r202_67 rfl rfl rfl ?_
  refine y_gf (cd := 0) (v := .int (D11.1 47 6)) r202_68 rfl rfl rfl ?_
  obtain ⟨D13, e14, h⟩ := am_ltE h
  refine y_pf0 r202_71 rfl e14 rfl ?_
  refine x_ld (v := .ref 1) r202_74 rfl rfl rfl ?_
  refine x_ld (v := .ref 47) r202_75 rfl rfl rfl ?_
  refine y_gf (cd := 0) (v := .int (D13.1 47 7)) r202_76 rfl rfl rfl ?_
  obtain ⟨D15, e16, h⟩ := am_ltE h
  refine y_pf0 r202_79 rfl e16 rfl ?_
  refine x_ld (v := .ref 1) r202_82 rfl rfl rfl ?_
  refine x_ld (v := .ref 47) r202_83 rfl rfl rfl ?_
  refine y_gf (cd := 0) (v := .int (D15.1 47 8)) r202_84 rfl rfl rfl ?_
  obtain ⟨D17, e18, h⟩ := am_ltE h
  refine y_pf0 r202_87 rfl e18 rfl ?_
  refine x_ld (v := .ref 1) r202_90 rfl rfl rfl ?_
  refine x_ld (v := .ref 47) r202_91 rfl rfl rfl ?_
  refine y_gf (cd := 0) (v := .int (D17.1 47 9)) r202_92 rfl rfl rfl ?_
  obtain ⟨D19, e20, h⟩ := am_ltE h
  refine y_pf0 r202_95 rfl e20 rfl ?_
  refine x_ld (v := .ref 1) r202_98 rfl rfl rfl ?_
  refine x_ld (v := .ref 47) r202_99 rfl rfl rfl ?_
  refine y_gf (cd := 0) (v := .int (D19.1 47 10)) r202_100 rfl rfl rfl ?_
  obtain ⟨D21, e22, h⟩ := am_ltE h
  refine y_pf0 r202_103 rfl e22 rfl ?_
  refine x_ld (v := .ref 1) r202_106 rfl rfl rfl ?_
  refine x_ld (v := .ref 47) r202_107 rfl rfl rfl ?_
  refine y_gf (cd := 0) (v := .int (D21.1 47 11)) r202_108 rfl rfl rfl ?_
  obtain ⟨D23, e24, h⟩ := am_ltE h
  refine y_pf0 r202_111 rfl e24 rfl ?_
  refine x_ld (v := .ref 1) r202_114 rfl rfl rfl ?_
  refine x_ld (v := .ref 47) r202_115 rfl rfl rfl ?_
  refine y_gf (cd := 0) (v := .int (D23.1 47 12)) r202_116 rfl rfl rfl ?_
  obtain ⟨D25, e26, h⟩ := am_ltE h
  refine y_pf0 r202_119 rfl e26 rfl ?_
  refine x_ld (v := .ref 1) r202_122 rfl rfl rfl ?_
  refine x_ld (v := .ref 47) r202_123 rfl rfl rfl ?_
  refine y_gf (cd := 0) (v := .int (D25.1 47 13)) r202_124 rfl rfl rfl ?_
  obtain ⟨D27, e28, h⟩ := am_ltE h
  refine y_pf0 r202_127 rfl e28 rfl ?_
  refine x_ld (v := .ref 1) r202_130 rfl rfl rfl ?_
  refine x_ld (v := .ref 47) r202_131 rfl rfl rfl ?_
  refine y_gf (cd := 0) (v := .int (D27.1 47 14)) r202_132 rfl rfl rfl ?_
  obtain ⟨D29, e30, h⟩ := am_ltE h
  refine y_pf0 r202_135 rfl e30 rfl ?_
  refine x_ld (v := .ref 1) r202_138 rfl rfl rfl ?_
  refine x_ld (v := .ref 47) r202_139 rfl rfl rfl ?_
  refine y_gf (cd := 0) (v := .int (D29.1 47 15)) r202_140 rfl rfl rfl ?_
  obtain ⟨D31, e32, h⟩ := am_ltE h
  refine y_pf0 r202_143 rfl e32 rfl ?_
  subst h
  exact x_ret (ret := none) (C := True) (v := none) r202_146 rt202 rfl rfl rfl rfl rfl rfl rfl rfl trivial hQ
theorem m202_1_47_ok {D : am_D} {r : am_D} (h : m202_1_47 D = r) : am_Y xs L 202 3 0 0 [.ref 1, .ref 47] D (.inl none) r := am_Yof (mi := am_m202) (lc := [.ref 1, .ref 47]) pg202 (Nat.le_of_ble_eq_true rfl) (am_rc1 (ci := 4) rfl rfl rfl rfl rfl) rfl (fun Q hQ => m202_1_47_w (Nat.le_refl _) h hQ)
theorem m152_2_59_w {d mc ms : Nat} {D : am_D} {Q : am_O → am_AH → Prop} (hd : 2 ≤ d) {r : am_D} (h : m152_2_59 D = r) (hQ : Q (.inl none) (am_mk r)) : am_X xs L 152 d mc ms 0 [.ref 2, .ref 59] [] (am_mk D) 0 0 Q := by
  unfold m152_2_59 at h
  refine x_ld (v := .ref 59) r152_0 rfl rfl rfl ?_
  refine y_gf (cd := 62) (v := .ref 60) r152_1 rfl rfl rfl ?_
  refine x_ld (v := .ref 2) r152_4 rfl rfl rfl ?_
  refine y_gf (cd := 5) (v := .ref 3) r152_5 rfl rfl rfl ?_
  obtain ⟨D1, e2, h⟩ := am_ltE h
  refine x_call0 (as := [.ref 60, .ref 3]) (rest := []) r152_8 rfl rfl rfl (by decide) (Nat.le_of_ble_eq_true rfl) (am_rows_copy (n := 28) (m := 28) rfl rfl (by decide) (by decide) e2) (Nat.le_trans (by decide) hd) (Nat.zero_le _) (Nat.zero_le _) rfl ?_
  refine x_ld (v := .ref 59) r152_11 rfl rfl rfl ?_
  refine y_gf (cd := 63) (v := .ref 61) r152_12 rfl rfl rfl ?_
  refine x_ld (v := .ref 2) r152_15 rfl rfl rfl ?_
  refine y_gf (cd := 6) (v := .ref 4) r152_16 rfl rfl rfl ?_
  obtain ⟨D3, e4, h⟩ := am_ltE h
  refine x_call0 (as := [.ref 61, .ref 4]) (rest := []) r152_19 rfl rfl rfl (by decide) (Nat.le_of_ble_eq_true rfl) (am_rows_copy (n := 28) (m := 28) rfl rfl (by decide) (by decide) e4) (Nat.le_trans (by decide) hd) (Nat.zero_le _) (Nat.zero_le _) rfl ?_
  refine x_ld (v := .ref 59) r152_22 rfl rfl rfl ?_
  refine y_gf (cd := 64) (v := .ref 62) r152_23 rfl rfl rfl ?_
  refine x_ld (v := .ref 2) r152_26 rfl rfl rfl ?_
  refine y_gf (cd := 7) (v := .ref 5) r152_27 rfl rfl rfl ?_
  obtain ⟨D5, e6, h⟩ := am_ltE h
  refine x_call0 (as := [.ref 62, .ref 5]) (rest := []) r152_30 rfl rfl rfl (by decide) (Nat.le_of_ble_eq_true rfl) (am_rows_copy (n := 28) (m := 28) rfl rfl (by decide) (by decide) e6) (Nat.le_trans (by decide) hd) (Nat.zero_le _) (Nat.zero_le _) rfl ?_
  refine x_ld (v := .ref 59) r152_33 rfl rfl rfl ?_
  refine y_gf (cd := 65) (v := .ref 63) r152_34 rfl rfl rfl ?_
  refine x_ld (v := .ref 2) r152_37 rfl rfl rfl ?_
  refine y_gf (cd := 8) (v := .ref 6) r152_38 rfl rfl rfl ?_
  obtain ⟨D7, e8, h⟩ := am_ltE h
  refine x_call0 (as := [.ref 63, .ref 6]) (rest := []) r152_41 rfl rfl rfl (by decide) (Nat.le_of_ble_eq_true rfl) (am_rows_copy (n := 28) (m := 28) rfl rfl (by decide) (by decide) e8) (Nat.le_trans (by decide) hd) (Nat.zero_le _) (Nat.zero_le _) rfl ?_
  refine x_ld (v := .ref 2) r152_44 rfl rfl rfl ?_
  refine x_ld (v := .ref 59) r152_45 rfl rfl rfl ?_
  refine y_gf (cd := 0) (v := .int (D7.1 59 4)) r152_46 rfl rfl rfl ?_
  obtain ⟨D9, e10, h⟩ := am_ltE h
  refine y_pf0 r152_49 rfl e10 rfl ?_
  refine x_ld (v := .ref 2) r152_52 rfl rfl rfl ?_
  refine x_ld (v := .ref 59) r152_53 rfl rfl rfl ?_
  refine y_gf (cd := 0) (v := .int (D9.1 59 5)) r152_54 rfl rfl rfl ?_
  obtain ⟨D11, e12, h⟩ := am_ltE h
  refine y_pf0 r152_57 rfl e12 rfl ?_
  refine x_ld (v := .ref 2) r152_60 rfl rfl rfl ?_
  refine x_ld (v := .ref 59) r152_61 rfl rfl rfl ?_
  refine y_gf (cd := 0) (v := .int (D11.1 59 6)) r152_62 rfl rfl rfl ?_
  obtain ⟨D13, e14, h⟩ := am_ltE h
  refine y_pf0 r152_65 rfl e14 rfl ?_
  subst h
  exact x_ret (ret := none) (C := True) (v := none) r152_68 rt152 rfl rfl rfl rfl rfl rfl rfl rfl trivial hQ
theorem m152_2_59_ok {D : am_D} {r : am_D} (h : m152_2_59 D = r) : am_Y xs L 152 2 0 0 [.ref 2, .ref 59] D (.inl none) r := am_Yof (mi := am_m152) (lc := [.ref 2, .ref 59]) pg152 (Nat.le_of_ble_eq_true rfl) (am_rc1 (ci := 0) rfl rfl rfl rfl rfl) rfl (fun Q hQ => m152_2_59_w (Nat.le_refl _) h hQ)
theorem m202_1_58_w {d mc ms : Nat} {D : am_D} {Q : am_O → am_AH → Prop} (hd : 3 ≤ d) {r : am_D} (h : m202_1_58 D = r) (hQ : Q (.inl none) (am_mk r)) : am_X xs L 202 d mc ms 0 [.ref 1, .ref 58] [] (am_mk D) 0 0 Q := by
  unfold m202_1_58 at h
  refine x_ld (v := .ref 1) r202_0 rfl rfl rfl ?_
  refine y_gf (cd := 4) (v := .ref 2) r202_1 rfl rfl rfl ?_
  refine x_ld (v := .ref 58) r202_4 rfl rfl rfl ?_
  refine y_gf (cd := 61) (v := .ref 59) r202_5 rfl rfl rfl ?_
  obtain ⟨q1, h2, h⟩ := am_ltE h
  replace h2 := h2.symm
  refine x_call0 (as := [.ref 2, .ref 59]) (rest := []) r202_8 rfl rfl rfl (by decide) (Nat.le_of_ble_eq_true rfl) (m152_2_59_ok h2) (Nat.le_trans (by decide) hd) (Nat.zero_le _) (Nat.zero_le _) rfl ?_
  refine x_ld (v := .ref 58) r202_11 rfl rfl rfl ?_
  refine y_gf (cd := 66) (v := .ref 64) r202_12 rfl rfl rfl ?_
  refine x_ld (v := .ref 1) r202_15 rfl rfl rfl ?_
  refine y_gf (cd := 9) (v := .ref 7) r202_16 rfl rfl rfl ?_
  obtain ⟨D3, e4, h⟩ := am_ltE h
  refine x_call0 (as := [.ref 64, .ref 7]) (rest := []) r202_19 rfl rfl rfl (by decide) (Nat.le_of_ble_eq_true rfl) (am_rows_copy (n := 28) (m := 28) rfl rfl (by decide) (by decide) e4) (Nat.le_trans (by decide) hd) (Nat.zero_le _) (Nat.zero_le _) rfl ?_
  refine x_ld (v := .ref 58) r202_22 rfl rfl rfl ?_
  refine y_gf (cd := 67) (v := .ref 65) r202_23 rfl rfl rfl ?_
  refine x_ld (v := .ref 1) r202_26 rfl rfl rfl ?_
  refine y_gf (cd := 10) (v := .ref 8) r202_27 rfl rfl rfl ?_
  obtain ⟨D5, e6, h⟩ := am_ltE h
  refine x_call0 (as := [.ref 65, .ref 8]) (rest := []) r202_30 rfl rfl rfl (by decide) (Nat.le_of_ble_eq_true rfl) (am_rows_copy (n := 4) (m := 4) rfl rfl (by decide) (by decide) e6) (Nat.le_trans (by decide) hd) (Nat.zero_le _) (Nat.zero_le _) rfl ?_
  refine x_ld (v := .ref 58) r202_33 rfl rfl rfl ?_
  refine y_gf (cd := 68) (v := .ref 66) r202_34 rfl rfl rfl ?_
  refine x_ld (v := .ref 1) r202_37 rfl rfl rfl ?_
  refine y_gf (cd := 11) (v := .ref 9) r202_38 rfl rfl rfl ?_
  obtain ⟨D7, e8, h⟩ := am_ltE h
  refine x_call0 (as := [.ref 66, .ref 9]) (rest := []) r202_41 rfl rfl rfl (by decide) (Nat.le_of_ble_eq_true rfl) (am_rows_copy (n := 4) (m := 4) rfl rfl (by decide) (by decide) e8) (Nat.le_trans (by decide) hd) (Nat.zero_le _) (Nat.zero_le _) rfl ?_
  refine x_ld (v := .ref 58) r202_44 rfl rfl rfl ?_
  refine y_gf (cd := 69) (v := .ref 67) r202_45 rfl rfl rfl ?_
  refine x_ld (v := .ref 1) r202_48 rfl rfl rfl ?_
  refine y_gf (cd := 12) (v := .ref 10) r202_49 rfl rfl rfl ?_
  obtain ⟨D9, e10, h⟩ := am_ltE h
  refine x_call0 (as := [.ref 67, .ref 10]) (rest := []) r202_52 rfl rfl rfl (by decide) (Nat.le_of_ble_eq_true rfl) (am_rows_copy (n := 4) (m := 4) rfl rfl (by decide) (by decide) e10) (Nat.le_trans (by decide) hd) (Nat.zero_le _) (Nat.zero_le _) rfl ?_
  refine x_ld (v := .ref 58) r202_55 rfl rfl rfl ?_
  refine y_gf (cd := 70) (v := .ref 68) r202_56 rfl rfl rfl ?_
  refine x_ld (v := .ref 1) r202_59 rfl rfl rfl ?_
  refine y_gf (cd := 13) (v := .ref 11) r202_60 rfl rfl rfl ?_
  obtain ⟨D11, e12, h⟩ := am_ltE h
  refine x_call0 (as := [.ref 68, .ref 11]) (rest := []) r202_63 rfl rfl rfl (by decide) (Nat.le_of_ble_eq_true rfl) (am_rows_copy (n := 2) (m := 2) rfl rfl (by decide) (by decide) e12) (Nat.le_trans (by decide) hd) (Nat.zero_le _) (Nat.zero_le _) rfl ?_
  refine x_ld (v := .ref 1) r202_66 rfl rfl rfl ?_
  refine x_ld (v := .ref 58) r202_67 rfl rfl rfl ?_
  refine y_gf (cd := 0) (v := .int (D11.1 58 6)) r202_68 rfl rfl rfl ?_
  obtain ⟨D13, e14, h⟩ := am_ltE h
  refine y_pf0 r202_71 rfl e14 rfl ?_
  refine x_ld (v := .ref 1) r202_74 rfl rfl rfl ?_
  refine x_ld (v := .ref 58) r202_75 rfl rfl rfl ?_
  refine y_gf (cd := 0) (v := .int (D13.1 58 7)) r202_76 rfl rfl rfl ?_
  obtain ⟨D15, e16, h⟩ := am_ltE h
  refine y_pf0 r202_79 rfl e16 rfl ?_
  refine x_ld (v := .ref 1) r202_82 rfl rfl rfl ?_
  refine x_ld (v := .ref 58) r202_83 rfl rfl rfl ?_
  refine y_gf (cd := 0) (v := .int (D15.1 58 8)) r202_84 rfl rfl rfl ?_
  obtain ⟨D17, e18, h⟩ := am_ltE h
  refine y_pf0 r202_87 rfl e18 rfl ?_
  refine x_ld (v := .ref 1) r202_90 rfl rfl rfl ?_
  refine x_ld (v := .ref 58) r202_91 rfl rfl rfl ?_
  refine y_gf (cd := 0) (v := .int (D17.1 58 9)) r202_92 rfl rfl rfl ?_
  obtain ⟨D19, e20, h⟩ := am_ltE h
  refine y_pf0 r202_95 rfl e20 rfl ?_
  refine x_ld (v := .ref 1) r202_98 rfl rfl rfl ?_
  refine x_ld (v := .ref 58) r202_99 rfl rfl rfl ?_
  refine y_gf (cd := 0) (v := .int (D19.1 58 10)) r202_100 rfl rfl rfl ?_
  obtain ⟨D21, e22, h⟩ := am_ltE h
  refine y_pf0 r202_103 rfl e22 rfl ?_
  refine x_ld (v := .ref 1) r202_106 rfl rfl rfl ?_
  refine x_ld (v := .ref 58) r202_107 rfl rfl rfl ?_
  refine y_gf (cd := 0) (v := .int (D21.1 58 11)) r202_108 rfl rfl rfl ?_
  obtain ⟨D23, e24, h⟩ := am_ltE h
  refine y_pf0 r202_111 rfl e24 rfl ?_
  refine x_ld (v := .ref 1) r202_114 rfl rfl rfl ?_
  refine x_ld (v := .ref 58) r202_115 rfl rfl rfl ?_
  refine y_gf (cd := 0) (v := .int (D23.1 58 12)) r202_116 rfl rfl rfl ?_
  obtain ⟨D25, e26, h⟩ := am_ltE h
  refine y_pf0 r202_119 rfl e26 rfl ?_
  refine x_ld (v := .ref 1) r202_122 rfl rfl rfl ?_
  refine x_ld (v := .ref 58) r202_123 rfl rfl rfl ?_
  refine y_gf (cd := 0) (v := .int (D25.1 58 13)) r202_124 rfl rfl rfl ?_
  obtain ⟨D27, e28, h⟩ := am_ltE h
  refine y_pf0 r202_127 rfl e28 rfl ?_
  refine x_ld (v := .ref 1) r202_130 rfl rfl rfl ?_
  refine x_ld (v := .ref 58) r202_131 rfl rfl rfl ?_
  refine y_gf (cd := 0) (v := .int (D27.1 58 14)) r202_132 rfl rfl rfl ?_
  obtain ⟨D29, e30, h⟩ := am_ltE h
  refine y_pf0 r202_135 rfl e30 rfl ?_
  refine x_ld (v := .ref 1) r202_138 rfl rfl rfl ?_
  refine x_ld (v := .ref 58) r202_139 rfl rfl rfl ?_
  refine y_gf (cd := 0) (v := .int (D29.1 58 15)) r202_140 rfl rfl rfl ?_
  obtain ⟨D31, e32, h⟩ := am_ltE h
  refine y_pf0 r202_143 rfl e32 rfl ?_
  subst h
  exact x_ret (ret := none) (C := True) (v := none) r202_146 rt202 rfl rfl rfl rfl rfl rfl rfl rfl trivial hQ
theorem m202_1_58_ok {D : am_D} {r : am_D} (h : m202_1_58 D = r) : am_Y xs L 202 3 0 0 [.ref 1, .ref 58] D (.inl none) r := am_Yof (mi := am_m202) (lc := [.ref 1, .ref 58]) pg202 (Nat.le_of_ble_eq_true rfl) (am_rc1 (ci := 4) rfl rfl rfl rfl rfl) rfl (fun Q hQ => m202_1_58_w (Nat.le_refl _) h hQ)
theorem m152_2_70_w {d mc ms : Nat} {D : am_D} {Q : am_O → am_AH → Prop} (hd : 2 ≤ d) {r : am_D} (h : m152_2_70 D = r) (hQ : Q (.inl none) (am_mk r)) : am_X xs L 152 d mc ms 0 [.ref 2, .ref 70] [] (am_mk D) 0 0 Q := by
  unfold m152_2_70 at h
  refine x_ld (v := .ref 70) r152_0 rfl rfl rfl ?_
  refine y_gf (cd := 73) (v := .ref 71) r152_1 rfl rfl rfl ?_
  refine x_ld (v := .ref 2) r152_4 rfl rfl rfl ?_
  refine y_gf (cd := 5) (v := .ref 3) r152_5 rfl rfl rfl ?_
  obtain ⟨D1, e2, h⟩ := am_ltE h
  refine x_call0 (as := [.ref 71, .ref 3]) (rest := []) r152_8 rfl rfl rfl (by decide) (Nat.le_of_ble_eq_true rfl) (am_rows_copy (n := 28) (m := 28) rfl rfl (by decide) (by decide) e2) (Nat.le_trans (by decide) hd) (Nat.zero_le _) (Nat.zero_le _) rfl ?_
  refine x_ld (v := .ref 70) r152_11 rfl rfl rfl ?_
  refine y_gf (cd := 74) (v := .ref 72) r152_12 rfl rfl rfl ?_
  refine x_ld (v := .ref 2) r152_15 rfl rfl rfl ?_
  refine y_gf (cd := 6) (v := .ref 4) r152_16 rfl rfl rfl ?_
  obtain ⟨D3, e4, h⟩ := am_ltE h
  refine x_call0 (as := [.ref 72, .ref 4]) (rest := []) r152_19 rfl rfl rfl (by decide) (Nat.le_of_ble_eq_true rfl) (am_rows_copy (n := 28) (m := 28) rfl rfl (by decide) (by decide) e4) (Nat.le_trans (by decide) hd) (Nat.zero_le _) (Nat.zero_le _) rfl ?_
  refine x_ld (v := .ref 70) r152_22 rfl rfl rfl ?_
  refine y_gf (cd := 75) (v := .ref 73) r152_23 rfl rfl rfl ?_
  refine x_ld (v := .ref 2) r152_26 rfl rfl rfl ?_
  refine y_gf (cd := 7) (v := .ref 5) r152_27 rfl rfl rfl ?_
  obtain ⟨D5, e6, h⟩ := am_ltE h
  refine x_call0 (as := [.ref 73, .ref 5]) (rest := []) r152_30 rfl rfl rfl (by decide) (Nat.le_of_ble_eq_true rfl) (am_rows_copy (n := 28) (m := 28) rfl rfl (by decide) (by decide) e6) (Nat.le_trans (by decide) hd) (Nat.zero_le _) (Nat.zero_le _) rfl ?_
  refine x_ld (v := .ref 70) r152_33 rfl rfl rfl ?_
  refine y_gf (cd := 76) (v := .ref 74) r152_34 rfl rfl rfl ?_
  refine x_ld (v := .ref 2) r152_37 rfl rfl rfl ?_
  refine y_gf (cd := 8) (v := .ref 6) r152_38 rfl rfl rfl ?_
  obtain ⟨D7, e8, h⟩ := am_ltE h
  refine x_call0 (as := [.ref 74, .ref 6]) (rest := []) r152_41 rfl rfl rfl (by decide) (Nat.le_of_ble_eq_true rfl) (am_rows_copy (n := 28) (m := 28) rfl rfl (by decide) (by decide) e8) (Nat.le_trans (by decide) hd) (Nat.zero_le _) (Nat.zero_le _) rfl ?_
  refine x_ld (v := .ref 2) r152_44 rfl rfl rfl ?_
  refine x_ld (v := .ref 70) r152_45 rfl rfl rfl ?_
  refine y_gf (cd := 0) (v := .int (D7.1 70 4)) r152_46 rfl rfl rfl ?_
  obtain ⟨D9, e10, h⟩ := am_ltE h
  refine y_pf0 r152_49 rfl e10 rfl ?_
  refine x_ld (v := .ref 2) r152_52 rfl rfl rfl ?_
  refine x_ld (v := .ref 70) r152_53 rfl rfl rfl ?_
  refine y_gf (cd := 0) (v := .int (D9.1 70 5)) r152_54 rfl rfl rfl ?_
  obtain ⟨D11, e12, h⟩ := am_ltE h
  refine y_pf0 r152_57 rfl e12 rfl ?_
  refine x_ld (v := .ref 2) r152_60 rfl rfl rfl ?_
  refine x_ld (v := .ref 70) r152_61 rfl rfl rfl ?_
  refine y_gf (cd := 0) (v := .int (D11.1 70 6)) r152_62 rfl rfl rfl ?_
  obtain ⟨D13, e14, h⟩ := am_ltE h
  refine y_pf0 r152_65 rfl e14 rfl ?_
  subst h
  exact x_ret (ret := none) (C := True) (v := none) r152_68 rt152 rfl rfl rfl rfl rfl rfl rfl rfl trivial hQ
theorem m152_2_70_ok {D : am_D} {r : am_D} (h : m152_2_70 D = r) : am_Y xs L 152 2 0 0 [.ref 2, .ref 70] D (.inl none) r := am_Yof (mi := am_m152) (lc := [.ref 2, .ref 70]) pg152 (Nat.le_of_ble_eq_true rfl) (am_rc1 (ci := 0) rfl rfl rfl rfl rfl) rfl (fun Q hQ => m152_2_70_w (Nat.le_refl _) h hQ)
theorem m202_1_69_w {d mc ms : Nat} {D : am_D} {Q : am_O → am_AH → Prop} (hd : 3 ≤ d) {r : am_D} (h : m202_1_69 D = r) (hQ : Q (.inl none) (am_mk r)) : am_X xs L 202 d mc ms 0 [.ref 1, .ref 69] [] (am_mk D) 0 0 Q := by
  unfold m202_1_69 at h
  refine x_ld (v := .ref 1) r202_0 rfl rfl rfl ?_
  refine y_gf (cd := 4) (v := .ref 2) r202_1 rfl rfl rfl ?_
  refine x_ld (v := .ref 69) r202_4 rfl rfl rfl ?_
  refine y_gf (cd := 72) (v := .ref 70) r202_5 rfl rfl rfl ?_
  obtain ⟨q1, h2, h⟩ := am_ltE h
  replace h2 := h2.symm
  refine x_call0 (as := [.ref 2, .ref 70]) (rest := []) r202_8 rfl rfl rfl (by decide) (Nat.le_of_ble_eq_true rfl) (m152_2_70_ok h2) (Nat.le_trans (by decide) hd) (Nat.zero_le _) (Nat.zero_le _) rfl ?_
  refine x_ld (v := .ref 69) r202_11 rfl rfl rfl ?_
  refine y_gf (cd := 77) (v := .ref 75) r202_12 rfl rfl rfl ?_
  refine x_ld (v := .ref 1) r202_15 rfl rfl rfl ?_
  refine y_gf (cd := 9) (v := .ref 7) r202_16 rfl rfl rfl ?_
  obtain ⟨D3, e4, h⟩ := am_ltE h
  refine x_call0 (as := [.ref 75, .ref 7]) (rest := []) r202_19 rfl rfl rfl (by decide) (Nat.le_of_ble_eq_true rfl) (am_rows_copy (n := 28) (m := 28) rfl rfl (by decide) (by decide) e4) (Nat.le_trans (by decide) hd) (Nat.zero_le _) (Nat.zero_le _) rfl ?_
  refine x_ld (v := .ref 69) r202_22 rfl rfl rfl ?_
  refine y_gf (cd := 78) (v := .ref 76) r202_23 rfl rfl rfl ?_
  refine x_ld (v := .ref 1) r202_26 rfl rfl rfl ?_
  refine y_gf (cd := 10) (v := .ref 8) r202_27 rfl rfl rfl ?_
  obtain ⟨D5, e6, h⟩ := am_ltE h
  refine x_call0 (as := [.ref 76, .ref 8]) (rest := []) r202_30 rfl rfl rfl (by decide) (Nat.le_of_ble_eq_true rfl) (am_rows_copy (n := 4) (m := 4) rfl rfl (by decide) (by decide) e6) (Nat.le_trans (by decide) hd) (Nat.zero_le _) (Nat.zero_le _) rfl ?_
  refine x_ld (v := .ref 69) r202_33 rfl rfl rfl ?_
  refine y_gf (cd := 79) (v := .ref 77) r202_34 rfl rfl rfl ?_
  refine x_ld (v := .ref 1) r202_37 rfl rfl rfl ?_
  refine y_gf (cd := 11) (v := .ref 9) r202_38 rfl rfl rfl ?_
  obtain ⟨D7, e8, h⟩ := am_ltE h
  refine x_call0 (as := [.ref 77, .ref 9]) (rest := []) r202_41 rfl rfl rfl (by decide) (Nat.le_of_ble_eq_true rfl) (am_rows_copy (n := 4) (m := 4) rfl rfl (by decide) (by decide) e8) (Nat.le_trans (by decide) hd) (Nat.zero_le _) (Nat.zero_le _) rfl ?_
  refine x_ld (v := .ref 69) r202_44 rfl rfl rfl ?_
  refine y_gf (cd := 80) (v := .ref 78) r202_45 rfl rfl rfl ?_
  refine x_ld (v := .ref 1) r202_48 rfl rfl rfl ?_
  refine y_gf (cd := 12) (v := .ref 10) r202_49 rfl rfl rfl ?_
  obtain ⟨D9, e10, h⟩ := am_ltE h
  refine x_call0 (as := [.ref 78, .ref 10]) (rest := []) r202_52 rfl rfl rfl (by decide) (Nat.le_of_ble_eq_true rfl) (am_rows_copy (n := 4) (m := 4) rfl rfl (by decide) (by decide) e10) (Nat.le_trans (by decide) hd) (Nat.zero_le _) (Nat.zero_le _) rfl ?_
  refine x_ld (v := .ref 69) r202_55 rfl rfl rfl ?_
  refine y_gf (cd := 81) (v := .ref 79) r202_56 rfl rfl rfl ?_
  refine x_ld (v := .ref 1) r202_59 rfl rfl rfl ?_
  refine y_gf (cd := 13) (v := .ref 11) r202_60 rfl rfl rfl ?_
  obtain ⟨D11, e12, h⟩ := am_ltE h
  refine x_call0 (as := [.ref 79, .ref 11]) (rest := []) r202_63 rfl rfl rfl (by decide) (Nat.le_of_ble_eq_true rfl) (am_rows_copy (n := 2) (m := 2) rfl rfl (by decide) (by decide) e12) (Nat.le_trans (by decide) hd) (Nat.zero_le _) (Nat.zero_le _) rfl ?_
  refine x_ld (v := .ref 1) r202_66 rfl rfl rfl ?_
  refine x_ld (v := .ref 69) r202_67 rfl rfl rfl ?_
  refine y_gf (cd := 0) (v := .int (D11.1 69 6)) r202_68 rfl rfl rfl ?_
  obtain ⟨D13, e14, h⟩ := am_ltE h
  refine y_pf0 r202_71 rfl e14 rfl ?_
  refine x_ld (v := .ref 1) r202_74 rfl rfl rfl ?_
  refine x_ld (v := .ref 69) r202_75 rfl rfl rfl ?_
  refine y_gf (cd := 0) (v := .int (D13.1 69 7)) r202_76 rfl rfl rfl ?_
  obtain ⟨D15, e16, h⟩ := am_ltE h
  refine y_pf0 r202_79 rfl e16 rfl ?_
  refine x_ld (v := .ref 1) r202_82 rfl rfl rfl ?_
  refine x_ld (v := .ref 69) r202_83 rfl rfl rfl ?_
  refine y_gf (cd := 0) (v := .int (D15.1 69 8)) r202_84 rfl rfl rfl ?_
  obtain ⟨D17, e18, h⟩ := am_ltE h
  refine y_pf0 r202_87 rfl e18 rfl ?_
  refine x_ld (v := .ref 1) r202_90 rfl rfl rfl ?_
  refine x_ld (v := .ref 69) r202_91 rfl rfl rfl ?_
  refine y_gf (cd := 0) (v := .int (D17.1 69 9)) r202_92 rfl rfl rfl ?_
  obtain ⟨D19, e20, h⟩ := am_ltE h
  refine y_pf0 r202_95 rfl e20 rfl ?_
  refine x_ld (v := .ref 1) r202_98 rfl rfl rfl ?_
  refine x_ld (v := .ref 69) r202_99 rfl rfl rfl ?_
  refine y_gf (cd := 0) (v := .int (D19.1 69 10)) r202_100 rfl rfl rfl ?_
  obtain ⟨D21, e22, h⟩ := am_ltE h
  refine y_pf0 r202_103 rfl e22 rfl ?_
  refine x_ld (v := .ref 1) r202_106 rfl rfl rfl ?_
  refine x_ld (v := .ref 69) r202_107 rfl rfl rfl ?_
  refine y_gf (cd := 0) (v := .int (D21.1 69 11)) r202_108 rfl rfl rfl ?_
  obtain ⟨D23, e24, h⟩ := am_ltE h
  refine y_pf0 r202_111 rfl e24 rfl ?_
  refine x_ld (v := .ref 1) r202_114 rfl rfl rfl ?_
  refine x_ld (v := .ref 69) r202_115 rfl rfl rfl ?_
  refine y_gf (cd := 0) (v := .int (D23.1 69 12)) r202_116 rfl rfl rfl ?_
  obtain ⟨D25, e26, h⟩ := am_ltE h
  refine y_pf0 r202_119 rfl e26 rfl ?_
  refine x_ld (v := .ref 1) r202_122 rfl rfl rfl ?_
  refine x_ld (v := .ref 69) r202_123 rfl rfl rfl ?_
  refine y_gf (cd := 0) (v := .int (D25.1 69 13)) r202_124 rfl rfl rfl ?_
  obtain ⟨D27, e28, h⟩ := am_ltE h
  refine y_pf0 r202_127 rfl e28 rfl ?_
  refine x_ld (v := .ref 1) r202_130 rfl rfl rfl ?_
  refine x_ld (v := .ref 69) r202_131 rfl rfl rfl ?_
  refine y_gf (cd := 0) (v := .int (D27.1 69 14)) r202_132 rfl rfl rfl ?_
  obtain ⟨D29, e30, h⟩ := am_ltE h
  refine y_pf0 r202_135 rfl e30 rfl ?_
  refine x_ld (v := .ref 1) r202_138 rfl rfl rfl ?_
  refine x_ld (v := .ref 69) r202_139 rfl rfl rfl ?_
  refine y_gf (cd := 0) (v := .int (D29.1 69 15)) r202_140 rfl rfl rfl ?_
  obtain ⟨D31, e32, h⟩ := am_ltE h
  refine y_pf0 r202_143 rfl e32 rfl ?_
  subst h
  exact x_ret (ret := none) (C := True) (v := none) r202_146 rt202 rfl rfl rfl rfl rfl rfl rfl rfl trivial hQ
theorem m202_1_69_ok {D : am_D} {r : am_D} (h : m202_1_69 D = r) : am_Y xs L 202 3 0 0 [.ref 1, .ref 69] D (.inl none) r := am_Yof (mi := am_m202) (lc := [.ref 1, .ref 69]) pg202 (Nat.le_of_ble_eq_true rfl) (am_rc1 (ci := 4) rfl rfl rfl rfl rfl) rfl (fun Q hQ => m202_1_69_w (Nat.le_refl _) h hQ)
theorem m152_2_81_w {d mc ms : Nat} {D : am_D} {Q : am_O → am_AH → Prop} (hd : 2 ≤ d) {r : am_D} (h : m152_2_81 D = r) (hQ : Q (.inl none) (am_mk r)) : am_X xs L 152 d mc ms 0 [.ref 2, .ref 81] [] (am_mk D) 0 0 Q := by
  unfold m152_2_81 at h
  refine x_ld (v := .ref 81) r152_0 rfl rfl rfl ?_
  refine y_gf (cd := 84) (v := .ref 82) r152_1 rfl rfl rfl ?_
  refine x_ld (v := .ref 2) r152_4 rfl rfl rfl ?_
  refine y_gf (cd := 5) (v := .ref 3) r152_5 rfl rfl rfl ?_
  obtain ⟨D1, e2, h⟩ := am_ltE h
  refine x_call0 (as := [.ref 82, .ref 3]) (rest := []) r152_8 rfl rfl rfl (by decide) (Nat.le_of_ble_eq_true rfl) (am_rows_copy (n := 28) (m := 28) rfl rfl (by decide) (by decide) e2) (Nat.le_trans (by decide) hd) (Nat.zero_le _) (Nat.zero_le _) rfl ?_
  refine x_ld (v := .ref 81) r152_11 rfl rfl rfl ?_
  refine y_gf (cd := 85) (v := .ref 83) r152_12 rfl rfl rfl ?_
  refine x_ld (v := .ref 2) r152_15 rfl rfl rfl ?_
  refine y_gf (cd := 6) (v := .ref 4) r152_16 rfl rfl rfl ?_
  obtain ⟨D3, e4, h⟩ := am_ltE h
  refine x_call0 (as := [.ref 83, .ref 4]) (rest := []) r152_19 rfl rfl rfl (by decide) (Nat.le_of_ble_eq_true rfl) (am_rows_copy (n := 28) (m := 28) rfl rfl (by decide) (by decide) e4) (Nat.le_trans (by decide) hd) (Nat.zero_le _) (Nat.zero_le _) rfl ?_
  refine x_ld (v := .ref 81) r152_22 rfl rfl rfl ?_
  refine y_gf (cd := 86) (v := .ref 84) r152_23 rfl rfl rfl ?_
  refine x_ld (v := .ref 2) r152_26 rfl rfl rfl ?_
  refine y_gf (cd := 7) (v := .ref 5) r152_27 rfl rfl rfl ?_
  obtain ⟨D5, e6, h⟩ := am_ltE h
  refine x_call0 (as := [.ref 84, .ref 5]) (rest := []) r152_30 rfl rfl rfl (by decide) (Nat.le_of_ble_eq_true rfl) (am_rows_copy (n := 28) (m := 28) rfl rfl (by decide) (by decide) e6) (Nat.le_trans (by decide) hd) (Nat.zero_le _) (Nat.zero_le _) rfl ?_
  refine x_ld (v := .ref 81) r152_33 rfl rfl rfl ?_
  refine y_gf (cd := 87) (v := .ref 85) r152_34 rfl rfl rfl ?_
  refine x_ld (v := .ref 2) r152_37 rfl rfl rfl ?_
  refine y_gf (cd := 8) (v := .ref 6) r152_38 rfl rfl rfl ?_
  obtain ⟨D7, e8, h⟩ := am_ltE h
  refine x_call0 (as := [.ref 85, .ref 6]) (rest := []) r152_41 rfl rfl rfl (by decide) (Nat.le_of_ble_eq_true rfl) (am_rows_copy (n := 28) (m := 28) rfl rfl (by decide) (by decide) e8) (Nat.le_trans (by decide) hd) (Nat.zero_le _) (Nat.zero_le _) rfl ?_
  refine x_ld (v := .ref 2) r152_44 rfl rfl rfl ?_
  refine x_ld (v := .ref 81) r152_45 rfl rfl rfl ?_
  refine y_gf (cd := 0) (v := .int (D7.1 81 4)) r152_46 rfl rfl rfl ?_
  obtain ⟨D9, e10, h⟩ := am_ltE h
  refine y_pf0 r152_49 rfl e10 rfl ?_
  refine x_ld (v := .ref 2) r152_52 rfl rfl rfl ?_
  refine x_ld (v := .ref 81) r152_53 rfl rfl rfl ?_
  refine y_gf (cd := 0) (v := .int (D9.1 81 5)) r152_54 rfl rfl rfl ?_
  obtain ⟨D11, e12, h⟩ := am_ltE h
  refine y_pf0 r152_57 rfl e12 rfl ?_
  refine x_ld (v := .ref 2) r152_60 rfl rfl rfl ?_
  refine x_ld (v := .ref 81) r152_61 rfl rfl rfl ?_
  refine y_gf (cd := 0) (v := .int (D11.1 81 6)) r152_62 rfl rfl rfl ?_
  obtain ⟨D13, e14, h⟩ := am_ltE h
  refine y_pf0 r152_65 rfl e14 rfl ?_
  subst h
  exact x_ret (ret := none) (C := True) (v := none) r152_68 rt152 rfl rfl rfl rfl rfl rfl rfl rfl trivial hQ
theorem m152_2_81_ok {D : am_D} {r : am_D} (h : m152_2_81 D = r) : am_Y xs L 152 2 0 0 [.ref 2, .ref 81] D (.inl none) r := am_Yof (mi := am_m152) (lc := [.ref 2, .ref 81]) pg152 (Nat.le_of_ble_eq_true rfl) (am_rc1 (ci := 0) rfl rfl rfl rfl rfl) rfl (fun Q hQ => m152_2_81_w (Nat.le_refl _) h hQ)
theorem m202_1_80_w {d mc ms : Nat} {D : am_D} {Q : am_O → am_AH → Prop} (hd : 3 ≤ d) {r : am_D} (h : m202_1_80 D = r) (hQ : Q (.inl none) (am_mk r)) : am_X xs L 202 d mc ms 0 [.ref 1, .ref 80] [] (am_mk D) 0 0 Q := by
  unfold m202_1_80 at h
  refine x_ld (v := .ref 1) r202_0 rfl rfl rfl ?_
  refine y_gf (cd := 4) (v := .ref 2) r202_1 rfl rfl rfl ?_
  refine x_ld (v := .ref 80) r202_4 rfl rfl rfl ?_
  refine y_gf (cd := 83) (v := .ref 81) r202_5 rfl rfl rfl ?_
  obtain ⟨q1, h2, h⟩ := am_ltE h
  replace h2 := h2.symm
  refine x_call0 (as := [.ref 2, .ref 81]) (rest := []) r202_8 rfl rfl rfl (by decide) (Nat.le_of_ble_eq_true rfl) (m152_2_81_ok h2) (Nat.le_trans (by decide) hd) (Nat.zero_le _) (Nat.zero_le _) rfl ?_
  refine x_ld (v := .ref 80) r202_11 rfl rfl rfl ?_
  refine y_gf (cd := 88) (v := .ref 86) r202_12 rfl rfl rfl ?_
  refine x_ld (v := .ref 1) r202_15 rfl rfl rfl ?_
  refine y_gf (cd := 9) (v := .ref 7) r202_16 rfl rfl rfl ?_
  obtain ⟨D3, e4, h⟩ := am_ltE h
  refine x_call0 (as := [.ref 86, .ref 7]) (rest := []) r202_19 rfl rfl rfl (by decide) (Nat.le_of_ble_eq_true rfl) (am_rows_copy (n := 28) (m := 28) rfl rfl (by decide) (by decide) e4) (Nat.le_trans (by decide) hd) (Nat.zero_le _) (Nat.zero_le _) rfl ?_
  refine x_ld (v := .ref 80) r202_22 rfl rfl rfl ?_
  refine y_gf (cd := 89) (v := .ref 87) r202_23 rfl rfl rfl ?_
  refine x_ld (v := .ref 1) r202_26 rfl rfl rfl ?_
  refine y_gf (cd := 10) (v := .ref 8) r202_27 rfl rfl rfl ?_
  obtain ⟨D5, e6, h⟩ := am_ltE h
  refine x_call0 (as := [.ref 87, .ref 8]) (rest := []) r202_30 rfl rfl rfl (by decide) (Nat.le_of_ble_eq_true rfl) (am_rows_copy (n := 4) (m := 4) rfl rfl (by decide) (by decide) e6) (Nat.le_trans (by decide) hd) (Nat.zero_le _) (Nat.zero_le _) rfl ?_
  refine x_ld (v := .ref 80) r202_33 rfl rfl rfl ?_
  refine y_gf (cd := 90) (v := .ref 88) r202_34 rfl rfl rfl ?_
  refine x_ld (v := .ref 1) r202_37 rfl rfl rfl ?_
  refine y_gf (cd := 11) (v := .ref 9) r202_38 rfl rfl rfl ?_
  obtain ⟨D7, e8, h⟩ := am_ltE h
  refine x_call0 (as := [.ref 88, .ref 9]) (rest := []) r202_41 rfl rfl rfl (by decide) (Nat.le_of_ble_eq_true rfl) (am_rows_copy (n := 4) (m := 4) rfl rfl (by decide) (by decide) e8) (Nat.le_trans (by decide) hd) (Nat.zero_le _) (Nat.zero_le _) rfl ?_
  refine x_ld (v := .ref 80) r202_44 rfl rfl rfl ?_
  refine y_gf (cd := 91) (v := .ref 89) r202_45 rfl rfl rfl ?_
  refine x_ld (v := .ref 1) r202_48 rfl rfl rfl ?_
  refine y_gf (cd := 12) (v := .ref 10) r202_49 rfl rfl rfl ?_
  obtain ⟨D9, e10, h⟩ := am_ltE h
  refine x_call0 (as := [.ref 89, .ref 10]) (rest := []) r202_52 rfl rfl rfl (by decide) (Nat.le_of_ble_eq_true rfl) (am_rows_copy (n := 4) (m := 4) rfl rfl (by decide) (by decide) e10) (Nat.le_trans (by decide) hd) (Nat.zero_le _) (Nat.zero_le _) rfl ?_
  refine x_ld (v := .ref 80) r202_55 rfl rfl rfl ?_
  refine y_gf (cd := 92) (v := .ref 90) r202_56 rfl rfl rfl ?_
  refine x_ld (v := .ref 1) r202_59 rfl rfl rfl ?_
  refine y_gf (cd := 13) (v := .ref 11) r202_60 rfl rfl rfl ?_
  obtain ⟨D11, e12, h⟩ := am_ltE h
  refine x_call0 (as := [.ref 90, .ref 11]) (rest := []) r202_63 rfl rfl rfl (by decide) (Nat.le_of_ble_eq_true rfl) (am_rows_copy (n := 2) (m := 2) rfl rfl (by decide) (by decide) e12) (Nat.le_trans (by decide) hd) (Nat.zero_le _) (Nat.zero_le _) rfl ?_
  refine x_ld (v := .ref 1) r202_66 rfl rfl rfl ?_
  refine x_ld (v := .ref 80) r202_67 rfl rfl rfl ?_
  refine y_gf (cd := 0) (v := .int (D11.1 80 6)) r202_68 rfl rfl rfl ?_
  obtain ⟨D13, e14, h⟩ := am_ltE h
  refine y_pf0 r202_71 rfl e14 rfl ?_
  refine x_ld (v := .ref 1) r202_74 rfl rfl rfl ?_
  refine x_ld (v := .ref 80) r202_75 rfl rfl rfl ?_
  refine y_gf (cd := 0) (v := .int (D13.1 80 7)) r202_76 rfl rfl rfl ?_
  obtain ⟨D15, e16, h⟩ := am_ltE h
  refine y_pf0 r202_79 rfl e16 rfl ?_
  refine x_ld (v := .ref 1) r202_82 rfl rfl rfl ?_
  refine x_ld (v := .ref 80) r202_83 rfl rfl rfl ?_
  refine y_gf (cd := 0) (v := .int (D15.1 80 8)) r202_84 rfl rfl rfl ?_
  obtain ⟨D17, e18, h⟩ := am_ltE h
  refine y_pf0 r202_87 rfl e18 rfl ?_
  refine x_ld (v := .ref 1) r202_90 rfl rfl rfl ?_
  refine x_ld (v := .ref 80) r202_91 rfl rfl rfl ?_
  refine y_gf (cd := 0) (v := .int (D17.1 80 9)) r202_92 rfl rfl rfl ?_
  obtain ⟨D19, e20, h⟩ := am_ltE h
  refine y_pf0 r202_95 rfl e20 rfl ?_
  refine x_ld (v := .ref 1) r202_98 rfl rfl rfl ?_
  refine x_ld (v := .ref 80) r202_99 rfl rfl rfl ?_
  refine y_gf (cd := 0) (v := .int (D19.1 80 10)) r202_100 rfl rfl rfl ?_
  obtain ⟨D21, e22, h⟩ := am_ltE h
  refine y_pf0 r202_103 rfl e22 rfl ?_
  refine x_ld (v := .ref 1) r202_106 rfl rfl rfl ?_
  refine x_ld (v := .ref 80) r202_107 rfl rfl rfl ?_
  refine y_gf (cd := 0) (v := .int (D21.1 80 11)) r202_108 rfl rfl rfl ?_
  obtain ⟨D23, e24, h⟩ := am_ltE h
  refine y_pf0 r202_111 rfl e24 rfl ?_
  refine x_ld (v := .ref 1) r202_114 rfl rfl rfl ?_
  refine x_ld (v := .ref 80) r202_115 rfl rfl rfl ?_
  refine y_gf (cd := 0) (v := .int (D23.1 80 12)) r202_116 rfl rfl rfl ?_
  obtain ⟨D25, e26, h⟩ := am_ltE h
  refine y_pf0 r202_119 rfl e26 rfl ?_
  refine x_ld (v := .ref 1) r202_122 rfl rfl rfl ?_
  refine x_ld (v := .ref 80) r202_123 rfl rfl rfl ?_
  refine y_gf (cd := 0) (v := .int (D25.1 80 13)) r202_124 rfl rfl rfl ?_
  obtain ⟨D27, e28, h⟩ := am_ltE h
  refine y_pf0 r202_127 rfl e28 rfl ?_
  refine x_ld (v := .ref 1) r202_130 rfl rfl rfl ?_
  refine x_ld (v := .ref 80) r202_131 rfl rfl rfl ?_
  refine y_gf (cd := 0) (v := .int (D27.1 80 14)) r202_132 rfl rfl rfl ?_
  obtain ⟨D29, e30, h⟩ := am_ltE h
  refine y_pf0 r202_135 rfl e30 rfl ?_
  refine x_ld (v := .ref 1) r202_138 rfl rfl rfl ?_
  refine x_ld (v := .ref 80) r202_139 rfl rfl rfl ?_
  refine y_gf (cd := 0) (v := .int (D29.1 80 15)) r202_140 rfl rfl rfl ?_
  obtain ⟨D31, e32, h⟩ := am_ltE h
  refine y_pf0 r202_143 rfl e32 rfl ?_
  subst h
  exact x_ret (ret := none) (C := True) (v := none) r202_146 rt202 rfl rfl rfl rfl rfl rfl rfl rfl trivial hQ
theorem m202_1_80_ok {D : am_D} {r : am_D} (h : m202_1_80 D = r) : am_Y xs L 202 3 0 0 [.ref 1, .ref 80] D (.inl none) r := am_Yof (mi := am_m202) (lc := [.ref 1, .ref 80]) pg202 (Nat.le_of_ble_eq_true rfl) (am_rc1 (ci := 4) rfl rfl rfl rfl rfl) rfl (fun Q hQ => m202_1_80_w (Nat.le_refl _) h hQ)
theorem r169_0 : am_at 169 0 = some (.aload_n 0, 1, [0]) := by decide +kernel
theorem r169_1 : am_at 169 1 = some (.aload_n 0, 1, [0]) := by decide +kernel
theorem r169_2 : am_at 169 2 = some (.getfield 18, 3, [1, 2, 0, 166]) := by decide +kernel
theorem r169_5 : am_at 169 5 = some (.iconst (1), 1, []) := by decide +kernel
theorem r169_6 : am_at 169 6 = some (.isub, 1, []) := by decide +kernel
theorem r169_7 : am_at 169 7 = some (.invokevirtual 25, 3, [170, 2, 380, 0]) := by decide +kernel
theorem r169_10 : am_at 169 10 = some (.astore_n 2, 1, [2]) := by decide +kernel
theorem r169_11 : am_at 169 11 = some (.aload_n 2, 1, [2]) := by decide +kernel
theorem r169_12 : am_at 169 12 = some (.ifnull (18), 3, [30]) := by decide +kernel
theorem r169_15 : am_at 169 15 = some (.aload_n 1, 1, [1]) := by decide +kernel
theorem r169_16 : am_at 169 16 = some (.aload_n 2, 1, [2]) := by decide +kernel
theorem r169_17 : am_at 169 17 = some (.invokevirtual 29, 3, [202, 2, 384, 0]) := by decide +kernel
theorem r169_20 : am_at 169 20 = some (.aload_n 0, 1, [0]) := by decide +kernel
theorem r169_21 : am_at 169 21 = some (.dup, 1, []) := by decide +kernel
theorem r169_22 : am_at 169 22 = some (.getfield 18, 3, [1, 2, 0, 166]) := by decide +kernel
theorem r169_25 : am_at 169 25 = some (.iconst (1), 1, []) := by decide +kernel
theorem r169_26 : am_at 169 26 = some (.isub, 1, []) := by decide +kernel
theorem r169_27 : am_at 169 27 = some (.putfield 18, 3, [1, 2, 0, 166]) := by decide +kernel
theorem r169_30 : am_at 169 30 = some (.return_, 1, []) := by decide +kernel
theorem rt169 : am_rtt 169 = some (none) := by decide +kernel
set_option maxRecDepth 100000 in
theorem pg169 : am_pg[169]? = some am_m169 := rfl
theorem m169_w {d mc ms : Nat} {D : am_D} {Q : am_O → am_AH → Prop} (hd : 4 ≤ d) {r : am_D} (h : m169 D = some r) (hQ : Q (.inl none) (am_mk r)) : am_X xs L 169 d mc ms 0 [.ref 23, .ref 1, am_dead] [] (am_mk D) 0 0 Q := by
  unfold m169 at h
  refine x_ld (v := .ref 23) r169_0 rfl rfl rfl ?_
  refine x_ld (v := .ref 23) r169_1 rfl rfl rfl ?_
  refine y_gf (cd := 0) (v := .int (D.1 23 2)) r169_2 rfl rfl rfl ?_
  refine x_ic (v := 1) r169_5 rfl rfl ?_
  refine x_ar r169_6 rfl trivial rfl ?_
  obtain ⟨q1, h2, h⟩ := Option.bind_eq_some_iff.mp h
  refine x_call1 (as := [.ref 23, .int ((D.1 23 2) - (1 : Int32))]) (rest := []) r169_7 rfl rfl rfl (by decide) (Nat.le_of_ble_eq_true rfl) (m170_ok h2) (Nat.le_trans (by decide) hd) (Nat.zero_le _) (Nat.zero_le _) rfl ?_
  rcases am_ifE h with ⟨c3, h⟩ | ⟨c3, h⟩
  · refine am_topR (v := 25) (by rw [c3]) ?_
    refine x_sto (lc' := [.ref 23, .ref 1, .ref 25]) r169_10 rfl rfl rfl rfl ?_
    refine x_ld (v := .ref 25) r169_11 rfl rfl rfl ?_
    refine x_ifnull r169_12 rfl ?_
    refine x_ld (v := .ref 1) r169_15 rfl rfl rfl ?_
    refine x_ld (v := .ref 25) r169_16 rfl rfl rfl ?_
    obtain ⟨q4, h5, h⟩ := am_ltE h
    replace h5 := h5.symm
    refine x_call0 (as := [.ref 1, .ref 25]) (rest := []) r169_17 rfl rfl rfl (by decide) (Nat.le_of_ble_eq_true rfl) (m202_1_25_ok h5) (Nat.le_trans (by decide) hd) (Nat.zero_le _) (Nat.zero_le _) rfl ?_
    refine x_ld (v := .ref 23) r169_20 rfl rfl rfl ?_
    refine x_ar r169_21 rfl trivial rfl ?_
    refine y_gf (cd := 0) (v := .int (q4.1 23 2)) r169_22 rfl rfl rfl ?_
    refine x_ic (v := 1) r169_25 rfl rfl ?_
    refine x_ar r169_26 rfl trivial rfl ?_
    obtain ⟨D6, e7, h⟩ := am_ltE h
    refine y_pf0 r169_27 rfl e7 rfl ?_
    cases h
    exact x_ret (ret := none) (C := True) (v := none) r169_30 rt169 rfl rfl rfl rfl rfl rfl rfl rfl trivial hQ
  · rcases am_ifE h with ⟨c8, h⟩ | ⟨c8, h⟩
    · refine am_topR (v := 36) (by rw [c8]) ?_
      refine x_sto (lc' := [.ref 23, .ref 1, .ref 36]) r169_10 rfl rfl rfl rfl ?_
      refine x_ld (v := .ref 36) r169_11 rfl rfl rfl ?_
      refine x_ifnull r169_12 rfl ?_
      refine x_ld (v := .ref 1) r169_15 rfl rfl rfl ?_
      refine x_ld (v := .ref 36) r169_16 rfl rfl rfl ?_
      obtain ⟨q9, h10, h⟩ := am_ltE h
      replace h10 := h10.symm
      refine x_call0 (as := [.ref 1, .ref 36]) (rest := []) r169_17 rfl rfl rfl (by decide) (Nat.le_of_ble_eq_true rfl) (m202_1_36_ok h10) (Nat.le_trans (by decide) hd) (Nat.zero_le _) (Nat.zero_le _) rfl ?_
      refine x_ld (v := .ref 23) r169_20 rfl rfl rfl ?_
      refine x_ar r169_21 rfl trivial rfl ?_
      refine y_gf (cd := 0) (v := .int (q9.1 23 2)) r169_22 rfl rfl rfl ?_
      refine x_ic (v := 1) r169_25 rfl rfl ?_
      refine x_ar r169_26 rfl trivial rfl ?_
      obtain ⟨D11, e12, h⟩ := am_ltE h
      refine y_pf0 r169_27 rfl e12 rfl ?_
      cases h
      exact x_ret (ret := none) (C := True) (v := none) r169_30 rt169 rfl rfl rfl rfl rfl rfl rfl rfl trivial hQ
    · rcases am_ifE h with ⟨c13, h⟩ | ⟨c13, h⟩
      · refine am_topR (v := 47) (by rw [c13]) ?_
        refine x_sto (lc' := [.ref 23, .ref 1, .ref 47]) r169_10 rfl rfl rfl rfl ?_
        refine x_ld (v := .ref 47) r169_11 rfl rfl rfl ?_
        refine x_ifnull r169_12 rfl ?_
        refine x_ld (v := .ref 1) r169_15 rfl rfl rfl ?_
        refine x_ld (v := .ref 47) r169_16 rfl rfl rfl ?_
        obtain ⟨q14, h15, h⟩ := am_ltE h
        replace h15 := h15.symm
        refine x_call0 (as := [.ref 1, .ref 47]) (rest := []) r169_17 rfl rfl rfl (by decide) (Nat.le_of_ble_eq_true rfl) (m202_1_47_ok h15) (Nat.le_trans (by decide) hd) (Nat.zero_le _) (Nat.zero_le _) rfl ?_
        refine x_ld (v := .ref 23) r169_20 rfl rfl rfl ?_
        refine x_ar r169_21 rfl trivial rfl ?_
        refine y_gf (cd := 0) (v := .int (q14.1 23 2)) r169_22 rfl rfl rfl ?_
        refine x_ic (v := 1) r169_25 rfl rfl ?_
        refine x_ar r169_26 rfl trivial rfl ?_
        obtain ⟨D16, e17, h⟩ := am_ltE h
        refine y_pf0 r169_27 rfl e17 rfl ?_
        cases h
        exact x_ret (ret := none) (C := True) (v := none) r169_30 rt169 rfl rfl rfl rfl rfl rfl rfl rfl trivial hQ
      · rcases am_ifE h with ⟨c18, h⟩ | ⟨c18, h⟩
        · refine am_topR (v := 58) (by rw [c18]) ?_
          refine x_sto (lc' := [.ref 23, .ref 1, .ref 58]) r169_10 rfl rfl rfl rfl ?_
          refine x_ld (v := .ref 58) r169_11 rfl rfl rfl ?_
          refine x_ifnull r169_12 rfl ?_
          refine x_ld (v := .ref 1) r169_15 rfl rfl rfl ?_
          refine x_ld (v := .ref 58) r169_16 rfl rfl rfl ?_
          obtain ⟨q19, h20, h⟩ := am_ltE h
          replace h20 := h20.symm
          refine x_call0 (as := [.ref 1, .ref 58]) (rest := []) r169_17 rfl rfl rfl (by decide) (Nat.le_of_ble_eq_true rfl) (m202_1_58_ok h20) (Nat.le_trans (by decide) hd) (Nat.zero_le _) (Nat.zero_le _) rfl ?_
          refine x_ld (v := .ref 23) r169_20 rfl rfl rfl ?_
          refine x_ar r169_21 rfl trivial rfl ?_
          refine y_gf (cd := 0) (v := .int (q19.1 23 2)) r169_22 rfl rfl rfl ?_
          refine x_ic (v := 1) r169_25 rfl rfl ?_
          refine x_ar r169_26 rfl trivial rfl ?_
          obtain ⟨D21, e22, h⟩ := am_ltE h
          refine y_pf0 r169_27 rfl e22 rfl ?_
          cases h
          exact x_ret (ret := none) (C := True) (v := none) r169_30 rt169 rfl rfl rfl rfl rfl rfl rfl rfl trivial hQ
        · rcases am_ifE h with ⟨c23, h⟩ | ⟨c23, h⟩
          · refine am_topR (v := 69) (by rw [c23]) ?_
            refine x_sto (lc' := [.ref 23, .ref 1, .ref 69]) r169_10 rfl rfl rfl rfl ?_
            refine x_ld (v := .ref 69) r169_11 rfl rfl rfl ?_
            refine x_ifnull r169_12 rfl ?_
            refine x_ld (v := .ref 1) r169_15 rfl rfl rfl ?_
            refine x_ld (v := .ref 69) r169_16 rfl rfl rfl ?_
            obtain ⟨q24, h25, h⟩ := am_ltE h
            replace h25 := h25.symm
            refine x_call0 (as := [.ref 1, .ref 69]) (rest := []) r169_17 rfl rfl rfl (by decide) (Nat.le_of_ble_eq_true rfl) (m202_1_69_ok h25) (Nat.le_trans (by decide) hd) (Nat.zero_le _) (Nat.zero_le _) rfl ?_
            refine x_ld (v := .ref 23) r169_20 rfl rfl rfl ?_
            refine x_ar r169_21 rfl trivial rfl ?_
            refine y_gf (cd := 0) (v := .int (q24.1 23 2)) r169_22 rfl rfl rfl ?_
            refine x_ic (v := 1) r169_25 rfl rfl ?_
            refine x_ar r169_26 rfl trivial rfl ?_
            obtain ⟨D26, e27, h⟩ := am_ltE h
            refine y_pf0 r169_27 rfl e27 rfl ?_
            cases h
            exact x_ret (ret := none) (C := True) (v := none) r169_30 rt169 rfl rfl rfl rfl rfl rfl rfl rfl trivial hQ
          · rcases am_ifE h with ⟨c28, h⟩ | ⟨c28, h⟩
            · refine am_topR (v := 80) (by rw [c28]) ?_
              refine x_sto (lc' := [.ref 23, .ref 1, .ref 80]) r169_10 rfl rfl rfl rfl ?_
              refine x_ld (v := .ref 80) r169_11 rfl rfl rfl ?_
              refine x_ifnull r169_12 rfl ?_
              refine x_ld (v := .ref 1) r169_15 rfl rfl rfl ?_
              refine x_ld (v := .ref 80) r169_16 rfl rfl rfl ?_
              obtain ⟨q29, h30, h⟩ := am_ltE h
              replace h30 := h30.symm
              refine x_call0 (as := [.ref 1, .ref 80]) (rest := []) r169_17 rfl rfl rfl (by decide) (Nat.le_of_ble_eq_true rfl) (m202_1_80_ok h30) (Nat.le_trans (by decide) hd) (Nat.zero_le _) (Nat.zero_le _) rfl ?_
              refine x_ld (v := .ref 23) r169_20 rfl rfl rfl ?_
              refine x_ar r169_21 rfl trivial rfl ?_
              refine y_gf (cd := 0) (v := .int (q29.1 23 2)) r169_22 rfl rfl rfl ?_
              refine x_ic (v := 1) r169_25 rfl rfl ?_
              refine x_ar r169_26 rfl trivial rfl ?_
              obtain ⟨D31, e32, h⟩ := am_ltE h
              refine y_pf0 r169_27 rfl e32 rfl ?_
              cases h
              exact x_ret (ret := none) (C := True) (v := none) r169_30 rt169 rfl rfl rfl rfl rfl rfl rfl rfl trivial hQ
            · cases h
theorem m169_ok {D : am_D} {r : am_D} (h : m169 D = some r) : am_Y xs L 169 4 0 0 [.ref 23, .ref 1] D (.inl none) r := am_Yof (mi := am_m169) (lc := [.ref 23, .ref 1, am_dead]) pg169 (Nat.le_of_ble_eq_true rfl) (am_rc1 (ci := 1) rfl rfl rfl rfl rfl) rfl (fun Q hQ => m169_w (Nat.le_refl _) h hQ)
theorem r177_0 : am_at 177 0 = some (.iconst (0), 1, []) := by decide +kernel
theorem r177_1 : am_at 177 1 = some (.istore_n 3, 1, [3]) := by decide +kernel
theorem r177_2 : am_at 177 2 = some (.iconst (0), 1, []) := by decide +kernel
theorem r177_3 : am_at 177 3 = some (.istore 4, 2, [4]) := by decide +kernel
theorem r177_5 : am_at 177 5 = some (.iload 4, 2, [4]) := by decide +kernel
theorem r177_7 : am_at 177 7 = some (.aload_n 0, 1, [0]) := by decide +kernel
theorem r177_8 : am_at 177 8 = some (.getfield 24, 3, [2, 4, 0, 223]) := by decide +kernel
theorem r177_11 : am_at 177 11 = some (.if_icmp .ge (39), 3, [50]) := by decide +kernel
theorem r177_14 : am_at 177 14 = some (.iload_n 3, 1, [3]) := by decide +kernel
theorem r177_15 : am_at 177 15 = some (.iload_n 2, 1, [2]) := by decide +kernel
theorem r177_16 : am_at 177 16 = some (.iload 4, 2, [4]) := by decide +kernel
theorem r177_18 : am_at 177 18 = some (.ishr, 1, []) := by decide +kernel
theorem r177_19 : am_at 177 19 = some (.iconst (1), 1, []) := by decide +kernel
theorem r177_20 : am_at 177 20 = some (.iand, 1, []) := by decide +kernel
theorem r177_21 : am_at 177 21 = some (.ifCond .eq (20), 3, [41]) := by decide +kernel
theorem r177_24 : am_at 177 24 = some (.aload_n 0, 1, [0]) := by decide +kernel
theorem r177_25 : am_at 177 25 = some (.getfield 15, 3, [2, 1, 3, 220]) := by decide +kernel
theorem r177_28 : am_at 177 28 = some (.iload 4, 2, [4]) := by decide +kernel
theorem r177_30 : am_at 177 30 = some (.invokestatic 94, 3, [180, 2, 820, 0]) := by decide +kernel
theorem r177_33 : am_at 177 33 = some (.iload_n 1, 1, [1]) := by decide +kernel
theorem r177_34 : am_at 177 34 = some (.if_icmp .ne (7), 3, [41]) := by decide +kernel
theorem r177_37 : am_at 177 37 = some (.iconst (1), 1, []) := by decide +kernel
theorem r177_38 : am_at 177 38 = some (.goto (4), 3, [42]) := by decide +kernel
theorem r177_41 : am_at 177 41 = some (.iconst (0), 1, []) := by decide +kernel
theorem r177_42 : am_at 177 42 = some (.iadd, 1, []) := by decide +kernel
theorem r177_43 : am_at 177 43 = some (.istore_n 3, 1, [3]) := by decide +kernel
theorem r177_44 : am_at 177 44 = some (.iinc 4 (1), 3, [4]) := by decide +kernel
theorem r177_47 : am_at 177 47 = some (.goto (-42), 3, [5]) := by decide +kernel
theorem r177_50 : am_at 177 50 = some (.iload_n 3, 1, [3]) := by decide +kernel
theorem r177_51 : am_at 177 51 = some (.ireturn, 1, []) := by decide +kernel
theorem rt177 : am_rtt 177 = some (some .int) := by decide +kernel
set_option maxRecDepth 100000 in
theorem pg177 : am_pg[177]? = some am_m177 := rfl
theorem m177_L5_w {d : Nat} {N : Nat} {D : am_D} {v1 : Int32} {v2 : Int32} {mc ms : Nat} {Q : am_O → am_AH → Prop} (hd : 2 ≤ d) : ∀ (n : Nat) (v3 : Int32) (v4 : Int32) {q : Int32} (h : m177_L5 N D v1 v2  n v3 v4 = some q) (k0 : am_X xs L 177 d mc ms 50 [.ref 99, am_dead, am_dead, .int q, am_dead] [] (am_mk D) 0 0 Q), am_X xs L 177 d mc ms 5 [.ref 99, .int v1, .int v2, .int v3, .int v4] [] (am_mk D) 0 0 Q := by
  intro n
  induction n with
  | zero =>
    intro v3 v4 q h k0
    exact (nomatch (show none = some q from h))
  | succ n ih =>
    intro v3 v4 q h k0
    rw [m177_L5] at h
    refine x_ld (v := .int v4) r177_5 rfl rfl rfl ?_
    refine x_ld (v := .ref 99) r177_7 rfl rfl rfl ?_
    refine y_gf (cd := 0) (v := .int (D.1 99 4)) r177_8 rfl rfl rfl ?_
    rcases am_ifE h with ⟨c1, h⟩ | ⟨c1, h⟩
    · refine x_icgeT r177_11 c1 ?_
      refine x_forget (lc0 := [.ref 99, am_dead, am_dead, .int v3, am_dead]) ⟨Or.inl rfl, Or.inr ⟨rfl, rfl⟩, Or.inr ⟨rfl, rfl⟩, Or.inl rfl, Or.inr ⟨rfl, rfl⟩, trivial⟩ ?_
      cases h
      exact k0
    · refine x_icgeF r177_11 c1 rfl ?_
      refine x_ld (v := .int v3) r177_14 rfl rfl rfl ?_
      refine x_ld (v := .int v2) r177_15 rfl rfl rfl ?_
      refine x_ld (v := .int v4) r177_16 rfl rfl rfl ?_
      refine x_ar r177_18 rfl trivial rfl ?_
      refine x_ic (v := 1) r177_19 rfl rfl ?_
      refine x_ar r177_20 rfl trivial rfl ?_
      obtain ⟨q2, h4, h⟩ := am_ltE h
      replace h4 := h4.symm
      have kj3 : am_X xs L 177 d mc ms 42 [.ref 99, .int v1, .int v2, .int v3, .int v4] [.int q2, .int v3] (am_mk D) 0 0 Q := by
        refine x_ar r177_42 rfl trivial rfl ?_
        obtain ⟨x7, e8, h⟩ := am_ltE h
        refine am_topI e8 ?_
        refine x_sto (lc' := [.ref 99, .int v1, .int v2, .int x7, .int v4]) r177_43 rfl rfl rfl rfl ?_
        obtain ⟨x9, e10, h⟩ := am_ltE h
        refine x_sto (lc' := [.ref 99, .int v1, .int v2, .int x7, .int x9]) r177_44 rfl rfl (by subst e10; rfl) rfl ?_
        refine x_goto r177_47 ?_
        exact x_forget (lc0 := [.ref 99, .int v1, .int v2, .int x7, .int x9]) ⟨Or.inl rfl, Or.inl rfl, Or.inl rfl, Or.inl rfl, Or.inl rfl, trivial⟩ (ih x7 x9 h k0)
      rcases am_ifE h4 with ⟨c5, h4⟩ | ⟨c5, h4⟩
      · refine x_ifeqT r177_21 c5 ?_
        refine x_ic (v := 0) r177_41 rfl rfl ?_
        subst h4
        exact kj3
      · refine x_ifeqF r177_21 c5 rfl ?_
        refine x_ld (v := .ref 99) r177_24 rfl rfl rfl ?_
        refine y_gf (cd := 103) (v := .ref 101) r177_25 rfl rfl rfl ?_
        refine x_ld (v := .int v4) r177_28 rfl rfl rfl ?_
        refine x_call1 (as := [.ref 101, .int v4]) (rest := [.int v3]) r177_30 rfl rfl rfl (by decide) (Nat.le_of_ble_eq_true rfl) (am_rows_at (n := 9) rfl (by decide)) (Nat.le_trans (by decide) hd) (Nat.zero_le _) (Nat.zero_le _) rfl ?_
        refine x_ld (v := .int v1) r177_33 rfl rfl rfl ?_
        rcases am_ifE h4 with ⟨c6, h4⟩ | ⟨c6, h4⟩
        · refine x_icneT r177_34 c6 rfl ?_
          refine x_ic (v := 1) r177_37 rfl rfl ?_
          refine x_goto r177_38 ?_
          subst h4
          exact kj3
        · refine x_icneF r177_34 c6 ?_
          refine x_ic (v := 0) r177_41 rfl rfl ?_
          subst h4
          exact kj3
theorem m177_w {d mc ms : Nat} {N : Nat} {D : am_D} {v1 : Int32} {v2 : Int32} {Q : am_O → am_AH → Prop} (hd : 2 ≤ d) {r : Int32} (h : m177 N D v1 v2 = some r) (hQ : Q (.inl (some (.int r))) (am_mk D)) : am_X xs L 177 d mc ms 0 [.ref 99, .int v1, .int v2, am_dead, am_dead] [] (am_mk D) 0 0 Q := by
  unfold m177 at h
  refine x_ic (v := 0) r177_0 rfl rfl ?_
  refine x_sto (lc' := [.ref 99, .int v1, .int v2, .int (0 : Int32), am_dead]) r177_1 rfl rfl rfl rfl ?_
  refine x_ic (v := 0) r177_2 rfl rfl ?_
  refine x_sto (lc' := [.ref 99, .int v1, .int v2, .int (0 : Int32), .int (0 : Int32)]) r177_3 rfl rfl rfl rfl ?_
  obtain ⟨q11, h12, h⟩ := Option.bind_eq_some_iff.mp h
  refine x_forget (lc0 := [.ref 99, .int v1, .int v2, .int (0 : Int32), .int (0 : Int32)]) ⟨Or.inl rfl, Or.inl rfl, Or.inl rfl, Or.inl rfl, Or.inl rfl, trivial⟩ (m177_L5_w hd N (0 : Int32) (0 : Int32) h12 ?_)
  refine x_ld (v := .int q11) r177_50 rfl rfl rfl ?_
  cases h
  exact x_ret (ret := some .int) (C := True) (v := some (.int _)) r177_51 rt177 rfl rfl rfl rfl rfl rfl rfl rfl trivial hQ
theorem m177_ok {N : Nat} {D : am_D} {v1 : Int32} {v2 : Int32} {r : Int32} (h : m177 N D v1 v2 = some r) : am_Y xs L 177 2 0 0 [.ref 99, .int v1, .int v2] D (.inl (some (.int r))) D := am_Yof (mi := am_m177) (lc := [.ref 99, .int v1, .int v2, am_dead, am_dead]) pg177 (Nat.le_of_ble_eq_true rfl) (am_rc1 (ci := 2) rfl rfl rfl rfl rfl) rfl (fun Q hQ => m177_w (Nat.le_refl _) h hQ)
theorem r185_0 : am_at 185 0 = some (.iload_n 0, 1, [0]) := by decide +kernel
theorem r185_1 : am_at 185 1 = some (.iconst (1), 1, []) := by decide +kernel
theorem r185_2 : am_at 185 2 = some (.iadd, 1, []) := by decide +kernel
theorem r185_3 : am_at 185 3 = some (.iconst (4), 1, []) := by decide +kernel
theorem r185_4 : am_at 185 4 = some (.irem, 1, []) := by decide +kernel
theorem r185_5 : am_at 185 5 = some (.ireturn, 1, []) := by decide +kernel
theorem rt185 : am_rtt 185 = some (some .int) := by decide +kernel
set_option maxRecDepth 100000 in
theorem pg185 : am_pg[185]? = some am_m185 := rfl
theorem m185_w {d mc ms : Nat} {D : am_D} {v0 : Int32} {Q : am_O → am_AH → Prop} (hd : 1 ≤ d) {r : Int32} (h : m185 v0 = r) (hQ : Q (.inl (some (.int r))) (am_mk D)) : am_X xs L 185 d mc ms 0 [.int v0] [] (am_mk D) 0 0 Q := by
  unfold m185 at h
  refine x_ld (v := .int v0) r185_0 rfl rfl rfl ?_
  refine x_ic (v := 1) r185_1 rfl rfl ?_
  refine x_ar r185_2 rfl trivial rfl ?_
  refine x_ic (v := 4) r185_3 rfl rfl ?_
  refine x_ar r185_4 rfl (by decide) rfl ?_
  subst h
  exact x_ret (ret := some .int) (C := True) (v := some (.int _)) r185_5 rt185 rfl rfl rfl rfl rfl rfl rfl rfl trivial hQ
theorem m185_ok {D : am_D} {v0 : Int32} {r : Int32} (h : m185 v0 = r) : am_Y xs L 185 1 0 0 [.int v0] D (.inl (some (.int r))) D := am_Yof (mi := am_m185) (lc := [.int v0]) pg185 (Nat.le_of_ble_eq_true rfl) (am_rc0 rfl) rfl (fun Q hQ => m185_w (Nat.le_refl _) h hQ)
theorem r186_0 : am_at 186 0 = some (.iload_n 0, 1, [0]) := by decide +kernel
theorem r186_1 : am_at 186 1 = some (.iconst (4), 1, []) := by decide +kernel
theorem r186_2 : am_at 186 2 = some (.iadd, 1, []) := by decide +kernel
theorem r186_3 : am_at 186 3 = some (.iconst (1), 1, []) := by decide +kernel
theorem r186_4 : am_at 186 4 = some (.isub, 1, []) := by decide +kernel
theorem r186_5 : am_at 186 5 = some (.iconst (4), 1, []) := by decide +kernel
theorem r186_6 : am_at 186 6 = some (.irem, 1, []) := by decide +kernel
theorem r186_7 : am_at 186 7 = some (.ireturn, 1, []) := by decide +kernel
theorem rt186 : am_rtt 186 = some (some .int) := by decide +kernel
set_option maxRecDepth 100000 in
theorem pg186 : am_pg[186]? = some am_m186 := rfl
theorem m186_w {d mc ms : Nat} {D : am_D} {v0 : Int32} {Q : am_O → am_AH → Prop} (hd : 1 ≤ d) {r : Int32} (h : m186 v0 = r) (hQ : Q (.inl (some (.int r))) (am_mk D)) : am_X xs L 186 d mc ms 0 [.int v0] [] (am_mk D) 0 0 Q := by
  unfold m186 at h
  refine x_ld (v := .int v0) r186_0 rfl rfl rfl ?_
  refine x_ic (v := 4) r186_1 rfl rfl ?_
  refine x_ar r186_2 rfl trivial rfl ?_
  refine x_ic (v := 1) r186_3 rfl rfl ?_
  refine x_ar r186_4 rfl trivial rfl ?_
  refine x_ic (v := 4) r186_5 rfl rfl ?_
  refine x_ar r186_6 rfl (by decide) rfl ?_
  subst h
  exact x_ret (ret := some .int) (C := True) (v := some (.int _)) r186_7 rt186 rfl rfl rfl rfl rfl rfl rfl rfl trivial hQ
theorem m186_ok {D : am_D} {v0 : Int32} {r : Int32} (h : m186 v0 = r) : am_Y xs L 186 1 0 0 [.int v0] D (.inl (some (.int r))) D := am_Yof (mi := am_m186) (lc := [.int v0]) pg186 (Nat.le_of_ble_eq_true rfl) (am_rc0 rfl) rfl (fun Q hQ => m186_w (Nat.le_refl _) h hQ)
theorem r187_0 : am_at 187 0 = some (.iload_n 0, 1, [0]) := by decide +kernel
theorem r187_1 : am_at 187 1 = some (.iconst (2), 1, []) := by decide +kernel
theorem r187_2 : am_at 187 2 = some (.irem, 1, []) := by decide +kernel
theorem r187_3 : am_at 187 3 = some (.ireturn, 1, []) := by decide +kernel
theorem rt187 : am_rtt 187 = some (some .int) := by decide +kernel
set_option maxRecDepth 100000 in
theorem pg187 : am_pg[187]? = some am_m187 := rfl
theorem m187_w {d mc ms : Nat} {D : am_D} {v0 : Int32} {Q : am_O → am_AH → Prop} (hd : 1 ≤ d) {r : Int32} (h : m187 v0 = r) (hQ : Q (.inl (some (.int r))) (am_mk D)) : am_X xs L 187 d mc ms 0 [.int v0] [] (am_mk D) 0 0 Q := by
  unfold m187 at h
  refine x_ld (v := .int v0) r187_0 rfl rfl rfl ?_
  refine x_ic (v := 2) r187_1 rfl rfl ?_
  refine x_ar r187_2 rfl (by decide) rfl ?_
  subst h
  exact x_ret (ret := some .int) (C := True) (v := some (.int _)) r187_3 rt187 rfl rfl rfl rfl rfl rfl rfl rfl trivial hQ
theorem m187_ok {D : am_D} {v0 : Int32} {r : Int32} (h : m187 v0 = r) : am_Y xs L 187 1 0 0 [.int v0] D (.inl (some (.int r))) D := am_Yof (mi := am_m187) (lc := [.int v0]) pg187 (Nat.le_of_ble_eq_true rfl) (am_rc0 rfl) rfl (fun Q hQ => m187_w (Nat.le_refl _) h hQ)
theorem r190_0 : am_at 190 0 = some (.aload_n 0, 1, [0]) := by decide +kernel
theorem r190_1 : am_at 190 1 = some (.getfield 15, 3, [3, 1, 3, 194]) := by decide +kernel
theorem r190_4 : am_at 190 4 = some (.iload_n 1, 1, [1]) := by decide +kernel
theorem r190_5 : am_at 190 5 = some (.invokestatic 58, 3, [180, 2, 870, 0]) := by decide +kernel
theorem r190_8 : am_at 190 8 = some (.ireturn, 1, []) := by decide +kernel
theorem rt190 : am_rtt 190 = some (some .int) := by decide +kernel
set_option maxRecDepth 100000 in
theorem pg190 : am_pg[190]? = some am_m190 := rfl
theorem m190_w {d mc ms : Nat} {D : am_D} {v1 : Int32} {Q : am_O → am_AH → Prop} (hd : 2 ≤ d) {r : Int32} (h : m190 D v1 = r) (hQ : Q (.inl (some (.int r))) (am_mk D)) : am_X xs L 190 d mc ms 0 [.ref 93, .int v1] [] (am_mk D) 0 0 Q := by
  unfold m190 at h
  refine x_ld (v := .ref 93) r190_0 rfl rfl rfl ?_
  refine y_gf (cd := 97) (v := .ref 95) r190_1 rfl rfl rfl ?_
  refine x_ld (v := .int v1) r190_4 rfl rfl rfl ?_
  refine x_call1 (as := [.ref 95, .int v1]) (rest := []) r190_5 rfl rfl rfl (by decide) (Nat.le_of_ble_eq_true rfl) (am_rows_at (n := 28) rfl (by decide)) (Nat.le_trans (by decide) hd) (Nat.zero_le _) (Nat.zero_le _) rfl ?_
  subst h
  exact x_ret (ret := some .int) (C := True) (v := some (.int _)) r190_8 rt190 rfl rfl rfl rfl rfl rfl rfl rfl trivial hQ
theorem m190_ok {D : am_D} {v1 : Int32} {r : Int32} (h : m190 D v1 = r) : am_Y xs L 190 2 0 0 [.ref 93, .int v1] D (.inl (some (.int r))) D := am_Yof (mi := am_m190) (lc := [.ref 93, .int v1]) pg190 (Nat.le_of_ble_eq_true rfl) (am_rc1 (ci := 3) rfl rfl rfl rfl rfl) rfl (fun Q hQ => m190_w (Nat.le_refl _) h hQ)
theorem r194_0 : am_at 194 0 = some (.iload_n 1, 1, [1]) := by decide +kernel
theorem r194_1 : am_at 194 1 = some (.bipush (8), 2, []) := by decide +kernel
theorem r194_3 : am_at 194 3 = some (.imul, 1, []) := by decide +kernel
theorem r194_4 : am_at 194 4 = some (.iload_n 2, 1, [2]) := by decide +kernel
theorem r194_5 : am_at 194 5 = some (.iadd, 1, []) := by decide +kernel
theorem r194_6 : am_at 194 6 = some (.istore_n 3, 1, [3]) := by decide +kernel
theorem r194_7 : am_at 194 7 = some (.iload_n 1, 1, [1]) := by decide +kernel
theorem r194_8 : am_at 194 8 = some (.ifCond .lt (26), 3, [34]) := by decide +kernel
theorem r194_11 : am_at 194 11 = some (.iload_n 2, 1, [2]) := by decide +kernel
theorem r194_12 : am_at 194 12 = some (.ifCond .lt (22), 3, [34]) := by decide +kernel
theorem r194_15 : am_at 194 15 = some (.iload_n 2, 1, [2]) := by decide +kernel
theorem r194_16 : am_at 194 16 = some (.bipush (8), 2, []) := by decide +kernel
theorem r194_18 : am_at 194 18 = some (.if_icmp .ge (16), 3, [34]) := by decide +kernel
theorem r194_21 : am_at 194 21 = some (.iload_n 3, 1, [3]) := by decide +kernel
theorem r194_22 : am_at 194 22 = some (.aload_n 0, 1, [0]) := by decide +kernel
theorem r194_23 : am_at 194 23 = some (.getfield 21, 3, [3, 3, 3, 196]) := by decide +kernel
theorem r194_26 : am_at 194 26 = some (.arraylength, 1, []) := by decide +kernel
theorem r194_27 : am_at 194 27 = some (.if_icmp .ge (7), 3, [34]) := by decide +kernel
theorem r194_30 : am_at 194 30 = some (.iconst (1), 1, []) := by decide +kernel
theorem r194_31 : am_at 194 31 = some (.goto (4), 3, [35]) := by decide +kernel
theorem r194_34 : am_at 194 34 = some (.iconst (0), 1, []) := by decide +kernel
theorem r194_35 : am_at 194 35 = some (.istore 4, 2, [4]) := by decide +kernel
theorem r194_37 : am_at 194 37 = some (.iload 4, 2, [4]) := by decide +kernel
theorem r194_39 : am_at 194 39 = some (.ifCond .eq (16), 3, [55]) := by decide +kernel
theorem r194_42 : am_at 194 42 = some (.iload_n 3, 1, [3]) := by decide +kernel
theorem r194_43 : am_at 194 43 = some (.ifCond .lt (12), 3, [55]) := by decide +kernel
theorem r194_46 : am_at 194 46 = some (.aload_n 0, 1, [0]) := by decide +kernel
theorem r194_47 : am_at 194 47 = some (.getfield 21, 3, [3, 3, 3, 196]) := by decide +kernel
theorem r194_50 : am_at 194 50 = some (.iload_n 3, 1, [3]) := by decide +kernel
theorem r194_51 : am_at 194 51 = some (.laload, 1, []) := by decide +kernel
theorem r194_52 : am_at 194 52 = some (.goto (4), 3, [56]) := by decide +kernel
theorem r194_55 : am_at 194 55 = some (.lconst 0, 1, []) := by decide +kernel
theorem r194_56 : am_at 194 56 = some (.lreturn, 1, []) := by decide +kernel
theorem rt194 : am_rtt 194 = some (some .long) := by decide +kernel
set_option maxRecDepth 100000 in
theorem pg194 : am_pg[194]? = some am_m194 := rfl
theorem m194_w {d mc ms : Nat} {D : am_D} {v1 : Int32} {v2 : Int32} {Q : am_O → am_AH → Prop} (hd : 1 ≤ d) {r : Int64} (h : m194 D v1 v2 = some r) (hQ : Q (.inl (some (.long r))) (am_mk D)) : am_X xs L 194 d mc ms 0 [.ref 93, .int v1, .int v2, am_dead, am_dead] [] (am_mk D) 0 0 Q := by
  unfold m194 at h
  refine x_ld (v := .int v1) r194_0 rfl rfl rfl ?_
  refine x_bi (v := 8) r194_1 rfl rfl ?_
  refine x_ar r194_3 rfl trivial rfl ?_
  refine x_ld (v := .int v2) r194_4 rfl rfl rfl ?_
  refine x_ar r194_5 rfl trivial rfl ?_
  obtain ⟨x1, e2, h⟩ := am_ltE h
  refine am_topI e2 ?_
  refine x_sto (lc' := [.ref 93, .int v1, .int v2, .int x1, am_dead]) r194_6 rfl rfl rfl rfl ?_
  refine x_ld (v := .int v1) r194_7 rfl rfl rfl ?_
  obtain ⟨q3, h5, h⟩ := am_ltE h
  replace h5 := h5.symm
  have kj4 : am_X xs L 194 d mc ms 35 [.ref 93, .int v1, .int v2, .int x1, am_dead] [.int q3] (am_mk D) 0 0 Q := by
    refine x_sto (lc' := [.ref 93, .int v1, .int v2, .int x1, .int q3]) r194_35 rfl rfl rfl rfl ?_
    refine x_ld (v := .int q3) r194_37 rfl rfl rfl ?_
    rcases am_ifE h with ⟨c10, h⟩ | ⟨c10, h⟩
    · refine x_ifeqT r194_39 c10 ?_
      refine x_ar r194_55 rfl trivial rfl ?_
      cases h
      exact x_ret (ret := some .long) (C := True) (v := some (.long _)) r194_56 rt194 rfl rfl rfl rfl rfl rfl rfl rfl trivial hQ
    · refine x_ifeqF r194_39 c10 rfl ?_
      refine x_ld (v := .int x1) r194_42 rfl rfl rfl ?_
      rcases am_ifE h with ⟨c11, h⟩ | ⟨c11, h⟩
      · refine x_ifltT r194_43 c11 ?_
        refine x_ar r194_55 rfl trivial rfl ?_
        cases h
        exact x_ret (ret := some .long) (C := True) (v := some (.long _)) r194_56 rt194 rfl rfl rfl rfl rfl rfl rfl rfl trivial hQ
      · refine x_ifltF r194_43 c11 rfl ?_
        refine x_ld (v := .ref 93) r194_46 rfl rfl rfl ?_
        refine y_gf (cd := 99) (v := .ref 97) r194_47 rfl rfl rfl ?_
        refine x_ld (v := .int x1) r194_50 rfl rfl rfl ?_
        obtain ⟨g12, h⟩ := am_gdE h
        refine y_lal (n := 64) r194_51 rfl (by decide) g12 rfl rfl ?_
        refine x_goto r194_52 ?_
        cases h
        exact x_ret (ret := some .long) (C := True) (v := some (.long _)) r194_56 rt194 rfl rfl rfl rfl rfl rfl rfl rfl trivial hQ
  rcases am_ifE h5 with ⟨c6, h5⟩ | ⟨c6, h5⟩
  · refine x_ifltT r194_8 c6 ?_
    refine x_ic (v := 0) r194_34 rfl rfl ?_
    subst h5
    exact kj4
  · refine x_ifltF r194_8 c6 rfl ?_
    refine x_ld (v := .int v2) r194_11 rfl rfl rfl ?_
    rcases am_ifE h5 with ⟨c7, h5⟩ | ⟨c7, h5⟩
    · refine x_ifltT r194_12 c7 ?_
      refine x_ic (v := 0) r194_34 rfl rfl ?_
      subst h5
      exact kj4
    · refine x_ifltF r194_12 c7 rfl ?_
      refine x_ld (v := .int v2) r194_15 rfl rfl rfl ?_
      refine x_bi (v := 8) r194_16 rfl rfl ?_
      rcases am_ifE h5 with ⟨c8, h5⟩ | ⟨c8, h5⟩
      · refine x_icgeT r194_18 c8 ?_
        refine x_ic (v := 0) r194_34 rfl rfl ?_
        subst h5
        exact kj4
      · refine x_icgeF r194_18 c8 rfl ?_
        refine x_ld (v := .int x1) r194_21 rfl rfl rfl ?_
        refine x_ld (v := .ref 93) r194_22 rfl rfl rfl ?_
        refine y_gf (cd := 99) (v := .ref 97) r194_23 rfl rfl rfl ?_
        refine y_alen (tag := 1) (n := 64) (v := 64) r194_26 rfl rfl rfl ?_
        rcases am_ifE h5 with ⟨c9, h5⟩ | ⟨c9, h5⟩
        · refine x_icgeT r194_27 c9 ?_
          refine x_ic (v := 0) r194_34 rfl rfl ?_
          subst h5
          exact kj4
        · refine x_icgeF r194_27 c9 rfl ?_
          refine x_ic (v := 1) r194_30 rfl rfl ?_
          refine x_goto r194_31 ?_
          subst h5
          exact kj4
theorem m194_ok {D : am_D} {v1 : Int32} {v2 : Int32} {r : Int64} (h : m194 D v1 v2 = some r) : am_Y xs L 194 1 0 0 [.ref 93, .int v1, .int v2] D (.inl (some (.long r))) D := am_Yof (mi := am_m194) (lc := [.ref 93, .int v1, .int v2, am_dead, am_dead]) pg194 (Nat.le_of_ble_eq_true rfl) (am_rc1 (ci := 3) rfl rfl rfl rfl rfl) rfl (fun Q hQ => m194_w (Nat.le_refl _) h hQ)
theorem r195_0 : am_at 195 0 = some (.iload_n 1, 1, [1]) := by decide +kernel
theorem r195_1 : am_at 195 1 = some (.bipush (8), 2, []) := by decide +kernel
theorem r195_3 : am_at 195 3 = some (.imul, 1, []) := by decide +kernel
theorem r195_4 : am_at 195 4 = some (.iload_n 2, 1, [2]) := by decide +kernel
theorem r195_5 : am_at 195 5 = some (.iadd, 1, []) := by decide +kernel
theorem r195_6 : am_at 195 6 = some (.istore 5, 2, [5]) := by decide +kernel
theorem r195_8 : am_at 195 8 = some (.iload_n 1, 1, [1]) := by decide +kernel
theorem r195_9 : am_at 195 9 = some (.ifCond .lt (36), 3, [45]) := by decide +kernel
theorem r195_12 : am_at 195 12 = some (.iload_n 2, 1, [2]) := by decide +kernel
theorem r195_13 : am_at 195 13 = some (.ifCond .lt (32), 3, [45]) := by decide +kernel
theorem r195_16 : am_at 195 16 = some (.iload_n 2, 1, [2]) := by decide +kernel
theorem r195_17 : am_at 195 17 = some (.bipush (8), 2, []) := by decide +kernel
theorem r195_19 : am_at 195 19 = some (.if_icmp .ge (26), 3, [45]) := by decide +kernel
theorem r195_22 : am_at 195 22 = some (.iload 5, 2, [5]) := by decide +kernel
theorem r195_24 : am_at 195 24 = some (.ifCond .lt (21), 3, [45]) := by decide +kernel
theorem r195_27 : am_at 195 27 = some (.iload 5, 2, [5]) := by decide +kernel
theorem r195_29 : am_at 195 29 = some (.aload_n 0, 1, [0]) := by decide +kernel
theorem r195_30 : am_at 195 30 = some (.getfield 21, 3, [3, 3, 3, 196]) := by decide +kernel
theorem r195_33 : am_at 195 33 = some (.arraylength, 1, []) := by decide +kernel
theorem r195_34 : am_at 195 34 = some (.if_icmp .ge (11), 3, [45]) := by decide +kernel
theorem r195_37 : am_at 195 37 = some (.aload_n 0, 1, [0]) := by decide +kernel
theorem r195_38 : am_at 195 38 = some (.getfield 21, 3, [3, 3, 3, 196]) := by decide +kernel
theorem r195_41 : am_at 195 41 = some (.iload 5, 2, [5]) := by decide +kernel
theorem r195_43 : am_at 195 43 = some (.lload_n 3, 1, [3]) := by decide +kernel
theorem r195_44 : am_at 195 44 = some (.lastore, 1, []) := by decide +kernel
theorem r195_45 : am_at 195 45 = some (.return_, 1, []) := by decide +kernel
theorem rt195 : am_rtt 195 = some (none) := by decide +kernel
set_option maxRecDepth 100000 in
theorem pg195 : am_pg[195]? = some am_m195 := rfl
theorem m195_w {d mc ms : Nat} {D : am_D} {v1 : Int32} {v2 : Int32} {v3 : Int64} {Q : am_O → am_AH → Prop} (hd : 1 ≤ d) {r : am_D} (h : m195 D v1 v2 v3 = r) (hQ : Q (.inl none) (am_mk r)) : am_X xs L 195 d mc ms 0 [.ref 93, .int v1, .int v2, .long v3, am_dead, am_dead] [] (am_mk D) 0 0 Q := by
  unfold m195 at h
  refine x_ld (v := .int v1) r195_0 rfl rfl rfl ?_
  refine x_bi (v := 8) r195_1 rfl rfl ?_
  refine x_ar r195_3 rfl trivial rfl ?_
  refine x_ld (v := .int v2) r195_4 rfl rfl rfl ?_
  refine x_ar r195_5 rfl trivial rfl ?_
  obtain ⟨x1, e2, h⟩ := am_ltE h
  refine am_topI e2 ?_
  refine x_sto (lc' := [.ref 93, .int v1, .int v2, .long v3, am_dead, .int x1]) r195_6 rfl rfl rfl rfl ?_
  refine x_ld (v := .int v1) r195_8 rfl rfl rfl ?_
  rcases am_ifE h with ⟨c3, h⟩ | ⟨c3, h⟩
  · refine x_ifltT r195_9 c3 ?_
    subst h
    exact x_ret (ret := none) (C := True) (v := none) r195_45 rt195 rfl rfl rfl rfl rfl rfl rfl rfl trivial hQ
  · refine x_ifltF r195_9 c3 rfl ?_
    refine x_ld (v := .int v2) r195_12 rfl rfl rfl ?_
    rcases am_ifE h with ⟨c4, h⟩ | ⟨c4, h⟩
    · refine x_ifltT r195_13 c4 ?_
      subst h
      exact x_ret (ret := none) (C := True) (v := none) r195_45 rt195 rfl rfl rfl rfl rfl rfl rfl rfl trivial hQ
    · refine x_ifltF r195_13 c4 rfl ?_
      refine x_ld (v := .int v2) r195_16 rfl rfl rfl ?_
      refine x_bi (v := 8) r195_17 rfl rfl ?_
      rcases am_ifE h with ⟨c5, h⟩ | ⟨c5, h⟩
      · refine x_icgeT r195_19 c5 ?_
        subst h
        exact x_ret (ret := none) (C := True) (v := none) r195_45 rt195 rfl rfl rfl rfl rfl rfl rfl rfl trivial hQ
      · refine x_icgeF r195_19 c5 rfl ?_
        refine x_ld (v := .int x1) r195_22 rfl rfl rfl ?_
        rcases am_ifE h with ⟨c6, h⟩ | ⟨c6, h⟩
        · refine x_ifltT r195_24 c6 ?_
          subst h
          exact x_ret (ret := none) (C := True) (v := none) r195_45 rt195 rfl rfl rfl rfl rfl rfl rfl rfl trivial hQ
        · refine x_ifltF r195_24 c6 rfl ?_
          refine x_ld (v := .int x1) r195_27 rfl rfl rfl ?_
          refine x_ld (v := .ref 93) r195_29 rfl rfl rfl ?_
          refine y_gf (cd := 99) (v := .ref 97) r195_30 rfl rfl rfl ?_
          refine y_alen (tag := 1) (n := 64) (v := 64) r195_33 rfl rfl rfl ?_
          rcases am_ifE h with ⟨c7, h⟩ | ⟨c7, h⟩
          · refine x_icgeT r195_34 c7 ?_
            subst h
            exact x_ret (ret := none) (C := True) (v := none) r195_45 rt195 rfl rfl rfl rfl rfl rfl rfl rfl trivial hQ
          · refine x_icgeF r195_34 c7 rfl ?_
            refine x_ld (v := .ref 93) r195_37 rfl rfl rfl ?_
            refine y_gf (cd := 99) (v := .ref 97) r195_38 rfl rfl rfl ?_
            refine x_ld (v := .int x1) r195_41 rfl rfl rfl ?_
            refine x_ld (v := .long v3) r195_43 rfl rfl rfl ?_
            obtain ⟨D8, e9, h⟩ := am_ltE h
            refine y_las (n := 64) r195_44 rfl (by decide) ⟨(Int32.not_lt.mp c6), (Int32.not_le.mp c7)⟩ rfl e9 rfl ?_
            subst h
            exact x_ret (ret := none) (C := True) (v := none) r195_45 rt195 rfl rfl rfl rfl rfl rfl rfl rfl trivial hQ
theorem m195_ok {D : am_D} {v1 : Int32} {v2 : Int32} {v3 : Int64} {r : am_D} (h : m195 D v1 v2 v3 = r) : am_Y xs L 195 1 0 0 [.ref 93, .int v1, .int v2, .long v3] D (.inl none) r := am_Yof (mi := am_m195) (lc := [.ref 93, .int v1, .int v2, .long v3, am_dead, am_dead]) pg195 (Nat.le_of_ble_eq_true rfl) (am_rc1 (ci := 3) rfl rfl rfl rfl rfl) rfl (fun Q hQ => m195_w (Nat.le_refl _) h hQ)
theorem r198_0 : am_at 198 0 = some (.iload_n 1, 1, [1]) := by decide +kernel
theorem r198_1 : am_at 198 1 = some (.ifCond .lt (18), 3, [19]) := by decide +kernel
theorem r198_4 : am_at 198 4 = some (.iload_n 1, 1, [1]) := by decide +kernel
theorem r198_5 : am_at 198 5 = some (.bipush (22), 2, []) := by decide +kernel
theorem r198_7 : am_at 198 7 = some (.if_icmp .ge (12), 3, [19]) := by decide +kernel
theorem r198_10 : am_at 198 10 = some (.iload_n 2, 1, [2]) := by decide +kernel
theorem r198_11 : am_at 198 11 = some (.ifCond .lt (8), 3, [19]) := by decide +kernel
theorem r198_14 : am_at 198 14 = some (.iload_n 2, 1, [2]) := by decide +kernel
theorem r198_15 : am_at 198 15 = some (.iload_n 1, 1, [1]) := by decide +kernel
theorem r198_16 : am_at 198 16 = some (.if_icmp .le (5), 3, [21]) := by decide +kernel
theorem r198_19 : am_at 198 19 = some (.lconst 0, 1, []) := by decide +kernel
theorem r198_20 : am_at 198 20 = some (.lreturn, 1, []) := by decide +kernel
theorem r198_21 : am_at 198 21 = some (.iload_n 1, 1, [1]) := by decide +kernel
theorem r198_22 : am_at 198 22 = some (.bipush (22), 2, []) := by decide +kernel
theorem r198_24 : am_at 198 24 = some (.imul, 1, []) := by decide +kernel
theorem r198_25 : am_at 198 25 = some (.iload_n 2, 1, [2]) := by decide +kernel
theorem r198_26 : am_at 198 26 = some (.iadd, 1, []) := by decide +kernel
theorem r198_27 : am_at 198 27 = some (.istore_n 3, 1, [3]) := by decide +kernel
theorem r198_28 : am_at 198 28 = some (.iload_n 3, 1, [3]) := by decide +kernel
theorem r198_29 : am_at 198 29 = some (.aload_n 0, 1, [0]) := by decide +kernel
theorem r198_30 : am_at 198 30 = some (.getfield 25, 3, [3, 4, 3, 197]) := by decide +kernel
theorem r198_33 : am_at 198 33 = some (.arraylength, 1, []) := by decide +kernel
theorem r198_34 : am_at 198 34 = some (.if_icmp .ge (12), 3, [46]) := by decide +kernel
theorem r198_37 : am_at 198 37 = some (.aload_n 0, 1, [0]) := by decide +kernel
theorem r198_38 : am_at 198 38 = some (.getfield 25, 3, [3, 4, 3, 197]) := by decide +kernel
theorem r198_41 : am_at 198 41 = some (.iload_n 3, 1, [3]) := by decide +kernel
theorem r198_42 : am_at 198 42 = some (.laload, 1, []) := by decide +kernel
theorem r198_43 : am_at 198 43 = some (.goto (4), 3, [47]) := by decide +kernel
theorem r198_46 : am_at 198 46 = some (.lconst 0, 1, []) := by decide +kernel
theorem r198_47 : am_at 198 47 = some (.lreturn, 1, []) := by decide +kernel
theorem rt198 : am_rtt 198 = some (some .long) := by decide +kernel
set_option maxRecDepth 100000 in
theorem pg198 : am_pg[198]? = some am_m198 := rfl
theorem m198_w {d mc ms : Nat} {D : am_D} {v1 : Int32} {v2 : Int32} {Q : am_O → am_AH → Prop} (hd : 1 ≤ d) {r : Int64} (h : m198 D v1 v2 = some r) (hQ : Q (.inl (some (.long r))) (am_mk D)) : am_X xs L 198 d mc ms 0 [.ref 93, .int v1, .int v2, am_dead] [] (am_mk D) 0 0 Q := by
  unfold m198 at h
  refine x_ld (v := .int v1) r198_0 rfl rfl rfl ?_
  rcases am_ifE h with ⟨c1, h⟩ | ⟨c1, h⟩
  · refine x_ifltT r198_1 c1 ?_
    refine x_ar r198_19 rfl trivial rfl ?_
    cases h
    exact x_ret (ret := some .long) (C := True) (v := some (.long _)) r198_20 rt198 rfl rfl rfl rfl rfl rfl rfl rfl trivial hQ
  · refine x_ifltF r198_1 c1 rfl ?_
    refine x_ld (v := .int v1) r198_4 rfl rfl rfl ?_
    refine x_bi (v := 22) r198_5 rfl rfl ?_
    rcases am_ifE h with ⟨c2, h⟩ | ⟨c2, h⟩
    · refine x_icgeT r198_7 c2 ?_
      refine x_ar r198_19 rfl trivial rfl ?_
      cases h
      exact x_ret (ret := some .long) (C := True) (v := some (.long _)) r198_20 rt198 rfl rfl rfl rfl rfl rfl rfl rfl trivial hQ
    · refine x_icgeF r198_7 c2 rfl ?_
      refine x_ld (v := .int v2) r198_10 rfl rfl rfl ?_
      rcases am_ifE h with ⟨c3, h⟩ | ⟨c3, h⟩
      · refine x_ifltT r198_11 c3 ?_
        refine x_ar r198_19 rfl trivial rfl ?_
        cases h
        exact x_ret (ret := some .long) (C := True) (v := some (.long _)) r198_20 rt198 rfl rfl rfl rfl rfl rfl rfl rfl trivial hQ
      · refine x_ifltF r198_11 c3 rfl ?_
        refine x_ld (v := .int v2) r198_14 rfl rfl rfl ?_
        refine x_ld (v := .int v1) r198_15 rfl rfl rfl ?_
        rcases am_ifE h with ⟨c4, h⟩ | ⟨c4, h⟩
        · refine x_icleT r198_16 c4 ?_
          refine x_ld (v := .int v1) r198_21 rfl rfl rfl ?_
          refine x_bi (v := 22) r198_22 rfl rfl ?_
          refine x_ar r198_24 rfl trivial rfl ?_
          refine x_ld (v := .int v2) r198_25 rfl rfl rfl ?_
          refine x_ar r198_26 rfl trivial rfl ?_
          obtain ⟨x5, e6, h⟩ := am_ltE h
          refine am_topI e6 ?_
          refine x_sto (lc' := [.ref 93, .int v1, .int v2, .int x5]) r198_27 rfl rfl rfl rfl ?_
          refine x_ld (v := .int x5) r198_28 rfl rfl rfl ?_
          refine x_ld (v := .ref 93) r198_29 rfl rfl rfl ?_
          refine y_gf (cd := 100) (v := .ref 98) r198_30 rfl rfl rfl ?_
          refine y_alen (tag := 1) (n := 484) (v := 484) r198_33 rfl rfl rfl ?_
          rcases am_ifE h with ⟨c7, h⟩ | ⟨c7, h⟩
          · refine x_icgeT r198_34 c7 ?_
            refine x_ar r198_46 rfl trivial rfl ?_
            cases h
            exact x_ret (ret := some .long) (C := True) (v := some (.long _)) r198_47 rt198 rfl rfl rfl rfl rfl rfl rfl rfl trivial hQ
          · refine x_icgeF r198_34 c7 rfl ?_
            refine x_ld (v := .ref 93) r198_37 rfl rfl rfl ?_
            refine y_gf (cd := 100) (v := .ref 98) r198_38 rfl rfl rfl ?_
            refine x_ld (v := .int x5) r198_41 rfl rfl rfl ?_
            obtain ⟨g8, h⟩ := am_gdE h
            refine y_lal (n := 484) r198_42 rfl (by decide) g8 rfl rfl ?_
            refine x_goto r198_43 ?_
            cases h
            exact x_ret (ret := some .long) (C := True) (v := some (.long _)) r198_47 rt198 rfl rfl rfl rfl rfl rfl rfl rfl trivial hQ
        · refine x_icleF r198_16 c4 rfl ?_
          refine x_ar r198_19 rfl trivial rfl ?_
          cases h
          exact x_ret (ret := some .long) (C := True) (v := some (.long _)) r198_20 rt198 rfl rfl rfl rfl rfl rfl rfl rfl trivial hQ
theorem m198_ok {D : am_D} {v1 : Int32} {v2 : Int32} {r : Int64} (h : m198 D v1 v2 = some r) : am_Y xs L 198 1 0 0 [.ref 93, .int v1, .int v2] D (.inl (some (.long r))) D := am_Yof (mi := am_m198) (lc := [.ref 93, .int v1, .int v2, am_dead]) pg198 (Nat.le_of_ble_eq_true rfl) (am_rc1 (ci := 3) rfl rfl rfl rfl rfl) rfl (fun Q hQ => m198_w (Nat.le_refl _) h hQ)
theorem r203_0 : am_at 203 0 = some (.aload_n 0, 1, [0]) := by decide +kernel
theorem r203_1 : am_at 203 1 = some (.getfield 18, 3, [4, 1, 3, 90]) := by decide +kernel
theorem r203_4 : am_at 203 4 = some (.iload_n 1, 1, [1]) := by decide +kernel
theorem r203_5 : am_at 203 5 = some (.invokestatic 75, 3, [180, 2, 488, 0]) := by decide +kernel
theorem r203_8 : am_at 203 8 = some (.ireturn, 1, []) := by decide +kernel
theorem rt203 : am_rtt 203 = some (some .int) := by decide +kernel
set_option maxRecDepth 100000 in
theorem pg203 : am_pg[203]? = some am_m203 := rfl
theorem m203_w {d mc ms : Nat} {D : am_D} {v1 : Int32} {Q : am_O → am_AH → Prop} (hd : 2 ≤ d) {r : Int32} (h : m203 D v1 = r) (hQ : Q (.inl (some (.int r))) (am_mk D)) : am_X xs L 203 d mc ms 0 [.ref 1, .int v1] [] (am_mk D) 0 0 Q := by
  unfold m203 at h
  refine x_ld (v := .ref 1) r203_0 rfl rfl rfl ?_
  refine y_gf (cd := 9) (v := .ref 7) r203_1 rfl rfl rfl ?_
  refine x_ld (v := .int v1) r203_4 rfl rfl rfl ?_
  refine x_call1 (as := [.ref 7, .int v1]) (rest := []) r203_5 rfl rfl rfl (by decide) (Nat.le_of_ble_eq_true rfl) (am_rows_at (n := 28) rfl (by decide)) (Nat.le_trans (by decide) hd) (Nat.zero_le _) (Nat.zero_le _) rfl ?_
  subst h
  exact x_ret (ret := some .int) (C := True) (v := some (.int _)) r203_8 rt203 rfl rfl rfl rfl rfl rfl rfl rfl trivial hQ
theorem m203_ok {D : am_D} {v1 : Int32} {r : Int32} (h : m203 D v1 = r) : am_Y xs L 203 2 0 0 [.ref 1, .int v1] D (.inl (some (.int r))) D := am_Yof (mi := am_m203) (lc := [.ref 1, .int v1]) pg203 (Nat.le_of_ble_eq_true rfl) (am_rc1 (ci := 4) rfl rfl rfl rfl rfl) rfl (fun Q hQ => m203_w (Nat.le_refl _) h hQ)
theorem r204_0 : am_at 204 0 = some (.iconst (0), 1, []) := by decide +kernel
theorem r204_1 : am_at 204 1 = some (.istore_n 2, 1, [2]) := by decide +kernel
theorem r204_2 : am_at 204 2 = some (.iconst (0), 1, []) := by decide +kernel
theorem r204_3 : am_at 204 3 = some (.istore_n 3, 1, [3]) := by decide +kernel
theorem r204_4 : am_at 204 4 = some (.iload_n 3, 1, [3]) := by decide +kernel
theorem r204_5 : am_at 204 5 = some (.aload_n 0, 1, [0]) := by decide +kernel
theorem r204_6 : am_at 204 6 = some (.getfield 18, 3, [4, 1, 3, 90]) := by decide +kernel
theorem r204_9 : am_at 204 9 = some (.arraylength, 1, []) := by decide +kernel
theorem r204_10 : am_at 204 10 = some (.if_icmp .ge (27), 3, [37]) := by decide +kernel
theorem r204_13 : am_at 204 13 = some (.iload_n 2, 1, [2]) := by decide +kernel
theorem r204_14 : am_at 204 14 = some (.aload_n 0, 1, [0]) := by decide +kernel
theorem r204_15 : am_at 204 15 = some (.getfield 18, 3, [4, 1, 3, 90]) := by decide +kernel
theorem r204_18 : am_at 204 18 = some (.iload_n 3, 1, [3]) := by decide +kernel
theorem r204_19 : am_at 204 19 = some (.iaload, 1, []) := by decide +kernel
theorem r204_20 : am_at 204 20 = some (.iload_n 1, 1, [1]) := by decide +kernel
theorem r204_21 : am_at 204 21 = some (.if_icmp .ne (7), 3, [28]) := by decide +kernel
theorem r204_24 : am_at 204 24 = some (.iconst (1), 1, []) := by decide +kernel
theorem r204_25 : am_at 204 25 = some (.goto (4), 3, [29]) := by decide +kernel
theorem r204_28 : am_at 204 28 = some (.iconst (0), 1, []) := by decide +kernel
theorem r204_29 : am_at 204 29 = some (.iadd, 1, []) := by decide +kernel
theorem r204_30 : am_at 204 30 = some (.istore_n 2, 1, [2]) := by decide +kernel
theorem r204_31 : am_at 204 31 = some (.iinc 3 (1), 3, [3]) := by decide +kernel
theorem r204_34 : am_at 204 34 = some (.goto (-30), 3, [4]) := by decide +kernel
theorem r204_37 : am_at 204 37 = some (.iload_n 2, 1, [2]) := by decide +kernel
theorem r204_38 : am_at 204 38 = some (.ireturn, 1, []) := by decide +kernel
theorem rt204 : am_rtt 204 = some (some .int) := by decide +kernel
set_option maxRecDepth 100000 in
theorem pg204 : am_pg[204]? = some am_m204 := rfl
theorem m204_L4_w {d : Nat} {N : Nat} {D : am_D} {v1 : Int32} {mc ms : Nat} {Q : am_O → am_AH → Prop} (hd : 1 ≤ d) : ∀ (n : Nat) (v2 : Int32) (v3 : Int32) {q : Int32} (h : m204_L4 N D v1  n v2 v3 = some q) (k0 : am_X xs L 204 d mc ms 37 [.ref 1, am_dead, .int q, am_dead] [] (am_mk D) 0 0 Q), am_X xs L 204 d mc ms 4 [.ref 1, .int v1, .int v2, .int v3] [] (am_mk D) 0 0 Q := by
  intro n
  induction n with
  | zero =>
    intro v2 v3 q h k0
    exact (nomatch (show none = some q from h))
  | succ n ih =>
    intro v2 v3 q h k0
    rw [m204_L4] at h
    refine x_ld (v := .int v3) r204_4 rfl rfl rfl ?_
    refine x_ld (v := .ref 1) r204_5 rfl rfl rfl ?_
    refine y_gf (cd := 9) (v := .ref 7) r204_6 rfl rfl rfl ?_
    refine y_alen (tag := 0) (n := 28) (v := 28) r204_9 rfl rfl rfl ?_
    rcases am_ifE h with ⟨c1, h⟩ | ⟨c1, h⟩
    · refine x_icgeT r204_10 c1 ?_
      refine x_forget (lc0 := [.ref 1, am_dead, .int v2, am_dead]) ⟨Or.inl rfl, Or.inr ⟨rfl, rfl⟩, Or.inl rfl, Or.inr ⟨rfl, rfl⟩, trivial⟩ ?_
      cases h
      exact k0
    · refine x_icgeF r204_10 c1 rfl ?_
      refine x_ld (v := .int v2) r204_13 rfl rfl rfl ?_
      refine x_ld (v := .ref 1) r204_14 rfl rfl rfl ?_
      refine y_gf (cd := 9) (v := .ref 7) r204_15 rfl rfl rfl ?_
      refine x_ld (v := .int v3) r204_18 rfl rfl rfl ?_
      obtain ⟨g2, h⟩ := am_gdE h
      refine y_ial (n := 28) r204_19 rfl (by decide) g2 rfl rfl ?_
      refine x_ld (v := .int v1) r204_20 rfl rfl rfl ?_
      obtain ⟨q3, h5, h⟩ := am_ltE h
      replace h5 := h5.symm
      have kj4 : am_X xs L 204 d mc ms 29 [.ref 1, .int v1, .int v2, .int v3] [.int q3, .int v2] (am_mk D) 0 0 Q := by
        refine x_ar r204_29 rfl trivial rfl ?_
        obtain ⟨x7, e8, h⟩ := am_ltE h
        refine am_topI e8 ?_
        refine x_sto (lc' := [.ref 1, .int v1, .int x7, .int v3]) r204_30 rfl rfl rfl rfl ?_
        obtain ⟨x9, e10, h⟩ := am_ltE h
        refine x_sto (lc' := [.ref 1, .int v1, .int x7, .int x9]) r204_31 rfl rfl (by subst e10; rfl) rfl ?_
        refine x_goto r204_34 ?_
        exact x_forget (lc0 := [.ref 1, .int v1, .int x7, .int x9]) ⟨Or.inl rfl, Or.inl rfl, Or.inl rfl, Or.inl rfl, trivial⟩ (ih x7 x9 h k0)
      rcases am_ifE h5 with ⟨c6, h5⟩ | ⟨c6, h5⟩
      · refine x_icneT r204_21 c6 rfl ?_
        refine x_ic (v := 1) r204_24 rfl rfl ?_
        refine x_goto r204_25 ?_
        subst h5
        exact kj4
      · refine x_icneF r204_21 c6 ?_
        refine x_ic (v := 0) r204_28 rfl rfl ?_
        subst h5
        exact kj4
theorem m204_w {d mc ms : Nat} {N : Nat} {D : am_D} {v1 : Int32} {Q : am_O → am_AH → Prop} (hd : 1 ≤ d) {r : Int32} (h : m204 N D v1 = some r) (hQ : Q (.inl (some (.int r))) (am_mk D)) : am_X xs L 204 d mc ms 0 [.ref 1, .int v1, am_dead, am_dead] [] (am_mk D) 0 0 Q := by
  unfold m204 at h
  refine x_ic (v := 0) r204_0 rfl rfl ?_
  refine x_sto (lc' := [.ref 1, .int v1, .int (0 : Int32), am_dead]) r204_1 rfl rfl rfl rfl ?_
  refine x_ic (v := 0) r204_2 rfl rfl ?_
  refine x_sto (lc' := [.ref 1, .int v1, .int (0 : Int32), .int (0 : Int32)]) r204_3 rfl rfl rfl rfl ?_
  obtain ⟨q11, h12, h⟩ := Option.bind_eq_some_iff.mp h
  refine x_forget (lc0 := [.ref 1, .int v1, .int (0 : Int32), .int (0 : Int32)]) ⟨Or.inl rfl, Or.inl rfl, Or.inl rfl, Or.inl rfl, trivial⟩ (m204_L4_w hd N (0 : Int32) (0 : Int32) h12 ?_)
  refine x_ld (v := .int q11) r204_37 rfl rfl rfl ?_
  cases h
  exact x_ret (ret := some .int) (C := True) (v := some (.int _)) r204_38 rt204 rfl rfl rfl rfl rfl rfl rfl rfl trivial hQ
theorem m204_ok {N : Nat} {D : am_D} {v1 : Int32} {r : Int32} (h : m204 N D v1 = some r) : am_Y xs L 204 1 0 0 [.ref 1, .int v1] D (.inl (some (.int r))) D := am_Yof (mi := am_m204) (lc := [.ref 1, .int v1, am_dead, am_dead]) pg204 (Nat.le_of_ble_eq_true rfl) (am_rc1 (ci := 4) rfl rfl rfl rfl rfl) rfl (fun Q hQ => m204_w (Nat.le_refl _) h hQ)
theorem r207_0 : am_at 207 0 = some (.iconst (0), 1, []) := by decide +kernel
theorem r207_1 : am_at 207 1 = some (.istore_n 2, 1, [2]) := by decide +kernel
theorem r207_2 : am_at 207 2 = some (.iload_n 2, 1, [2]) := by decide +kernel
theorem r207_3 : am_at 207 3 = some (.aload_n 0, 1, [0]) := by decide +kernel
theorem r207_4 : am_at 207 4 = some (.getfield 18, 3, [4, 1, 3, 90]) := by decide +kernel
theorem r207_7 : am_at 207 7 = some (.arraylength, 1, []) := by decide +kernel
theorem r207_8 : am_at 207 8 = some (.if_icmp .ge (21), 3, [29]) := by decide +kernel
theorem r207_11 : am_at 207 11 = some (.aload_n 0, 1, [0]) := by decide +kernel
theorem r207_12 : am_at 207 12 = some (.getfield 18, 3, [4, 1, 3, 90]) := by decide +kernel
theorem r207_15 : am_at 207 15 = some (.iload_n 2, 1, [2]) := by decide +kernel
theorem r207_16 : am_at 207 16 = some (.iaload, 1, []) := by decide +kernel
theorem r207_17 : am_at 207 17 = some (.iload_n 1, 1, [1]) := by decide +kernel
theorem r207_18 : am_at 207 18 = some (.if_icmp .ne (5), 3, [23]) := by decide +kernel
theorem r207_21 : am_at 207 21 = some (.iload_n 2, 1, [2]) := by decide +kernel
theorem r207_22 : am_at 207 22 = some (.ireturn, 1, []) := by decide +kernel
theorem r207_23 : am_at 207 23 = some (.iinc 2 (1), 3, [2]) := by decide +kernel
theorem r207_26 : am_at 207 26 = some (.goto (-24), 3, [2]) := by decide +kernel
theorem r207_29 : am_at 207 29 = some (.iconst (-1), 1, []) := by decide +kernel
theorem r207_30 : am_at 207 30 = some (.ireturn, 1, []) := by decide +kernel
theorem rt207 : am_rtt 207 = some (some .int) := by decide +kernel
set_option maxRecDepth 100000 in
theorem pg207 : am_pg[207]? = some am_m207 := rfl
theorem m207_L2_w {d : Nat} {N : Nat} {D : am_D} {v1 : Int32} {mc ms : Nat} {Q : am_O → am_AH → Prop} (hd : 1 ≤ d) : ∀ (n : Nat) (v2 : Int32) {q : Nat × Int32} (h : m207_L2 N D v1  n v2 = some q) (k0 : q.1 = 0 → am_X xs L 207 d mc ms 29 [.ref 1, am_dead, am_dead] [] (am_mk D) 0 0 Q) (k1 : q.1 = 1 → am_X xs L 207 d mc ms 21 [.ref 1, am_dead, .int q.2] [] (am_mk D) 0 0 Q), am_X xs L 207 d mc ms 2 [.ref 1, .int v1, .int v2] [] (am_mk D) 0 0 Q := by
  intro n
  induction n with
  | zero =>
    intro v2 q h k0 k1
    exact (nomatch (show none = some q from h))
  | succ n ih =>
    intro v2 q h k0 k1
    rw [m207_L2] at h
    refine x_ld (v := .int v2) r207_2 rfl rfl rfl ?_
    refine x_ld (v := .ref 1) r207_3 rfl rfl rfl ?_
    refine y_gf (cd := 9) (v := .ref 7) r207_4 rfl rfl rfl ?_
    refine y_alen (tag := 0) (n := 28) (v := 28) r207_7 rfl rfl rfl ?_
    rcases am_ifE h with ⟨c1, h⟩ | ⟨c1, h⟩
    · refine x_icgeT r207_8 c1 ?_
      refine x_forget (lc0 := [.ref 1, am_dead, am_dead]) ⟨Or.inl rfl, Or.inr ⟨rfl, rfl⟩, Or.inr ⟨rfl, rfl⟩, trivial⟩ ?_
      cases h
      exact k0 rfl
    · refine x_icgeF r207_8 c1 rfl ?_
      refine x_ld (v := .ref 1) r207_11 rfl rfl rfl ?_
      refine y_gf (cd := 9) (v := .ref 7) r207_12 rfl rfl rfl ?_
      refine x_ld (v := .int v2) r207_15 rfl rfl rfl ?_
      obtain ⟨g2, h⟩ := am_gdE h
      refine y_ial (n := 28) r207_16 rfl (by decide) g2 rfl rfl ?_
      refine x_ld (v := .int v1) r207_17 rfl rfl rfl ?_
      rcases am_ifE h with ⟨c3, h⟩ | ⟨c3, h⟩
      · refine x_icneT r207_18 c3 rfl ?_
        refine x_forget (lc0 := [.ref 1, am_dead, .int v2]) ⟨Or.inl rfl, Or.inr ⟨rfl, rfl⟩, Or.inl rfl, trivial⟩ ?_
        cases h
        exact k1 rfl
      · refine x_icneF r207_18 c3 ?_
        obtain ⟨x4, e5, h⟩ := am_ltE h
        refine x_sto (lc' := [.ref 1, .int v1, .int x4]) r207_23 rfl rfl (by subst e5; rfl) rfl ?_
        refine x_goto r207_26 ?_
        exact x_forget (lc0 := [.ref 1, .int v1, .int x4]) ⟨Or.inl rfl, Or.inl rfl, Or.inl rfl, trivial⟩ (ih x4 h k0 k1)
theorem m207_w {d mc ms : Nat} {N : Nat} {D : am_D} {v1 : Int32} {Q : am_O → am_AH → Prop} (hd : 1 ≤ d) {r : Int32} (h : m207 N D v1 = some r) (hQ : Q (.inl (some (.int r))) (am_mk D)) : am_X xs L 207 d mc ms 0 [.ref 1, .int v1, am_dead] [] (am_mk D) 0 0 Q := by
  unfold m207 at h
  refine x_ic (v := 0) r207_0 rfl rfl ?_
  refine x_sto (lc' := [.ref 1, .int v1, .int (0 : Int32)]) r207_1 rfl rfl rfl rfl ?_
  obtain ⟨q6, h7, h⟩ := Option.bind_eq_some_iff.mp h
  refine x_forget (lc0 := [.ref 1, .int v1, .int (0 : Int32)]) ⟨Or.inl rfl, Or.inl rfl, Or.inl rfl, trivial⟩ (m207_L2_w hd N (0 : Int32) h7 (fun e8 => ?_) (fun e9 => ?_))
  · rw [if_pos e8] at h
    refine x_ic (v := -1) r207_29 rfl rfl ?_
    cases h
    exact x_ret (ret := some .int) (C := True) (v := some (.int _)) r207_30 rt207 rfl rfl rfl rfl rfl rfl rfl rfl trivial hQ
  · rw [if_neg (by rw [e9]; decide)] at h
    refine x_ld (v := .int q6.2) r207_21 rfl rfl rfl ?_
    cases h
    exact x_ret (ret := some .int) (C := True) (v := some (.int _)) r207_22 rt207 rfl rfl rfl rfl rfl rfl rfl rfl trivial hQ
theorem m207_ok {N : Nat} {D : am_D} {v1 : Int32} {r : Int32} (h : m207 N D v1 = some r) : am_Y xs L 207 1 0 0 [.ref 1, .int v1] D (.inl (some (.int r))) D := am_Yof (mi := am_m207) (lc := [.ref 1, .int v1, am_dead]) pg207 (Nat.le_of_ble_eq_true rfl) (am_rc1 (ci := 4) rfl rfl rfl rfl rfl) rfl (fun Q hQ => m207_w (Nat.le_refl _) h hQ)
theorem r210_0 : am_at 210 0 = some (.iconst (0), 1, []) := by decide +kernel
theorem r210_1 : am_at 210 1 = some (.istore_n 1, 1, [1]) := by decide +kernel
theorem r210_2 : am_at 210 2 = some (.iconst (0), 1, []) := by decide +kernel
theorem r210_3 : am_at 210 3 = some (.istore_n 2, 1, [2]) := by decide +kernel
theorem r210_4 : am_at 210 4 = some (.iload_n 2, 1, [2]) := by decide +kernel
theorem r210_5 : am_at 210 5 = some (.iconst (4), 1, []) := by decide +kernel
theorem r210_6 : am_at 210 6 = some (.if_icmp .ge (17), 3, [23]) := by decide +kernel
theorem r210_9 : am_at 210 9 = some (.iload_n 1, 1, [1]) := by decide +kernel
theorem r210_10 : am_at 210 10 = some (.aload_n 0, 1, [0]) := by decide +kernel
theorem r210_11 : am_at 210 11 = some (.iload_n 2, 1, [2]) := by decide +kernel
theorem r210_12 : am_at 210 12 = some (.invokevirtual 103, 3, [204, 2, 585, 0]) := by decide +kernel
theorem r210_15 : am_at 210 15 = some (.iadd, 1, []) := by decide +kernel
theorem r210_16 : am_at 210 16 = some (.istore_n 1, 1, [1]) := by decide +kernel
theorem r210_17 : am_at 210 17 = some (.iinc 2 (1), 3, [2]) := by decide +kernel
theorem r210_20 : am_at 210 20 = some (.goto (-16), 3, [4]) := by decide +kernel
theorem r210_23 : am_at 210 23 = some (.iload_n 1, 1, [1]) := by decide +kernel
theorem r210_24 : am_at 210 24 = some (.ireturn, 1, []) := by decide +kernel
theorem rt210 : am_rtt 210 = some (some .int) := by decide +kernel
set_option maxRecDepth 100000 in
theorem pg210 : am_pg[210]? = some am_m210 := rfl
theorem m210_L4_w {d : Nat} {N : Nat} {D : am_D} {mc ms : Nat} {Q : am_O → am_AH → Prop} (hd : 2 ≤ d) : ∀ (n : Nat) (v1 : Int32) (v2 : Int32) {q : Int32} (h : m210_L4 N D  n v1 v2 = some q) (k0 : am_X xs L 210 d mc ms 23 [.ref 1, .int q, am_dead] [] (am_mk D) 0 0 Q), am_X xs L 210 d mc ms 4 [.ref 1, .int v1, .int v2] [] (am_mk D) 0 0 Q := by
  intro n
  induction n with
  | zero =>
    intro v1 v2 q h k0
    exact (nomatch (show none = some q from h))
  | succ n ih =>
    intro v1 v2 q h k0
    rw [m210_L4] at h
    refine x_ld (v := .int v2) r210_4 rfl rfl rfl ?_
    refine x_ic (v := 4) r210_5 rfl rfl ?_
    rcases am_ifE h with ⟨c1, h⟩ | ⟨c1, h⟩
    · refine x_icgeT r210_6 c1 ?_
      refine x_forget (lc0 := [.ref 1, .int v1, am_dead]) ⟨Or.inl rfl, Or.inl rfl, Or.inr ⟨rfl, rfl⟩, trivial⟩ ?_
      cases h
      exact k0
    · refine x_icgeF r210_6 c1 rfl ?_
      refine x_ld (v := .int v1) r210_9 rfl rfl rfl ?_
      refine x_ld (v := .ref 1) r210_10 rfl rfl rfl ?_
      refine x_ld (v := .int v2) r210_11 rfl rfl rfl ?_
      obtain ⟨q2, h3, h⟩ := Option.bind_eq_some_iff.mp h
      refine x_call1 (as := [.ref 1, .int v2]) (rest := [.int v1]) r210_12 rfl rfl rfl (by decide) (Nat.le_of_ble_eq_true rfl) (m204_ok h3) (Nat.le_trans (by decide) hd) (Nat.zero_le _) (Nat.zero_le _) rfl ?_
      refine x_ar r210_15 rfl trivial rfl ?_
      obtain ⟨x4, e5, h⟩ := am_ltE h
      refine am_topI e5 ?_
      refine x_sto (lc' := [.ref 1, .int x4, .int v2]) r210_16 rfl rfl rfl rfl ?_
      obtain ⟨x6, e7, h⟩ := am_ltE h
      refine x_sto (lc' := [.ref 1, .int x4, .int x6]) r210_17 rfl rfl (by subst e7; rfl) rfl ?_
      refine x_goto r210_20 ?_
      exact x_forget (lc0 := [.ref 1, .int x4, .int x6]) ⟨Or.inl rfl, Or.inl rfl, Or.inl rfl, trivial⟩ (ih x4 x6 h k0)
theorem m210_w {d mc ms : Nat} {N : Nat} {D : am_D} {Q : am_O → am_AH → Prop} (hd : 2 ≤ d) {r : Int32} (h : m210 N D = some r) (hQ : Q (.inl (some (.int r))) (am_mk D)) : am_X xs L 210 d mc ms 0 [.ref 1, am_dead, am_dead] [] (am_mk D) 0 0 Q := by
  unfold m210 at h
  refine x_ic (v := 0) r210_0 rfl rfl ?_
  refine x_sto (lc' := [.ref 1, .int (0 : Int32), am_dead]) r210_1 rfl rfl rfl rfl ?_
  refine x_ic (v := 0) r210_2 rfl rfl ?_
  refine x_sto (lc' := [.ref 1, .int (0 : Int32), .int (0 : Int32)]) r210_3 rfl rfl rfl rfl ?_
  obtain ⟨q8, h9, h⟩ := Option.bind_eq_some_iff.mp h
  refine x_forget (lc0 := [.ref 1, .int (0 : Int32), .int (0 : Int32)]) ⟨Or.inl rfl, Or.inl rfl, Or.inl rfl, trivial⟩ (m210_L4_w hd N (0 : Int32) (0 : Int32) h9 ?_)
  refine x_ld (v := .int q8) r210_23 rfl rfl rfl ?_
  cases h
  exact x_ret (ret := some .int) (C := True) (v := some (.int _)) r210_24 rt210 rfl rfl rfl rfl rfl rfl rfl rfl trivial hQ
theorem m210_ok {N : Nat} {D : am_D} {r : Int32} (h : m210 N D = some r) : am_Y xs L 210 2 0 0 [.ref 1] D (.inl (some (.int r))) D := am_Yof (mi := am_m210) (lc := [.ref 1, am_dead, am_dead]) pg210 (Nat.le_of_ble_eq_true rfl) (am_rc1 (ci := 4) rfl rfl rfl rfl rfl) rfl (fun Q hQ => m210_w (Nat.le_refl _) h hQ)
theorem r212_0 : am_at 212 0 = some (.aload_n 0, 1, [0]) := by decide +kernel
theorem r212_1 : am_at 212 1 = some (.getfield 34, 3, [4, 6, 0, 100]) := by decide +kernel
theorem r212_4 : am_at 212 4 = some (.ifCond .ne (26), 3, [30]) := by decide +kernel
theorem r212_7 : am_at 212 7 = some (.aload_n 0, 1, [0]) := by decide +kernel
theorem r212_8 : am_at 212 8 = some (.iload_n 2, 1, [2]) := by decide +kernel
theorem r212_9 : am_at 212 9 = some (.invokevirtual 109, 3, [203, 2, 622, 0]) := by decide +kernel
theorem r212_12 : am_at 212 12 = some (.iconst (5), 1, []) := by decide +kernel
theorem r212_13 : am_at 212 13 = some (.if_icmp .ne (17), 3, [30]) := by decide +kernel
theorem r212_16 : am_at 212 16 = some (.aload_n 0, 1, [0]) := by decide +kernel
theorem r212_17 : am_at 212 17 = some (.iload_n 1, 1, [1]) := by decide +kernel
theorem r212_18 : am_at 212 18 = some (.invokevirtual 103, 3, [204, 2, 585, 0]) := by decide +kernel
theorem r212_21 : am_at 212 21 = some (.bipush (7), 2, []) := by decide +kernel
theorem r212_23 : am_at 212 23 = some (.if_icmp .ge (7), 3, [30]) := by decide +kernel
theorem r212_26 : am_at 212 26 = some (.iconst (1), 1, []) := by decide +kernel
theorem r212_27 : am_at 212 27 = some (.goto (4), 3, [31]) := by decide +kernel
theorem r212_30 : am_at 212 30 = some (.iconst (0), 1, []) := by decide +kernel
theorem r212_31 : am_at 212 31 = some (.ireturn, 1, []) := by decide +kernel
theorem rt212 : am_rtt 212 = some (some .boolean) := by decide +kernel
set_option maxRecDepth 100000 in
theorem pg212 : am_pg[212]? = some am_m212 := rfl
theorem m212_w {d mc ms : Nat} {N : Nat} {D : am_D} {v1 : Int32} {v2 : Int32} {Q : am_O → am_AH → Prop} (hd : 3 ≤ d) {r : Int32} (h : m212 N D v1 v2 = some r) (hQ : Q (.inl (some (.int r))) (am_mk D)) : am_X xs L 212 d mc ms 0 [.ref 1, .int v1, .int v2] [] (am_mk D) 0 0 Q := by
  unfold m212 at h
  refine x_ld (v := .ref 1) r212_0 rfl rfl rfl ?_
  refine y_gf (cd := 0) (v := .int (D.1 1 6)) r212_1 rfl rfl rfl ?_
  rcases am_ifE h with ⟨c1, h⟩ | ⟨c1, h⟩
  · refine x_ifneT r212_4 c1 rfl ?_
    refine x_ld (v := .ref 1) r212_7 rfl rfl rfl ?_
    refine x_ld (v := .int v2) r212_8 rfl rfl rfl ?_
    refine x_call1 (as := [.ref 1, .int v2]) (rest := []) r212_9 rfl rfl rfl (by decide) (Nat.le_of_ble_eq_true rfl) (m203_ok rfl) (Nat.le_trans (by decide) hd) (Nat.zero_le _) (Nat.zero_le _) rfl ?_
    refine x_ic (v := 5) r212_12 rfl rfl ?_
    rcases am_ifE h with ⟨c2, h⟩ | ⟨c2, h⟩
    · refine x_icneT r212_13 c2 rfl ?_
      refine x_ld (v := .ref 1) r212_16 rfl rfl rfl ?_
      refine x_ld (v := .int v1) r212_17 rfl rfl rfl ?_
      obtain ⟨q3, h4, h⟩ := Option.bind_eq_some_iff.mp h
      refine x_call1 (as := [.ref 1, .int v1]) (rest := []) r212_18 rfl rfl rfl (by decide) (Nat.le_of_ble_eq_true rfl) (m204_ok h4) (Nat.le_trans (by decide) hd) (Nat.zero_le _) (Nat.zero_le _) rfl ?_
      refine x_bi (v := 7) r212_21 rfl rfl ?_
      rcases am_ifE h with ⟨c5, h⟩ | ⟨c5, h⟩
      · refine x_icgeT r212_23 c5 ?_
        refine x_ic (v := 0) r212_30 rfl rfl ?_
        cases h
        exact x_ret (ret := some .boolean) (C := narrow .boolean (.int (0 : Int32)) = .int (0 : Int32)) (v := some (.int (0 : Int32))) r212_31 rt212 rfl rfl rfl rfl rfl rfl rfl rfl (by decide) hQ
      · refine x_icgeF r212_23 c5 rfl ?_
        refine x_ic (v := 1) r212_26 rfl rfl ?_
        refine x_goto r212_27 ?_
        cases h
        exact x_ret (ret := some .boolean) (C := narrow .boolean (.int (1 : Int32)) = .int (1 : Int32)) (v := some (.int (1 : Int32))) r212_31 rt212 rfl rfl rfl rfl rfl rfl rfl rfl (by decide) hQ
    · refine x_icneF r212_13 c2 ?_
      refine x_ic (v := 0) r212_30 rfl rfl ?_
      cases h
      exact x_ret (ret := some .boolean) (C := narrow .boolean (.int (0 : Int32)) = .int (0 : Int32)) (v := some (.int (0 : Int32))) r212_31 rt212 rfl rfl rfl rfl rfl rfl rfl rfl (by decide) hQ
  · refine x_ifneF r212_4 c1 ?_
    refine x_ic (v := 0) r212_30 rfl rfl ?_
    cases h
    exact x_ret (ret := some .boolean) (C := narrow .boolean (.int (0 : Int32)) = .int (0 : Int32)) (v := some (.int (0 : Int32))) r212_31 rt212 rfl rfl rfl rfl rfl rfl rfl rfl (by decide) hQ
theorem m212_ok {N : Nat} {D : am_D} {v1 : Int32} {v2 : Int32} {r : Int32} (h : m212 N D v1 v2 = some r) : am_Y xs L 212 3 0 0 [.ref 1, .int v1, .int v2] D (.inl (some (.int r))) D := am_Yof (mi := am_m212) (lc := [.ref 1, .int v1, .int v2]) pg212 (Nat.le_of_ble_eq_true rfl) (am_rc1 (ci := 4) rfl rfl rfl rfl rfl) rfl (fun Q hQ => m212_w (Nat.le_refl _) h hQ)
theorem r213_0 : am_at 213 0 = some (.aload_n 0, 1, [0]) := by decide +kernel
theorem r213_1 : am_at 213 1 = some (.getfield 18, 3, [4, 1, 3, 90]) := by decide +kernel
theorem r213_4 : am_at 213 4 = some (.iload_n 2, 1, [2]) := by decide +kernel
theorem r213_5 : am_at 213 5 = some (.iload_n 1, 1, [1]) := by decide +kernel
theorem r213_6 : am_at 213 6 = some (.invokestatic 112, 3, [181, 3, 628, 0]) := by decide +kernel
theorem r213_9 : am_at 213 9 = some (.return_, 1, []) := by decide +kernel
theorem rt213 : am_rtt 213 = some (none) := by decide +kernel
set_option maxRecDepth 100000 in
theorem pg213 : am_pg[213]? = some am_m213 := rfl
theorem m213_w {d mc ms : Nat} {D : am_D} {v1 : Int32} {v2 : Int32} {Q : am_O → am_AH → Prop} (hd : 2 ≤ d) {r : am_D} (h : m213 D v1 v2 = r) (hQ : Q (.inl none) (am_mk r)) : am_X xs L 213 d mc ms 0 [.ref 1, .int v1, .int v2] [] (am_mk D) 0 0 Q := by
  unfold m213 at h
  refine x_ld (v := .ref 1) r213_0 rfl rfl rfl ?_
  refine y_gf (cd := 9) (v := .ref 7) r213_1 rfl rfl rfl ?_
  refine x_ld (v := .int v2) r213_4 rfl rfl rfl ?_
  refine x_ld (v := .int v1) r213_5 rfl rfl rfl ?_
  obtain ⟨D1, e2, h⟩ := am_ltE h
  refine x_call0 (as := [.ref 7, .int v2, .int v1]) (rest := []) r213_6 rfl rfl rfl (by decide) (Nat.le_of_ble_eq_true rfl) (am_rows_put (n := 28) rfl (by decide) e2) (Nat.le_trans (by decide) hd) (Nat.zero_le _) (Nat.zero_le _) rfl ?_
  subst h
  exact x_ret (ret := none) (C := True) (v := none) r213_9 rt213 rfl rfl rfl rfl rfl rfl rfl rfl trivial hQ
theorem m213_ok {D : am_D} {v1 : Int32} {v2 : Int32} {r : am_D} (h : m213 D v1 v2 = r) : am_Y xs L 213 2 0 0 [.ref 1, .int v1, .int v2] D (.inl none) r := am_Yof (mi := am_m213) (lc := [.ref 1, .int v1, .int v2]) pg213 (Nat.le_of_ble_eq_true rfl) (am_rc1 (ci := 4) rfl rfl rfl rfl rfl) rfl (fun Q hQ => m213_w (Nat.le_refl _) h hQ)
theorem r215_0 : am_at 215 0 = some (.iconst (0), 1, []) := by decide +kernel
theorem r215_1 : am_at 215 1 = some (.istore_n 2, 1, [2]) := by decide +kernel
theorem r215_2 : am_at 215 2 = some (.iconst (0), 1, []) := by decide +kernel
theorem r215_3 : am_at 215 3 = some (.istore_n 3, 1, [3]) := by decide +kernel
theorem r215_4 : am_at 215 4 = some (.iload_n 3, 1, [3]) := by decide +kernel
theorem r215_5 : am_at 215 5 = some (.aload_n 0, 1, [0]) := by decide +kernel
theorem r215_6 : am_at 215 6 = some (.getfield 18, 3, [4, 1, 3, 90]) := by decide +kernel
theorem r215_9 : am_at 215 9 = some (.arraylength, 1, []) := by decide +kernel
theorem r215_10 : am_at 215 10 = some (.if_icmp .ge (29), 3, [39]) := by decide +kernel
theorem r215_13 : am_at 215 13 = some (.aload_n 0, 1, [0]) := by decide +kernel
theorem r215_14 : am_at 215 14 = some (.getfield 18, 3, [4, 1, 3, 90]) := by decide +kernel
theorem r215_17 : am_at 215 17 = some (.iload_n 3, 1, [3]) := by decide +kernel
theorem r215_18 : am_at 215 18 = some (.iaload, 1, []) := by decide +kernel
theorem r215_19 : am_at 215 19 = some (.iconst (5), 1, []) := by decide +kernel
theorem r215_20 : am_at 215 20 = some (.if_icmp .ne (13), 3, [33]) := by decide +kernel
theorem r215_23 : am_at 215 23 = some (.iload_n 2, 1, [2]) := by decide +kernel
theorem r215_24 : am_at 215 24 = some (.iload_n 1, 1, [1]) := by decide +kernel
theorem r215_25 : am_at 215 25 = some (.if_icmp .ne (5), 3, [30]) := by decide +kernel
theorem r215_28 : am_at 215 28 = some (.iload_n 3, 1, [3]) := by decide +kernel
theorem r215_29 : am_at 215 29 = some (.ireturn, 1, []) := by decide +kernel
theorem r215_30 : am_at 215 30 = some (.iinc 2 (1), 3, [2]) := by decide +kernel
theorem r215_33 : am_at 215 33 = some (.iinc 3 (1), 3, [3]) := by decide +kernel
theorem r215_36 : am_at 215 36 = some (.goto (-32), 3, [4]) := by decide +kernel
theorem r215_39 : am_at 215 39 = some (.iconst (-1), 1, []) := by decide +kernel
theorem r215_40 : am_at 215 40 = some (.ireturn, 1, []) := by decide +kernel
theorem rt215 : am_rtt 215 = some (some .int) := by decide +kernel
set_option maxRecDepth 100000 in
theorem pg215 : am_pg[215]? = some am_m215 := rfl
theorem m215_L4_w {d : Nat} {N : Nat} {D : am_D} {v1 : Int32} {mc ms : Nat} {Q : am_O → am_AH → Prop} (hd : 1 ≤ d) : ∀ (n : Nat) (v2 : Int32) (v3 : Int32) {q : Nat × Int32} (h : m215_L4 N D v1  n v2 v3 = some q) (k0 : q.1 = 0 → am_X xs L 215 d mc ms 39 [.ref 1, am_dead, am_dead, am_dead] [] (am_mk D) 0 0 Q) (k1 : q.1 = 1 → am_X xs L 215 d mc ms 28 [.ref 1, am_dead, am_dead, .int q.2] [] (am_mk D) 0 0 Q), am_X xs L 215 d mc ms 4 [.ref 1, .int v1, .int v2, .int v3] [] (am_mk D) 0 0 Q := by
  intro n
  induction n with
  | zero =>
    intro v2 v3 q h k0 k1
    exact (nomatch (show none = some q from h))
  | succ n ih =>
    intro v2 v3 q h k0 k1
    rw [m215_L4] at h
    refine x_ld (v := .int v3) r215_4 rfl rfl rfl ?_
    refine x_ld (v := .ref 1) r215_5 rfl rfl rfl ?_
    refine y_gf (cd := 9) (v := .ref 7) r215_6 rfl rfl rfl ?_
    refine y_alen (tag := 0) (n := 28) (v := 28) r215_9 rfl rfl rfl ?_
    rcases am_ifE h with ⟨c1, h⟩ | ⟨c1, h⟩
    · refine x_icgeT r215_10 c1 ?_
      refine x_forget (lc0 := [.ref 1, am_dead, am_dead, am_dead]) ⟨Or.inl rfl, Or.inr ⟨rfl, rfl⟩, Or.inr ⟨rfl, rfl⟩, Or.inr ⟨rfl, rfl⟩, trivial⟩ ?_
      cases h
      exact k0 rfl
    · refine x_icgeF r215_10 c1 rfl ?_
      refine x_ld (v := .ref 1) r215_13 rfl rfl rfl ?_
      refine y_gf (cd := 9) (v := .ref 7) r215_14 rfl rfl rfl ?_
      refine x_ld (v := .int v3) r215_17 rfl rfl rfl ?_
      obtain ⟨g2, h⟩ := am_gdE h
      refine y_ial (n := 28) r215_18 rfl (by decide) g2 rfl rfl ?_
      refine x_ic (v := 5) r215_19 rfl rfl ?_
      rcases am_ifE h with ⟨c3, h⟩ | ⟨c3, h⟩
      · refine x_icneT r215_20 c3 rfl ?_
        refine x_ld (v := .int v2) r215_23 rfl rfl rfl ?_
        refine x_ld (v := .int v1) r215_24 rfl rfl rfl ?_
        rcases am_ifE h with ⟨c4, h⟩ | ⟨c4, h⟩
        · refine x_icneT r215_25 c4 rfl ?_
          refine x_forget (lc0 := [.ref 1, am_dead, am_dead, .int v3]) ⟨Or.inl rfl, Or.inr ⟨rfl, rfl⟩, Or.inr ⟨rfl, rfl⟩, Or.inl rfl, trivial⟩ ?_
          cases h
          exact k1 rfl
        · refine x_icneF r215_25 c4 ?_
          obtain ⟨x5, e6, h⟩ := am_ltE h
          refine x_sto (lc' := [.ref 1, .int v1, .int x5, .int v3]) r215_30 rfl rfl (by subst e6; rfl) rfl ?_
          obtain ⟨x7, e8, h⟩ := am_ltE h
          refine x_sto (lc' := [.ref 1, .int v1, .int x5, .int x7]) r215_33 rfl rfl (by subst e8; rfl) rfl ?_
          refine x_goto r215_36 ?_
          exact x_forget (lc0 := [.ref 1, .int v1, .int x5, .int x7]) ⟨Or.inl rfl, Or.inl rfl, Or.inl rfl, Or.inl rfl, trivial⟩ (ih x5 x7 h k0 k1)
      · refine x_icneF r215_20 c3 ?_
        obtain ⟨x9, e10, h⟩ := am_ltE h
        refine x_sto (lc' := [.ref 1, .int v1, .int v2, .int x9]) r215_33 rfl rfl (by subst e10; rfl) rfl ?_
        refine x_goto r215_36 ?_
        exact x_forget (lc0 := [.ref 1, .int v1, .int v2, .int x9]) ⟨Or.inl rfl, Or.inl rfl, Or.inl rfl, Or.inl rfl, trivial⟩ (ih v2 x9 h k0 k1)
theorem m215_w {d mc ms : Nat} {N : Nat} {D : am_D} {v1 : Int32} {Q : am_O → am_AH → Prop} (hd : 1 ≤ d) {r : Int32} (h : m215 N D v1 = some r) (hQ : Q (.inl (some (.int r))) (am_mk D)) : am_X xs L 215 d mc ms 0 [.ref 1, .int v1, am_dead, am_dead] [] (am_mk D) 0 0 Q := by
  unfold m215 at h
  refine x_ic (v := 0) r215_0 rfl rfl ?_
  refine x_sto (lc' := [.ref 1, .int v1, .int (0 : Int32), am_dead]) r215_1 rfl rfl rfl rfl ?_
  refine x_ic (v := 0) r215_2 rfl rfl ?_
  refine x_sto (lc' := [.ref 1, .int v1, .int (0 : Int32), .int (0 : Int32)]) r215_3 rfl rfl rfl rfl ?_
  obtain ⟨q11, h12, h⟩ := Option.bind_eq_some_iff.mp h
  refine x_forget (lc0 := [.ref 1, .int v1, .int (0 : Int32), .int (0 : Int32)]) ⟨Or.inl rfl, Or.inl rfl, Or.inl rfl, Or.inl rfl, trivial⟩ (m215_L4_w hd N (0 : Int32) (0 : Int32) h12 (fun e13 => ?_) (fun e14 => ?_))
  · rw [if_pos e13] at h
    refine x_ic (v := -1) r215_39 rfl rfl ?_
    cases h
    exact x_ret (ret := some .int) (C := True) (v := some (.int _)) r215_40 rt215 rfl rfl rfl rfl rfl rfl rfl rfl trivial hQ
  · rw [if_neg (by rw [e14]; decide)] at h
    refine x_ld (v := .int q11.2) r215_28 rfl rfl rfl ?_
    cases h
    exact x_ret (ret := some .int) (C := True) (v := some (.int _)) r215_29 rt215 rfl rfl rfl rfl rfl rfl rfl rfl trivial hQ
theorem m215_ok {N : Nat} {D : am_D} {v1 : Int32} {r : Int32} (h : m215 N D v1 = some r) : am_Y xs L 215 1 0 0 [.ref 1, .int v1] D (.inl (some (.int r))) D := am_Yof (mi := am_m215) (lc := [.ref 1, .int v1, am_dead, am_dead]) pg215 (Nat.le_of_ble_eq_true rfl) (am_rc1 (ci := 4) rfl rfl rfl rfl rfl) rfl (fun Q hQ => m215_w (Nat.le_refl _) h hQ)
end XE
