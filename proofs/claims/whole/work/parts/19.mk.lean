/-! methods as functions, with their walks (by wip/tools/decomp.py): 10 11 16 16 16 17 19 35 121 123 124 125 126 127 128 129 -/
section XE
variable {xs : Nat → Int32} {L : Nat}
theorem r10_0 : am_at 10 0 = some (.iload_n 1, 1, [1]) := by decide +kernel
theorem r10_1 : am_at 10 1 = some (.bipush (33), 2, []) := by decide +kernel
theorem r10_3 : am_at 10 3 = some (.if_icmp .lt (9), 3, [12]) := by decide +kernel
theorem r10_6 : am_at 10 6 = some (.iload_n 1, 1, [1]) := by decide +kernel
theorem r10_7 : am_at 10 7 = some (.bipush (126), 2, []) := by decide +kernel
theorem r10_9 : am_at 10 9 = some (.if_icmp .le (13), 3, [22]) := by decide +kernel
theorem r10_12 : am_at 10 12 = some (.new 93, 3, [9, 2, 0, 167, 97, 455, 109, 22, 497]) := by decide +kernel
theorem r10_22 : am_at 10 22 = some (.aload_n 0, 1, [0]) := by decide +kernel
theorem r10_23 : am_at 10 23 = some (.getfield 29, 3, [7, 3, 3, 335]) := by decide +kernel
theorem r10_26 : am_at 10 26 = some (.invokevirtual 169, 3, [231, 1, 1010, 0]) := by decide +kernel
theorem r10_29 : am_at 10 29 = some (.ifCond .eq (13), 3, [42]) := by decide +kernel
theorem r10_32 : am_at 10 32 = some (.new 76, 3, [9, 3, 0, 172, 80, 804, 106, 23, 814]) := by decide +kernel
theorem r10_42 : am_at 10 42 = some (.aload_n 0, 1, [0]) := by decide +kernel
theorem r10_43 : am_at 10 43 = some (.getfield 29, 3, [7, 3, 3, 335]) := by decide +kernel
theorem r10_46 : am_at 10 46 = some (.iload_n 1, 1, [1]) := by decide +kernel
theorem r10_47 : am_at 10 47 = some (.invokevirtual 174, 3, [232, 2, 1015, 0]) := by decide +kernel
theorem r10_50 : am_at 10 50 = some (.aload_n 0, 1, [0]) := by decide +kernel
theorem r10_51 : am_at 10 51 = some (.getfield 29, 3, [7, 3, 3, 335]) := by decide +kernel
theorem r10_54 : am_at 10 54 = some (.getfield 177, 3, [5, 1, 0, 256]) := by decide +kernel
theorem r10_57 : am_at 10 57 = some (.ireturn, 1, []) := by decide +kernel
theorem rt10 : am_rtt 10 = some (some .int) := by decide +kernel
set_option maxRecDepth 100000 in
theorem pg10 : am_pg[10]? = some am_m10 := rfl
theorem m10_w {d mc ms : Nat} {D : am_D} {v1 : Int32} {Q : am_O → am_AH → Prop} (hd : 3 ≤ d) {r : (Int32 ⊕ Nat) × am_D} (h : m10 D v1 = r) (hE : ∀ E, r.1 = .inr E → 0 + 1 ≤ mc ∧ 0 + 6 ≤ ms) (hQ : Q (am_oI r.1) (am_mk r.2)) : am_X xs L 10 d mc ms 0 [.ref 0, .int v1] [] (am_mk D) 0 0 Q := by
  unfold m10 at h
  refine x_ld (v := .int v1) r10_0 rfl rfl rfl ?_
  refine x_bi (v := 33) r10_1 rfl rfl ?_
  rcases am_ifE h with ⟨c1, h⟩ | ⟨c1, h⟩
  · refine x_icltT r10_3 c1 ?_
    subst h
    exact x_thr r10_12 (hE _ rfl).1 (hE _ rfl).2 (Nat.le_of_ble_eq_true rfl) hQ
  · refine x_icltF r10_3 c1 rfl ?_
    refine x_ld (v := .int v1) r10_6 rfl rfl rfl ?_
    refine x_bi (v := 126) r10_7 rfl rfl ?_
    rcases am_ifE h with ⟨c2, h⟩ | ⟨c2, h⟩
    · refine x_icleT r10_9 c2 ?_
      refine x_ld (v := .ref 0) r10_22 rfl rfl rfl ?_
      refine y_gf (cd := 93) (v := .ref 91) r10_23 rfl rfl rfl ?_
      refine x_call1 (as := [.ref 91]) (rest := []) r10_26 rfl rfl rfl (by decide) (Nat.le_of_ble_eq_true rfl) (m231_ok rfl) (Nat.le_trans (by decide) hd) (Nat.zero_le _) (Nat.zero_le _) rfl ?_
      rcases am_ifE h with ⟨c3, h⟩ | ⟨c3, h⟩
      · refine x_ifeqT r10_29 c3 ?_
        refine x_ld (v := .ref 0) r10_42 rfl rfl rfl ?_
        refine y_gf (cd := 93) (v := .ref 91) r10_43 rfl rfl rfl ?_
        refine x_ld (v := .int v1) r10_46 rfl rfl rfl ?_
        obtain ⟨q4, h5, h⟩ := am_ltE h
        replace h5 := h5.symm
        refine x_call0 (as := [.ref 91, .int v1]) (rest := []) r10_47 rfl rfl rfl (by decide) (Nat.le_of_ble_eq_true rfl) (m232_ok h5) (Nat.le_trans (by decide) hd) (Nat.zero_le _) (Nat.zero_le _) rfl ?_
        refine x_ld (v := .ref 0) r10_50 rfl rfl rfl ?_
        refine y_gf (cd := 93) (v := .ref 91) r10_51 rfl rfl rfl ?_
        refine y_gf (cd := 0) (v := .int (q4.1 91 1)) r10_54 rfl rfl rfl ?_
        subst h
        exact x_ret (ret := some .int) (C := True) (v := some (.int _)) r10_57 rt10 rfl rfl rfl rfl rfl rfl rfl rfl trivial hQ
      · refine x_ifeqF r10_29 c3 rfl ?_
        subst h
        exact x_thr r10_32 (hE _ rfl).1 (hE _ rfl).2 (Nat.le_of_ble_eq_true rfl) hQ
    · refine x_icleF r10_9 c2 rfl ?_
      subst h
      exact x_thr r10_12 (hE _ rfl).1 (hE _ rfl).2 (Nat.le_of_ble_eq_true rfl) hQ
theorem m10_okv {D : am_D} {v1 : Int32} {r : (Int32 ⊕ Nat) × am_D} {v : Int32} (h : m10 D v1 = r) (hv : am_inl r.1 = some v) : am_Y xs L 10 3 0 0 [.ref 0, .int v1] D (.inl (some (.int v))) r.2 := am_Yof (mi := am_m10) (lc := [.ref 0, .int v1]) pg10 (Nat.le_of_ble_eq_true rfl) (am_rc1 (ci := 7) rfl rfl rfl rfl rfl) rfl (fun Q hQ => m10_w (Nat.le_refl _) h (fun E e => by rw [e] at hv; cases hv) (by rw [am_inlE hv]; exact hQ))
theorem m10_exv {D : am_D} {v1 : Int32} {r : (Int32 ⊕ Nat) × am_D} {E : Nat} (h : m10 D v1 = r) (hv : r.1 = .inr E) : am_Y xs L 10 3 1 6 [.ref 0, .int v1] D (.inr E) r.2 := am_Yof (mi := am_m10) (lc := [.ref 0, .int v1]) pg10 (Nat.le_of_ble_eq_true rfl) (am_rc1 (ci := 7) rfl rfl rfl rfl rfl) rfl (fun Q hQ => m10_w (Nat.le_refl _) h (fun E e => ⟨Nat.le_refl _, Nat.le_refl _⟩) (by rw [hv]; exact hQ))
theorem r11_0 : am_at 11 0 = some (.aload_n 0, 1, [0]) := by decide +kernel
theorem r11_1 : am_at 11 1 = some (.getfield 29, 3, [7, 3, 3, 335]) := by decide +kernel
theorem r11_4 : am_at 11 4 = some (.getfield 177, 3, [5, 1, 0, 256]) := by decide +kernel
theorem r11_7 : am_at 11 7 = some (.istore_n 1, 1, [1]) := by decide +kernel
theorem r11_8 : am_at 11 8 = some (.aload_n 0, 1, [0]) := by decide +kernel
theorem r11_9 : am_at 11 9 = some (.getfield 29, 3, [7, 3, 3, 335]) := by decide +kernel
theorem r11_12 : am_at 11 12 = some (.invokevirtual 180, 3, [233, 1, 361, 0]) := by decide +kernel
theorem r11_15 : am_at 11 15 = some (.iload_n 1, 1, [1]) := by decide +kernel
theorem r11_16 : am_at 11 16 = some (.ireturn, 1, []) := by decide +kernel
theorem rt11 : am_rtt 11 = some (some .int) := by decide +kernel
set_option maxRecDepth 100000 in
theorem pg11 : am_pg[11]? = some am_m11 := rfl
theorem m11_w {d mc ms : Nat} {D : am_D} {Q : am_O → am_AH → Prop} (hd : 2 ≤ d) {r : Int32 × am_D} (h : m11 D = r) (hQ : Q (.inl (some (.int r.1))) (am_mk r.2)) : am_X xs L 11 d mc ms 0 [.ref 0, am_dead] [] (am_mk D) 0 0 Q := by
  unfold m11 at h
  refine x_ld (v := .ref 0) r11_0 rfl rfl rfl ?_
  refine y_gf (cd := 93) (v := .ref 91) r11_1 rfl rfl rfl ?_
  refine y_gf (cd := 0) (v := .int (D.1 91 1)) r11_4 rfl rfl rfl ?_
  obtain ⟨x1, e2, h⟩ := am_ltE h
  refine am_topI e2 ?_
  refine x_sto (lc' := [.ref 0, .int x1]) r11_7 rfl rfl rfl rfl ?_
  refine x_ld (v := .ref 0) r11_8 rfl rfl rfl ?_
  refine y_gf (cd := 93) (v := .ref 91) r11_9 rfl rfl rfl ?_
  obtain ⟨q3, h4, h⟩ := am_ltE h
  replace h4 := h4.symm
  refine x_call0 (as := [.ref 91]) (rest := []) r11_12 rfl rfl rfl (by decide) (Nat.le_of_ble_eq_true rfl) (m233_ok h4) (Nat.le_trans (by decide) hd) (Nat.zero_le _) (Nat.zero_le _) rfl ?_
  refine x_ld (v := .int x1) r11_15 rfl rfl rfl ?_
  subst h
  exact x_ret (ret := some .int) (C := True) (v := some (.int _)) r11_16 rt11 rfl rfl rfl rfl rfl rfl rfl rfl trivial hQ
theorem m11_ok {D : am_D} {r : Int32 × am_D} (h : m11 D = r) : am_Y xs L 11 2 0 0 [.ref 0] D (.inl (some (.int r.1))) r.2 := am_Yof (mi := am_m11) (lc := [.ref 0, am_dead]) pg11 (Nat.le_of_ble_eq_true rfl) (am_rc1 (ci := 7) rfl rfl rfl rfl rfl) rfl (fun Q hQ => m11_w (Nat.le_refl _) h hQ)
theorem m152_2_13_w {d mc ms : Nat} {D : am_D} {Q : am_O → am_AH → Prop} (hd : 2 ≤ d) {r : am_D} (h : m152_2_13 D = r) (hQ : Q (.inl none) (am_mk r)) : am_X xs L 152 d mc ms 0 [.ref 2, .ref 13] [] (am_mk D) 0 0 Q := by
  unfold m152_2_13 at h
  refine x_ld (v := .ref 13) r152_0 rfl rfl rfl ?_
  refine y_gf (cd := 16) (v := .ref 14) r152_1 rfl rfl rfl ?_
  refine x_ld (v := .ref 2) r152_4 rfl rfl rfl ?_
  refine y_gf (cd := 5) (v := .ref 3) r152_5 rfl rfl rfl ?_
  obtain ⟨D1, e2, h⟩ := am_ltE h
  refine x_call0 (as := [.ref 14, .ref 3]) (rest := []) r152_8 rfl rfl rfl (by decide) (Nat.le_of_ble_eq_true rfl) (am_rows_copy (n := 28) (m := 28) rfl rfl (by decide) (by decide) e2) (Nat.le_trans (by decide) hd) (Nat.zero_le _) (Nat.zero_le _) rfl ?_
  refine x_ld (v := .ref 13) r152_11 rfl rfl rfl ?_
  refine y_gf (cd := 17) (v := .ref 15) r152_12 rfl rfl rfl ?_
  refine x_ld (v := .ref 2) r152_15 rfl rfl rfl ?_
  refine y_gf (cd := 6) (v := .ref 4) r152_16 rfl rfl rfl ?_
  obtain ⟨D3, e4, h⟩ := am_ltE h
  refine x_call0 (as := [.ref 15, .ref 4]) (rest := []) r152_19 rfl rfl rfl (by decide) (Nat.le_of_ble_eq_true rfl) (am_rows_copy (n := 28) (m := 28) rfl rfl (by decide) (by decide) e4) (Nat.le_trans (by decide) hd) (Nat.zero_le _) (Nat.zero_le _) rfl ?_
  refine x_ld (v := .ref 13) r152_22 rfl rfl rfl ?_
  refine y_gf (cd := 18) (v := .ref 16) r152_23 rfl rfl rfl ?_
  refine x_ld (v := .ref 2) r152_26 rfl rfl rfl ?_
  refine y_gf (cd := 7) (v := .ref 5) r152_27 rfl rfl rfl ?_
  obtain ⟨D5, e6, h⟩ := am_ltE h
  refine x_call0 (as := [.ref 16, .ref 5]) (rest := []) r152_30 rfl rfl rfl (by decide) (Nat.le_of_ble_eq_true rfl) (am_rows_copy (n := 28) (m := 28) rfl rfl (by decide) (by decide) e6) (Nat.le_trans (by decide) hd) (Nat.zero_le _) (Nat.zero_le _) rfl ?_
  refine x_ld (v := .ref 13) r152_33 rfl rfl rfl ?_
  refine y_gf (cd := 19) (v := .ref 17) r152_34 rfl rfl rfl ?_
  refine x_ld (v := .ref 2) r152_37 rfl rfl rfl ?_
  refine y_gf (cd := 8) (v := .ref 6) r152_38 rfl rfl rfl ?_
  obtain ⟨D7, e8, h⟩ := am_ltE h
  refine x_call0 (as := [.ref 17, .ref 6]) (rest := []) r152_41 rfl rfl rfl (by decide) (Nat.le_of_ble_eq_true rfl) (am_rows_copy (n := 28) (m := 28) rfl rfl (by decide) (by decide) e8) (Nat.le_trans (by decide) hd) (Nat.zero_le _) (Nat.zero_le _) rfl ?_
  refine x_ld (v := .ref 2) r152_44 rfl rfl rfl ?_
  refine x_ld (v := .ref 13) r152_45 rfl rfl rfl ?_
  refine y_gf (cd := 0) (v := .int (D7.1 13 4)) r152_46 rfl rfl rfl ?_
  obtain ⟨D9, e10, h⟩ := am_ltE h
  refine y_pf0 r152_49 rfl e10 rfl ?_
  refine x_ld (v := .ref 2) r152_52 rfl rfl rfl ?_
  refine x_ld (v := .ref 13) r152_53 rfl rfl rfl ?_
  refine y_gf (cd := 0) (v := .int (D9.1 13 5)) r152_54 rfl rfl rfl ?_
  obtain ⟨D11, e12, h⟩ := am_ltE h
  refine y_pf0 r152_57 rfl e12 rfl ?_
  refine x_ld (v := .ref 2) r152_60 rfl rfl rfl ?_
  refine x_ld (v := .ref 13) r152_61 rfl rfl rfl ?_
  refine y_gf (cd := 0) (v := .int (D11.1 13 6)) r152_62 rfl rfl rfl ?_
  obtain ⟨D13, e14, h⟩ := am_ltE h
  refine y_pf0 r152_65 rfl e14 rfl ?_
  subst h
  exact x_ret (ret := none) (C := True) (v := none) r152_68 rt152 rfl rfl rfl rfl rfl rfl rfl rfl trivial hQ
theorem m152_2_13_ok {D : am_D} {r : am_D} (h : m152_2_13 D = r) : am_Y xs L 152 2 0 0 [.ref 2, .ref 13] D (.inl none) r := am_Yof (mi := am_m152) (lc := [.ref 2, .ref 13]) pg152 (Nat.le_of_ble_eq_true rfl) (am_rc1 (ci := 0) rfl rfl rfl rfl rfl) rfl (fun Q hQ => m152_2_13_w (Nat.le_refl _) h hQ)
theorem m202_1_12_w {d mc ms : Nat} {D : am_D} {Q : am_O → am_AH → Prop} (hd : 3 ≤ d) {r : am_D} (h : m202_1_12 D = r) (hQ : Q (.inl none) (am_mk r)) : am_X xs L 202 d mc ms 0 [.ref 1, .ref 12] [] (am_mk D) 0 0 Q := by
  unfold m202_1_12 at h
  refine x_ld (v := .ref 1) r202_0 rfl rfl rfl ?_
  refine y_gf (cd := 4) (v := .ref 2) r202_1 rfl rfl rfl ?_
  refine x_ld (v := .ref 12) r202_4 rfl rfl rfl ?_
  refine y_gf (cd := 15) (v := .ref 13) r202_5 rfl rfl rfl ?_
  obtain ⟨q1, h2, h⟩ := am_ltE h
  replace h2 := h2.symm
  refine x_call0 (as := [.ref 2, .ref 13]) (rest := []) r202_8 rfl rfl rfl (by decide) (Nat.le_of_ble_eq_true rfl) (m152_2_13_ok h2) (Nat.le_trans (by decide) hd) (Nat.zero_le _) (Nat.zero_le _) rfl ?_
  refine x_ld (v := .ref 12) r202_11 rfl rfl rfl ?_
  refine y_gf (cd := 20) (v := .ref 18) r202_12 rfl rfl rfl ?_
  refine x_ld (v := .ref 1) r202_15 rfl rfl rfl ?_
  refine y_gf (cd := 9) (v := .ref 7) r202_16 rfl rfl rfl ?_
  obtain ⟨D3, e4, h⟩ := am_ltE h
  refine x_call0 (as := [.ref 18, .ref 7]) (rest := []) r202_19 rfl rfl rfl (by decide) (Nat.le_of_ble_eq_true rfl) (am_rows_copy (n := 28) (m := 28) rfl rfl (by decide) (by decide) e4) (Nat.le_trans (by decide) hd) (Nat.zero_le _) (Nat.zero_le _) rfl ?_
  refine x_ld (v := .ref 12) r202_22 rfl rfl rfl ?_
  refine y_gf (cd := 21) (v := .ref 19) r202_23 rfl rfl rfl ?_
  refine x_ld (v := .ref 1) r202_26 rfl rfl rfl ?_
  refine y_gf (cd := 10) (v := .ref 8) r202_27 rfl rfl rfl ?_
  obtain ⟨D5, e6, h⟩ := am_ltE h
  refine x_call0 (as := [.ref 19, .ref 8]) (rest := []) r202_30 rfl rfl rfl (by decide) (Nat.le_of_ble_eq_true rfl) (am_rows_copy (n := 4) (m := 4) rfl rfl (by decide) (by decide) e6) (Nat.le_trans (by decide) hd) (Nat.zero_le _) (Nat.zero_le _) rfl ?_
  refine x_ld (v := .ref 12) r202_33 rfl rfl rfl ?_
  refine y_gf (cd := 22) (v := .ref 20) r202_34 rfl rfl rfl ?_
  refine x_ld (v := .ref 1) r202_37 rfl rfl rfl ?_
  refine y_gf (cd := 11) (v := .ref 9) r202_38 rfl rfl rfl ?_
  obtain ⟨D7, e8, h⟩ := am_ltE h
  refine x_call0 (as := [.ref 20, .ref 9]) (rest := []) r202_41 rfl rfl rfl (by decide) (Nat.le_of_ble_eq_true rfl) (am_rows_copy (n := 4) (m := 4) rfl rfl (by decide) (by decide) e8) (Nat.le_trans (by decide) hd) (Nat.zero_le _) (Nat.zero_le _) rfl ?_
  refine x_ld (v := .ref 12) r202_44 rfl rfl rfl ?_
  refine y_gf (cd := 23) (v := .ref 21) r202_45 rfl rfl rfl ?_
  refine x_ld (v := .ref 1) r202_48 rfl rfl rfl ?_
  refine y_gf (cd := 12) (v := .ref 10) r202_49 rfl rfl rfl ?_
  obtain ⟨D9, e10, h⟩ := am_ltE h
  refine x_call0 (as := [.ref 21, .ref 10]) (rest := []) r202_52 rfl rfl rfl (by decide) (Nat.le_of_ble_eq_true rfl) (am_rows_copy (n := 4) (m := 4) rfl rfl (by decide) (by decide) e10) (Nat.le_trans (by decide) hd) (Nat.zero_le _) (Nat.zero_le _) rfl ?_
  refine x_ld (v := .ref 12) r202_55 rfl rfl rfl ?_
  refine y_gf (cd := 24) (v := .ref 22) r202_56 rfl rfl rfl ?_
  refine x_ld (v := .ref 1) r202_59 rfl rfl rfl ?_
  refine y_gf (cd := 13) (v := .ref 11) r202_60 rfl rfl rfl ?_
  obtain ⟨D11, e12, h⟩ := am_ltE h
  refine x_call0 (as := [.ref 22, .ref 11]) (rest := []) r202_63 rfl rfl rfl (by decide) (Nat.le_of_ble_eq_true rfl) (am_rows_copy (n := 2) (m := 2) rfl rfl (by decide) (by decide) e12) (Nat.le_trans (by decide) hd) (Nat.zero_le _) (Nat.zero_le _) rfl ?_
  refine x_ld (v := .ref 1) r202_66 rfl rfl rfl ?_
  refine x_ld (v := .ref 12) r202_67 rfl rfl rfl ?_
  refine y_gf (cd := 0) (v := .int (D11.1 12 6)) r202_68 rfl rfl rfl ?_
  obtain ⟨D13, e14, h⟩ := am_ltE h
  refine y_pf0 r202_71 rfl e14 rfl ?_
  refine x_ld (v := .ref 1) r202_74 rfl rfl rfl ?_
  refine x_ld (v := .ref 12) r202_75 rfl rfl rfl ?_
  refine y_gf (cd := 0) (v := .int (D13.1 12 7)) r202_76 rfl rfl rfl ?_
  obtain ⟨D15, e16, h⟩ := am_ltE h
  refine y_pf0 r202_79 rfl e16 rfl ?_
  refine x_ld (v := .ref 1) r202_82 rfl rfl rfl ?_
  refine x_ld (v := .ref 12) r202_83 rfl rfl rfl ?_
  refine y_gf (cd := 0) (v := .int (D15.1 12 8)) r202_84 rfl rfl rfl ?_
  obtain ⟨D17, e18, h⟩ := am_ltE h
  refine y_pf0 r202_87 rfl e18 rfl ?_
  refine x_ld (v := .ref 1) r202_90 rfl rfl rfl ?_
  refine x_ld (v := .ref 12) r202_91 rfl rfl rfl ?_
  refine y_gf (cd := 0) (v := .int (D17.1 12 9)) r202_92 rfl rfl rfl ?_
  obtain ⟨D19, e20, h⟩ := am_ltE h
  refine y_pf0 r202_95 rfl e20 rfl ?_
  refine x_ld (v := .ref 1) r202_98 rfl rfl rfl ?_
  refine x_ld (v := .ref 12) r202_99 rfl rfl rfl ?_
  refine y_gf (cd := 0) (v := .int (D19.1 12 10)) r202_100 rfl rfl rfl ?_
  obtain ⟨D21, e22, h⟩ := am_ltE h
  refine y_pf0 r202_103 rfl e22 rfl ?_
  refine x_ld (v := .ref 1) r202_106 rfl rfl rfl ?_
  refine x_ld (v := .ref 12) r202_107 rfl rfl rfl ?_
  refine y_gf (cd := 0) (v := .int (D21.1 12 11)) r202_108 rfl rfl rfl ?_
  obtain ⟨D23, e24, h⟩ := am_ltE h
  refine y_pf0 r202_111 rfl e24 rfl ?_
  refine x_ld (v := .ref 1) r202_114 rfl rfl rfl ?_
  refine x_ld (v := .ref 12) r202_115 rfl rfl rfl ?_
  refine y_gf (cd := 0) (v := .int (D23.1 12 12)) r202_116 rfl rfl rfl ?_
  obtain ⟨D25, e26, h⟩ := am_ltE h
  refine y_pf0 r202_119 rfl e26 rfl ?_
  refine x_ld (v := .ref 1) r202_122 rfl rfl rfl ?_
  refine x_ld (v := .ref 12) r202_123 rfl rfl rfl ?_
  refine y_gf (cd := 0) (v := .int (D25.1 12 13)) r202_124 rfl rfl rfl ?_
  obtain ⟨D27, e28, h⟩ := am_ltE h
  refine y_pf0 r202_127 rfl e28 rfl ?_
  refine x_ld (v := .ref 1) r202_130 rfl rfl rfl ?_
  refine x_ld (v := .ref 12) r202_131 rfl rfl rfl ?_
  refine y_gf (cd := 0) (v := .int (D27.1 12 14)) r202_132 rfl rfl rfl ?_
  obtain ⟨D29, e30, h⟩ := am_ltE h
  refine y_pf0 r202_135 rfl e30 rfl ?_
  refine x_ld (v := .ref 1) r202_138 rfl rfl rfl ?_
  refine x_ld (v := .ref 12) r202_139 rfl rfl rfl ?_
  refine y_gf (cd := 0) (v := .int (D29.1 12 15)) r202_140 rfl rfl rfl ?_
  obtain ⟨D31, e32, h⟩ := am_ltE h
  refine y_pf0 r202_143 rfl e32 rfl ?_
  subst h
  exact x_ret (ret := none) (C := True) (v := none) r202_146 rt202 rfl rfl rfl rfl rfl rfl rfl rfl trivial hQ
theorem m202_1_12_ok {D : am_D} {r : am_D} (h : m202_1_12 D = r) : am_Y xs L 202 3 0 0 [.ref 1, .ref 12] D (.inl none) r := am_Yof (mi := am_m202) (lc := [.ref 1, .ref 12]) pg202 (Nat.le_of_ble_eq_true rfl) (am_rc1 (ci := 4) rfl rfl rfl rfl rfl) rfl (fun Q hQ => m202_1_12_w (Nat.le_refl _) h hQ)
theorem r16_0 : am_at 16 0 = some (.aload_n 0, 1, [0]) := by decide +kernel
theorem r16_1 : am_at 16 1 = some (.getfield 54, 3, [7, 7, 2, 339]) := by decide +kernel
theorem r16_4 : am_at 16 4 = some (.ifCond .ne (13), 3, [17]) := by decide +kernel
theorem r16_7 : am_at 16 7 = some (.new 76, 3, [9, 3, 0, 219, 80, 804, 106, 27, 814]) := by decide +kernel
theorem r16_17 : am_at 16 17 = some (.aload_n 0, 1, [0]) := by decide +kernel
theorem r16_18 : am_at 16 18 = some (.getfield 22, 3, [7, 2, 3, 334]) := by decide +kernel
theorem r16_21 : am_at 16 21 = some (.aload_n 0, 1, [0]) := by decide +kernel
theorem r16_22 : am_at 16 22 = some (.getfield 10, 3, [7, 0, 3, 332]) := by decide +kernel
theorem r16_25 : am_at 16 25 = some (.invokevirtual 81, 3, [168, 2, 820, 0]) := by decide +kernel
theorem r16_28 : am_at 16 28 = some (.aload_n 0, 1, [0]) := by decide +kernel
theorem r16_29 : am_at 16 29 = some (.getfield 10, 3, [7, 0, 3, 332]) := by decide +kernel
theorem r16_32 : am_at 16 32 = some (.aload_n 0, 1, [0]) := by decide +kernel
theorem r16_33 : am_at 16 33 = some (.getfield 16, 3, [7, 1, 3, 333]) := by decide +kernel
theorem r16_36 : am_at 16 36 = some (.invokevirtual 207, 3, [202, 2, 369, 0]) := by decide +kernel
theorem r16_39 : am_at 16 39 = some (.aload_n 0, 1, [0]) := by decide +kernel
theorem r16_40 : am_at 16 40 = some (.getfield 10, 3, [7, 0, 3, 332]) := by decide +kernel
theorem r16_43 : am_at 16 43 = some (.getfield 210, 3, [4, 0, 3, 162]) := by decide +kernel
theorem r16_46 : am_at 16 46 = some (.getfield 214, 3, [0, 4, 0, 141]) := by decide +kernel
theorem r16_49 : am_at 16 49 = some (.ireturn, 1, []) := by decide +kernel
theorem rt16 : am_rtt 16 = some (some .int) := by decide +kernel
set_option maxRecDepth 100000 in
theorem pg16 : am_pg[16]? = some am_m16 := rfl
theorem m16_w {d mc ms : Nat} {D : am_D} {Q : am_O → am_AH → Prop} (hd : 5 ≤ d) {r : (Int32 ⊕ Nat) × am_D} (h : m16 D = some r) (hE : ∀ E, r.1 = .inr E → 0 + 1 ≤ mc ∧ 0 + 6 ≤ ms) (hQ : Q (am_oI r.1) (am_mk r.2)) : am_X xs L 16 d mc ms 0 [.ref 0] [] (am_mk D) 0 0 Q := by
  unfold m16 at h
  refine x_ld (v := .ref 0) r16_0 rfl rfl rfl ?_
  refine y_gf (cd := 0) (v := .int (D.1 0 7)) r16_1 rfl rfl rfl ?_
  rcases am_ifE h with ⟨c1, h⟩ | ⟨c1, h⟩
  · refine x_ifneT r16_4 c1 rfl ?_
    cases h
    exact x_thr r16_7 (hE _ rfl).1 (hE _ rfl).2 (Nat.le_of_ble_eq_true rfl) hQ
  · refine x_ifneF r16_4 c1 ?_
    refine x_ld (v := .ref 0) r16_17 rfl rfl rfl ?_
    refine y_gf (cd := 25) (v := .ref 23) r16_18 rfl rfl rfl ?_
    refine x_ld (v := .ref 0) r16_21 rfl rfl rfl ?_
    refine y_gf (cd := 3) (v := .ref 1) r16_22 rfl rfl rfl ?_
    obtain ⟨q2, h3, h⟩ := Option.bind_eq_some_iff.mp h
    refine x_call0 (as := [.ref 23, .ref 1]) (rest := []) r16_25 rfl rfl rfl (by decide) (Nat.le_of_ble_eq_true rfl) (m168_ok h3) (Nat.le_trans (by decide) hd) (Nat.zero_le _) (Nat.zero_le _) rfl ?_
    refine x_ld (v := .ref 0) r16_28 rfl rfl rfl ?_
    refine y_gf (cd := 3) (v := .ref 1) r16_29 rfl rfl rfl ?_
    refine x_ld (v := .ref 0) r16_32 rfl rfl rfl ?_
    refine y_gf (cd := 14) (v := .ref 12) r16_33 rfl rfl rfl ?_
    obtain ⟨q4, h5, h⟩ := am_ltE h
    replace h5 := h5.symm
    refine x_call0 (as := [.ref 1, .ref 12]) (rest := []) r16_36 rfl rfl rfl (by decide) (Nat.le_of_ble_eq_true rfl) (m202_1_12_ok h5) (Nat.le_trans (by decide) hd) (Nat.zero_le _) (Nat.zero_le _) rfl ?_
    refine x_ld (v := .ref 0) r16_39 rfl rfl rfl ?_
    refine y_gf (cd := 3) (v := .ref 1) r16_40 rfl rfl rfl ?_
    refine y_gf (cd := 4) (v := .ref 2) r16_43 rfl rfl rfl ?_
    refine y_gf (cd := 0) (v := .int (q4.1 2 4)) r16_46 rfl rfl rfl ?_
    cases h
    exact x_ret (ret := some .int) (C := True) (v := some (.int _)) r16_49 rt16 rfl rfl rfl rfl rfl rfl rfl rfl trivial hQ
theorem m16_okv {D : am_D} {r : (Int32 ⊕ Nat) × am_D} {v : Int32} (h : m16 D = some r) (hv : am_inl r.1 = some v) : am_Y xs L 16 5 0 0 [.ref 0] D (.inl (some (.int v))) r.2 := am_Yof (mi := am_m16) (lc := [.ref 0]) pg16 (Nat.le_of_ble_eq_true rfl) (am_rc1 (ci := 7) rfl rfl rfl rfl rfl) rfl (fun Q hQ => m16_w (Nat.le_refl _) h (fun E e => by rw [e] at hv; cases hv) (by rw [am_inlE hv]; exact hQ))
theorem m16_exv {D : am_D} {r : (Int32 ⊕ Nat) × am_D} {E : Nat} (h : m16 D = some r) (hv : r.1 = .inr E) : am_Y xs L 16 5 1 6 [.ref 0] D (.inr E) r.2 := am_Yof (mi := am_m16) (lc := [.ref 0]) pg16 (Nat.le_of_ble_eq_true rfl) (am_rc1 (ci := 7) rfl rfl rfl rfl rfl) rfl (fun Q hQ => m16_w (Nat.le_refl _) h (fun E e => ⟨Nat.le_refl _, Nat.le_refl _⟩) (by rw [hv]; exact hQ))
theorem r17_0 : am_at 17 0 = some (.aload_n 0, 1, [0]) := by decide +kernel
theorem r17_1 : am_at 17 1 = some (.getfield 22, 3, [7, 2, 3, 334]) := by decide +kernel
theorem r17_4 : am_at 17 4 = some (.getfield 221, 3, [1, 2, 0, 240]) := by decide +kernel
theorem r17_7 : am_at 17 7 = some (.ifCond .ne (13), 3, [20]) := by decide +kernel
theorem r17_10 : am_at 17 10 = some (.new 76, 3, [9, 3, 0, 224, 80, 804, 106, 28, 814]) := by decide +kernel
theorem r17_20 : am_at 17 20 = some (.aload_n 0, 1, [0]) := by decide +kernel
theorem r17_21 : am_at 17 21 = some (.getfield 22, 3, [7, 2, 3, 334]) := by decide +kernel
theorem r17_24 : am_at 17 24 = some (.aload_n 0, 1, [0]) := by decide +kernel
theorem r17_25 : am_at 17 25 = some (.getfield 10, 3, [7, 0, 3, 332]) := by decide +kernel
theorem r17_28 : am_at 17 28 = some (.invokevirtual 226, 3, [169, 2, 1128, 0]) := by decide +kernel
theorem r17_31 : am_at 17 31 = some (.aload_n 0, 1, [0]) := by decide +kernel
theorem r17_32 : am_at 17 32 = some (.getfield 22, 3, [7, 2, 3, 334]) := by decide +kernel
theorem r17_35 : am_at 17 35 = some (.getfield 221, 3, [1, 2, 0, 240]) := by decide +kernel
theorem r17_38 : am_at 17 38 = some (.ireturn, 1, []) := by decide +kernel
theorem rt17 : am_rtt 17 = some (some .int) := by decide +kernel
set_option maxRecDepth 100000 in
theorem pg17 : am_pg[17]? = some am_m17 := rfl
theorem m17_w {d mc ms : Nat} {D : am_D} {Q : am_O → am_AH → Prop} (hd : 5 ≤ d) {r : (Int32 ⊕ Nat) × am_D} (h : m17 D = some r) (hE : ∀ E, r.1 = .inr E → 0 + 1 ≤ mc ∧ 0 + 6 ≤ ms) (hQ : Q (am_oI r.1) (am_mk r.2)) : am_X xs L 17 d mc ms 0 [.ref 0] [] (am_mk D) 0 0 Q := by
  unfold m17 at h
  refine x_ld (v := .ref 0) r17_0 rfl rfl rfl ?_
  refine y_gf (cd := 25) (v := .ref 23) r17_1 rfl rfl rfl ?_
  refine y_gf (cd := 0) (v := .int (D.1 23 2)) r17_4 rfl rfl rfl ?_
  rcases am_ifE h with ⟨c1, h⟩ | ⟨c1, h⟩
  · refine x_ifneT r17_7 c1 rfl ?_
    cases h
    exact x_thr r17_10 (hE _ rfl).1 (hE _ rfl).2 (Nat.le_of_ble_eq_true rfl) hQ
  · refine x_ifneF r17_7 c1 ?_
    refine x_ld (v := .ref 0) r17_20 rfl rfl rfl ?_
    refine y_gf (cd := 25) (v := .ref 23) r17_21 rfl rfl rfl ?_
    refine x_ld (v := .ref 0) r17_24 rfl rfl rfl ?_
    refine y_gf (cd := 3) (v := .ref 1) r17_25 rfl rfl rfl ?_
    obtain ⟨q2, h3, h⟩ := Option.bind_eq_some_iff.mp h
    refine x_call0 (as := [.ref 23, .ref 1]) (rest := []) r17_28 rfl rfl rfl (by decide) (Nat.le_of_ble_eq_true rfl) (m169_ok h3) (Nat.le_trans (by decide) hd) (Nat.zero_le _) (Nat.zero_le _) rfl ?_
    refine x_ld (v := .ref 0) r17_31 rfl rfl rfl ?_
    refine y_gf (cd := 25) (v := .ref 23) r17_32 rfl rfl rfl ?_
    refine y_gf (cd := 0) (v := .int (q2.1 23 2)) r17_35 rfl rfl rfl ?_
    cases h
    exact x_ret (ret := some .int) (C := True) (v := some (.int _)) r17_38 rt17 rfl rfl rfl rfl rfl rfl rfl rfl trivial hQ
theorem m17_okv {D : am_D} {r : (Int32 ⊕ Nat) × am_D} {v : Int32} (h : m17 D = some r) (hv : am_inl r.1 = some v) : am_Y xs L 17 5 0 0 [.ref 0] D (.inl (some (.int v))) r.2 := am_Yof (mi := am_m17) (lc := [.ref 0]) pg17 (Nat.le_of_ble_eq_true rfl) (am_rc1 (ci := 7) rfl rfl rfl rfl rfl) rfl (fun Q hQ => m17_w (Nat.le_refl _) h (fun E e => by rw [e] at hv; cases hv) (by rw [am_inlE hv]; exact hQ))
theorem m17_exv {D : am_D} {r : (Int32 ⊕ Nat) × am_D} {E : Nat} (h : m17 D = some r) (hv : r.1 = .inr E) : am_Y xs L 17 5 1 6 [.ref 0] D (.inr E) r.2 := am_Yof (mi := am_m17) (lc := [.ref 0]) pg17 (Nat.le_of_ble_eq_true rfl) (am_rc1 (ci := 7) rfl rfl rfl rfl rfl) rfl (fun Q hQ => m17_w (Nat.le_refl _) h (fun E e => ⟨Nat.le_refl _, Nat.le_refl _⟩) (by rw [hv]; exact hQ))
theorem r19_0 : am_at 19 0 = some (.iload_n 1, 1, [1]) := by decide +kernel
theorem r19_1 : am_at 19 1 = some (.invokestatic 261, 3, [42, 1, 1143, 0]) := by decide +kernel
theorem r19_4 : am_at 19 4 = some (.ifCond .eq (10), 3, [14]) := by decide +kernel
theorem r19_7 : am_at 19 7 = some (.iload_n 2, 1, [2]) := by decide +kernel
theorem r19_8 : am_at 19 8 = some (.invokestatic 261, 3, [42, 1, 1143, 0]) := by decide +kernel
theorem r19_11 : am_at 19 11 = some (.ifCond .ne (14), 3, [25]) := by decide +kernel
theorem r19_14 : am_at 19 14 = some (.new 65, 3, [9, 1, 1, 264, 69, 534, 104, 29, 544]) := by decide +kernel
theorem r19_25 : am_at 19 25 = some (.iload_n 1, 1, [1]) := by decide +kernel
theorem r19_26 : am_at 19 26 = some (.iload_n 2, 1, [2]) := by decide +kernel
theorem r19_27 : am_at 19 27 = some (.invokestatic 266, 3, [254, 2, 1147, 0]) := by decide +kernel
theorem r19_30 : am_at 19 30 = some (.ireturn, 1, []) := by decide +kernel
theorem rt19 : am_rtt 19 = some (some .int) := by decide +kernel
set_option maxRecDepth 100000 in
theorem pg19 : am_pg[19]? = some am_m19 := rfl
theorem m19_w {d mc ms : Nat} {D : am_D} {v1 : Int32} {v2 : Int32} {Q : am_O → am_AH → Prop} (hd : 2 ≤ d) {r : (Int32 ⊕ Nat)} (h : m19 v1 v2 = r) (hE : ∀ E, r = .inr E → 0 + 1 ≤ mc ∧ 0 + 6 ≤ ms) (hQ : Q (am_oI r) (am_mk D)) : am_X xs L 19 d mc ms 0 [.ref 0, .int v1, .int v2] [] (am_mk D) 0 0 Q := by
  unfold m19 at h
  refine x_ld (v := .int v1) r19_0 rfl rfl rfl ?_
  refine x_call1 (as := [.int v1]) (rest := []) r19_1 rfl rfl rfl (by decide) (Nat.le_of_ble_eq_true rfl) (m42_ok rfl) (Nat.le_trans (by decide) hd) (Nat.zero_le _) (Nat.zero_le _) rfl ?_
  rcases am_ifE h with ⟨c1, h⟩ | ⟨c1, h⟩
  · refine x_ifeqT r19_4 c1 ?_
    subst h
    exact x_thr r19_14 (hE _ rfl).1 (hE _ rfl).2 (Nat.le_of_ble_eq_true rfl) hQ
  · refine x_ifeqF r19_4 c1 rfl ?_
    refine x_ld (v := .int v2) r19_7 rfl rfl rfl ?_
    refine x_call1 (as := [.int v2]) (rest := []) r19_8 rfl rfl rfl (by decide) (Nat.le_of_ble_eq_true rfl) (m42_ok rfl) (Nat.le_trans (by decide) hd) (Nat.zero_le _) (Nat.zero_le _) rfl ?_
    rcases am_ifE h with ⟨c2, h⟩ | ⟨c2, h⟩
    · refine x_ifneT r19_11 c2 rfl ?_
      subst h
      exact x_thr r19_14 (hE _ rfl).1 (hE _ rfl).2 (Nat.le_of_ble_eq_true rfl) hQ
    · refine x_ifneF r19_11 c2 ?_
      refine x_ld (v := .int v1) r19_25 rfl rfl rfl ?_
      refine x_ld (v := .int v2) r19_26 rfl rfl rfl ?_
      refine x_call1 (as := [.int v1, .int v2]) (rest := []) r19_27 rfl rfl rfl (by decide) (Nat.le_of_ble_eq_true rfl) (m254_ok rfl) (Nat.le_trans (by decide) hd) (Nat.zero_le _) (Nat.zero_le _) rfl ?_
      subst h
      exact x_ret (ret := some .int) (C := True) (v := some (.int _)) r19_30 rt19 rfl rfl rfl rfl rfl rfl rfl rfl trivial hQ
theorem m19_okv {D : am_D} {v1 : Int32} {v2 : Int32} {r : (Int32 ⊕ Nat)} {v : Int32} (h : m19 v1 v2 = r) (hv : am_inl r = some v) : am_Y xs L 19 2 0 0 [.ref 0, .int v1, .int v2] D (.inl (some (.int v))) D := am_Yof (mi := am_m19) (lc := [.ref 0, .int v1, .int v2]) pg19 (Nat.le_of_ble_eq_true rfl) (am_rc1 (ci := 7) rfl rfl rfl rfl rfl) rfl (fun Q hQ => m19_w (Nat.le_refl _) h (fun E e => by rw [e] at hv; cases hv) (by rw [am_inlE hv]; exact hQ))
theorem m19_exv {D : am_D} {v1 : Int32} {v2 : Int32} {r : (Int32 ⊕ Nat)} {E : Nat} (h : m19 v1 v2 = r) (hv : r = .inr E) : am_Y xs L 19 2 1 6 [.ref 0, .int v1, .int v2] D (.inr E) D := am_Yof (mi := am_m19) (lc := [.ref 0, .int v1, .int v2]) pg19 (Nat.le_of_ble_eq_true rfl) (am_rc1 (ci := 7) rfl rfl rfl rfl rfl) rfl (fun Q hQ => m19_w (Nat.le_refl _) h (fun E e => ⟨Nat.le_refl _, Nat.le_refl _⟩) (by rw [hv]; exact hQ))
theorem r35_0 : am_at 35 0 = some (.ldc2_w 418, 3, [1, 419, 31]) := by decide +kernel
theorem r35_3 : am_at 35 3 = some (.lload_n 1, 1, [1]) := by decide +kernel
theorem r35_4 : am_at 35 4 = some (.lmul, 1, []) := by decide +kernel
theorem r35_5 : am_at 35 5 = some (.aload_n 0, 1, [0]) := by decide +kernel
theorem r35_6 : am_at 35 6 = some (.getfield 29, 3, [7, 3, 3, 335]) := by decide +kernel
theorem r35_9 : am_at 35 9 = some (.getfield 177, 3, [5, 1, 0, 256]) := by decide +kernel
theorem r35_12 : am_at 35 12 = some (.i2l, 1, []) := by decide +kernel
theorem r35_13 : am_at 35 13 = some (.ladd, 1, []) := by decide +kernel
theorem r35_14 : am_at 35 14 = some (.lstore_n 3, 1, [3]) := by decide +kernel
theorem r35_15 : am_at 35 15 = some (.iconst (0), 1, []) := by decide +kernel
theorem r35_16 : am_at 35 16 = some (.istore 5, 2, [5]) := by decide +kernel
theorem r35_18 : am_at 35 18 = some (.iload 5, 2, [5]) := by decide +kernel
theorem r35_20 : am_at 35 20 = some (.aload_n 0, 1, [0]) := by decide +kernel
theorem r35_21 : am_at 35 21 = some (.getfield 29, 3, [7, 3, 3, 335]) := by decide +kernel
theorem r35_24 : am_at 35 24 = some (.getfield 177, 3, [5, 1, 0, 256]) := by decide +kernel
theorem r35_27 : am_at 35 27 = some (.if_icmp .ge (26), 3, [53]) := by decide +kernel
theorem r35_30 : am_at 35 30 = some (.ldc2_w 418, 3, [1, 419, 31]) := by decide +kernel
theorem r35_33 : am_at 35 33 = some (.lload_n 3, 1, [3]) := by decide +kernel
theorem r35_34 : am_at 35 34 = some (.lmul, 1, []) := by decide +kernel
theorem r35_35 : am_at 35 35 = some (.aload_n 0, 1, [0]) := by decide +kernel
theorem r35_36 : am_at 35 36 = some (.getfield 29, 3, [7, 3, 3, 335]) := by decide +kernel
theorem r35_39 : am_at 35 39 = some (.iload 5, 2, [5]) := by decide +kernel
theorem r35_41 : am_at 35 41 = some (.invokevirtual 461, 3, [234, 2, 785, 0]) := by decide +kernel
theorem r35_44 : am_at 35 44 = some (.i2l, 1, []) := by decide +kernel
theorem r35_45 : am_at 35 45 = some (.ladd, 1, []) := by decide +kernel
theorem r35_46 : am_at 35 46 = some (.lstore_n 3, 1, [3]) := by decide +kernel
theorem r35_47 : am_at 35 47 = some (.iinc 5 (1), 3, [5]) := by decide +kernel
theorem r35_50 : am_at 35 50 = some (.goto (-32), 3, [18]) := by decide +kernel
theorem r35_53 : am_at 35 53 = some (.lload_n 3, 1, [3]) := by decide +kernel
theorem r35_54 : am_at 35 54 = some (.lreturn, 1, []) := by decide +kernel
theorem rt35 : am_rtt 35 = some (some .long) := by decide +kernel
set_option maxRecDepth 100000 in
theorem pg35 : am_pg[35]? = some am_m35 := rfl
theorem m35_L18_w {d : Nat} {N : Nat} {D : am_D} {mc ms : Nat} {Q : am_O → am_AH → Prop} (hd : 3 ≤ d) : ∀ (n : Nat) (v3 : Int64) (v5 : Int32) {q : Int64} (h : m35_L18 N D  n v3 v5 = some q) (k0 : am_X xs L 35 d mc ms 53 [.ref 0, am_dead, am_dead, .long q, am_dead, am_dead] [] (am_mk D) 0 0 Q), am_X xs L 35 d mc ms 18 [.ref 0, am_dead, am_dead, .long v3, am_dead, .int v5] [] (am_mk D) 0 0 Q := by
  intro n
  induction n with
  | zero =>
    intro v3 v5 q h k0
    exact (nomatch (show none = some q from h))
  | succ n ih =>
    intro v3 v5 q h k0
    rw [m35_L18] at h
    refine x_ld (v := .int v5) r35_18 rfl rfl rfl ?_
    refine x_ld (v := .ref 0) r35_20 rfl rfl rfl ?_
    refine y_gf (cd := 93) (v := .ref 91) r35_21 rfl rfl rfl ?_
    refine y_gf (cd := 0) (v := .int (D.1 91 1)) r35_24 rfl rfl rfl ?_
    rcases am_ifE h with ⟨c3, h⟩ | ⟨c3, h⟩
    · refine x_icgeT r35_27 c3 ?_
      refine x_forget (lc0 := [.ref 0, am_dead, am_dead, .long v3, am_dead, am_dead]) ⟨Or.inl rfl, Or.inl rfl, Or.inl rfl, Or.inl rfl, Or.inl rfl, Or.inr ⟨rfl, rfl⟩, trivial⟩ ?_
      cases h
      exact k0
    · refine x_icgeF r35_27 c3 rfl ?_
      refine x_sp r35_30 rfl rfl rfl rfl rfl rfl trivial rfl ?_
      refine x_ld (v := .long v3) r35_33 rfl rfl rfl ?_
      refine x_ar r35_34 rfl trivial rfl ?_
      refine x_ld (v := .ref 0) r35_35 rfl rfl rfl ?_
      refine y_gf (cd := 93) (v := .ref 91) r35_36 rfl rfl rfl ?_
      refine x_ld (v := .int v5) r35_39 rfl rfl rfl ?_
      refine x_call1 (as := [.ref 91, .int v5]) (rest := [.long ((Int64.ofNat 31) * v3)]) r35_41 rfl rfl rfl (by decide) (Nat.le_of_ble_eq_true rfl) (m234_ok rfl) (Nat.le_trans (by decide) hd) (Nat.zero_le _) (Nat.zero_le _) rfl ?_
      refine x_ar r35_44 rfl trivial rfl ?_
      refine x_ar r35_45 rfl trivial rfl ?_
      obtain ⟨x4, e5, h⟩ := am_ltE h
      refine am_topJ e5 ?_
      refine x_sto (lc' := [.ref 0, am_dead, am_dead, .long x4, am_dead, .int v5]) r35_46 rfl rfl rfl rfl ?_
      obtain ⟨x6, e7, h⟩ := am_ltE h
      refine x_sto (lc' := [.ref 0, am_dead, am_dead, .long x4, am_dead, .int x6]) r35_47 rfl rfl (by subst e7; rfl) rfl ?_
      refine x_goto r35_50 ?_
      exact x_forget (lc0 := [.ref 0, am_dead, am_dead, .long x4, am_dead, .int x6]) ⟨Or.inl rfl, Or.inl rfl, Or.inl rfl, Or.inl rfl, Or.inl rfl, Or.inl rfl, trivial⟩ (ih x4 x6 h k0)
theorem m35_w {d mc ms : Nat} {N : Nat} {D : am_D} {v1 : Int64} {Q : am_O → am_AH → Prop} (hd : 3 ≤ d) {r : Int64} (h : m35 N D v1 = some r) (hQ : Q (.inl (some (.long r))) (am_mk D)) : am_X xs L 35 d mc ms 0 [.ref 0, .long v1, am_dead, am_dead, am_dead, am_dead] [] (am_mk D) 0 0 Q := by
  unfold m35 at h
  refine x_sp r35_0 rfl rfl rfl rfl rfl rfl trivial rfl ?_
  refine x_ld (v := .long v1) r35_3 rfl rfl rfl ?_
  refine x_ar r35_4 rfl trivial rfl ?_
  refine x_ld (v := .ref 0) r35_5 rfl rfl rfl ?_
  refine y_gf (cd := 93) (v := .ref 91) r35_6 rfl rfl rfl ?_
  refine y_gf (cd := 0) (v := .int (D.1 91 1)) r35_9 rfl rfl rfl ?_
  refine x_ar r35_12 rfl trivial rfl ?_
  refine x_ar r35_13 rfl trivial rfl ?_
  obtain ⟨x1, e2, h⟩ := am_ltE h
  refine am_topJ e2 ?_
  refine x_sto (lc' := [.ref 0, .long v1, am_dead, .long x1, am_dead, am_dead]) r35_14 rfl rfl rfl rfl ?_
  refine x_ic (v := 0) r35_15 rfl rfl ?_
  refine x_sto (lc' := [.ref 0, .long v1, am_dead, .long x1, am_dead, .int (0 : Int32)]) r35_16 rfl rfl rfl rfl ?_
  obtain ⟨q8, h9, h⟩ := Option.bind_eq_some_iff.mp h
  refine x_forget (lc0 := [.ref 0, am_dead, am_dead, .long x1, am_dead, .int (0 : Int32)]) ⟨Or.inl rfl, Or.inr ⟨rfl, rfl⟩, Or.inl rfl, Or.inl rfl, Or.inl rfl, Or.inl rfl, trivial⟩ (m35_L18_w hd N x1 (0 : Int32) h9 ?_)
  refine x_ld (v := .long q8) r35_53 rfl rfl rfl ?_
  cases h
  exact x_ret (ret := some .long) (C := True) (v := some (.long _)) r35_54 rt35 rfl rfl rfl rfl rfl rfl rfl rfl trivial hQ
theorem m35_ok {N : Nat} {D : am_D} {v1 : Int64} {r : Int64} (h : m35 N D v1 = some r) : am_Y xs L 35 3 0 0 [.ref 0, .long v1] D (.inl (some (.long r))) D := am_Yof (mi := am_m35) (lc := [.ref 0, .long v1, am_dead, am_dead, am_dead, am_dead]) pg35 (Nat.le_of_ble_eq_true rfl) (am_rc1 (ci := 7) rfl rfl rfl rfl rfl) rfl (fun Q hQ => m35_w (Nat.le_refl _) h hQ)
theorem r121_0 : am_at 121 0 = some (.iconst (0), 1, []) := by decide +kernel
theorem r121_1 : am_at 121 1 = some (.istore 4, 2, [4]) := by decide +kernel
theorem r121_3 : am_at 121 3 = some (.iconst (0), 1, []) := by decide +kernel
theorem r121_4 : am_at 121 4 = some (.istore 5, 2, [5]) := by decide +kernel
theorem r121_6 : am_at 121 6 = some (.iload 5, 2, [5]) := by decide +kernel
theorem r121_8 : am_at 121 8 = some (.iconst (4), 1, []) := by decide +kernel
theorem r121_9 : am_at 121 9 = some (.if_icmp .ge (27), 3, [36]) := by decide +kernel
theorem r121_12 : am_at 121 12 = some (.iload 5, 2, [5]) := by decide +kernel
theorem r121_14 : am_at 121 14 = some (.iload_n 1, 1, [1]) := by decide +kernel
theorem r121_15 : am_at 121 15 = some (.if_icmp .eq (15), 3, [30]) := by decide +kernel
theorem r121_18 : am_at 121 18 = some (.aload_n 0, 1, [0]) := by decide +kernel
theorem r121_19 : am_at 121 19 = some (.getfield 25, 3, [8, 12, 3, 1227]) := by decide +kernel
theorem r121_22 : am_at 121 22 = some (.iload 4, 2, [4]) := by decide +kernel
theorem r121_24 : am_at 121 24 = some (.iload 5, 2, [5]) := by decide +kernel
theorem r121_26 : am_at 121 26 = some (.iastore, 1, []) := by decide +kernel
theorem r121_27 : am_at 121 27 = some (.iinc 4 (1), 3, [4]) := by decide +kernel
theorem r121_30 : am_at 121 30 = some (.iinc 5 (1), 3, [5]) := by decide +kernel
theorem r121_33 : am_at 121 33 = some (.goto (-27), 3, [6]) := by decide +kernel
theorem r121_36 : am_at 121 36 = some (.aload_n 0, 1, [0]) := by decide +kernel
theorem r121_37 : am_at 121 37 = some (.aload_n 0, 1, [0]) := by decide +kernel
theorem r121_38 : am_at 121 38 = some (.getfield 25, 3, [8, 12, 3, 1227]) := by decide +kernel
theorem r121_41 : am_at 121 41 = some (.iconst (0), 1, []) := by decide +kernel
theorem r121_42 : am_at 121 42 = some (.iaload, 1, []) := by decide +kernel
theorem r121_43 : am_at 121 43 = some (.invokevirtual 121, 3, [57, 2, 1319, 0]) := by decide +kernel
theorem r121_46 : am_at 121 46 = some (.istore 5, 2, [5]) := by decide +kernel
theorem r121_48 : am_at 121 48 = some (.aload_n 0, 1, [0]) := by decide +kernel
theorem r121_49 : am_at 121 49 = some (.aload_n 0, 1, [0]) := by decide +kernel
theorem r121_50 : am_at 121 50 = some (.getfield 25, 3, [8, 12, 3, 1227]) := by decide +kernel
theorem r121_53 : am_at 121 53 = some (.iconst (1), 1, []) := by decide +kernel
theorem r121_54 : am_at 121 54 = some (.iaload, 1, []) := by decide +kernel
theorem r121_55 : am_at 121 55 = some (.invokevirtual 121, 3, [57, 2, 1319, 0]) := by decide +kernel
theorem r121_58 : am_at 121 58 = some (.istore 6, 2, [6]) := by decide +kernel
theorem r121_60 : am_at 121 60 = some (.aload_n 0, 1, [0]) := by decide +kernel
theorem r121_61 : am_at 121 61 = some (.aload_n 0, 1, [0]) := by decide +kernel
theorem r121_62 : am_at 121 62 = some (.getfield 25, 3, [8, 12, 3, 1227]) := by decide +kernel
theorem r121_65 : am_at 121 65 = some (.iconst (2), 1, []) := by decide +kernel
theorem r121_66 : am_at 121 66 = some (.iaload, 1, []) := by decide +kernel
theorem r121_67 : am_at 121 67 = some (.invokevirtual 121, 3, [57, 2, 1319, 0]) := by decide +kernel
theorem r121_70 : am_at 121 70 = some (.istore 7, 2, [7]) := by decide +kernel
theorem r121_72 : am_at 121 72 = some (.iconst (0), 1, []) := by decide +kernel
theorem r121_73 : am_at 121 73 = some (.istore 8, 2, [8]) := by decide +kernel
theorem r121_75 : am_at 121 75 = some (.iload 8, 2, [8]) := by decide +kernel
theorem r121_77 : am_at 121 77 = some (.bipush (64), 2, []) := by decide +kernel
theorem r121_79 : am_at 121 79 = some (.if_icmp .ge (26), 3, [105]) := by decide +kernel
theorem r121_82 : am_at 121 82 = some (.aload_n 0, 1, [0]) := by decide +kernel
theorem r121_83 : am_at 121 83 = some (.getfield 22, 3, [8, 11, 3, 1226]) := by decide +kernel
theorem r121_86 : am_at 121 86 = some (.iload 8, 2, [8]) := by decide +kernel
theorem r121_88 : am_at 121 88 = some (.iload 8, 2, [8]) := by decide +kernel
theorem r121_90 : am_at 121 90 = some (.ifCond .ne (7), 3, [97]) := by decide +kernel
theorem r121_93 : am_at 121 93 = some (.iconst (1), 1, []) := by decide +kernel
theorem r121_94 : am_at 121 94 = some (.goto (4), 3, [98]) := by decide +kernel
theorem r121_97 : am_at 121 97 = some (.iconst (0), 1, []) := by decide +kernel
theorem r121_98 : am_at 121 98 = some (.iastore, 1, []) := by decide +kernel
theorem r121_99 : am_at 121 99 = some (.iinc 8 (1), 3, [8]) := by decide +kernel
theorem r121_102 : am_at 121 102 = some (.goto (-27), 3, [75]) := by decide +kernel
theorem r121_105 : am_at 121 105 = some (.iconst (0), 1, []) := by decide +kernel
theorem r121_106 : am_at 121 106 = some (.istore 8, 2, [8]) := by decide +kernel
theorem r121_108 : am_at 121 108 = some (.iconst (0), 1, []) := by decide +kernel
theorem r121_109 : am_at 121 109 = some (.istore 9, 2, [9]) := by decide +kernel
theorem r121_111 : am_at 121 111 = some (.iload 9, 2, [9]) := by decide +kernel
theorem r121_113 : am_at 121 113 = some (.bipush (28), 2, []) := by decide +kernel
theorem r121_115 : am_at 121 115 = some (.if_icmp .ge (63), 3, [178]) := by decide +kernel
theorem r121_118 : am_at 121 118 = some (.aload_n 0, 1, [0]) := by decide +kernel
theorem r121_119 : am_at 121 119 = some (.getfield 7, 3, [8, 1, 3, 1216]) := by decide +kernel
theorem r121_122 : am_at 121 122 = some (.bipush (25), 2, []) := by decide +kernel
theorem r121_124 : am_at 121 124 = some (.iload 9, 2, [9]) := by decide +kernel
theorem r121_126 : am_at 121 126 = some (.iadd, 1, []) := by decide +kernel
theorem r121_127 : am_at 121 127 = some (.iaload, 1, []) := by decide +kernel
theorem r121_128 : am_at 121 128 = some (.invokestatic 133, 3, [48, 1, 1302, 0]) := by decide +kernel
theorem r121_131 : am_at 121 131 = some (.ifCond .eq (41), 3, [172]) := by decide +kernel
theorem r121_134 : am_at 121 134 = some (.aload_n 0, 1, [0]) := by decide +kernel
theorem r121_135 : am_at 121 135 = some (.getfield 7, 3, [8, 1, 3, 1216]) := by decide +kernel
theorem r121_138 : am_at 121 138 = some (.bipush (25), 2, []) := by decide +kernel
theorem r121_140 : am_at 121 140 = some (.iload 9, 2, [9]) := by decide +kernel
theorem r121_142 : am_at 121 142 = some (.iadd, 1, []) := by decide +kernel
theorem r121_143 : am_at 121 143 = some (.iaload, 1, []) := by decide +kernel
theorem r121_144 : am_at 121 144 = some (.iload_n 1, 1, [1]) := by decide +kernel
theorem r121_145 : am_at 121 145 = some (.if_icmp .eq (27), 3, [172]) := by decide +kernel
theorem r121_148 : am_at 121 148 = some (.aload_n 0, 1, [0]) := by decide +kernel
theorem r121_149 : am_at 121 149 = some (.iload 9, 2, [9]) := by decide +kernel
theorem r121_151 : am_at 121 151 = some (.iload 9, 2, [9]) := by decide +kernel
theorem r121_153 : am_at 121 153 = some (.iload_n 2, 1, [2]) := by decide +kernel
theorem r121_154 : am_at 121 154 = some (.if_icmp .ne (7), 3, [161]) := by decide +kernel
theorem r121_157 : am_at 121 157 = some (.iload_n 3, 1, [3]) := by decide +kernel
theorem r121_158 : am_at 121 158 = some (.goto (4), 3, [162]) := by decide +kernel
theorem r121_161 : am_at 121 161 = some (.iconst (-1), 1, []) := by decide +kernel
theorem r121_162 : am_at 121 162 = some (.iload 8, 2, [8]) := by decide +kernel
theorem r121_164 : am_at 121 164 = some (.iload 7, 2, [7]) := by decide +kernel
theorem r121_166 : am_at 121 166 = some (.invokevirtual 246, 3, [122, 5, 1596, 0]) := by decide +kernel
theorem r121_169 : am_at 121 169 = some (.iinc 8 (1), 3, [8]) := by decide +kernel
theorem r121_172 : am_at 121 172 = some (.iinc 9 (1), 3, [9]) := by decide +kernel
theorem r121_175 : am_at 121 175 = some (.goto (-64), 3, [111]) := by decide +kernel
theorem r121_178 : am_at 121 178 = some (.aload_n 0, 1, [0]) := by decide +kernel
theorem r121_179 : am_at 121 179 = some (.getfield 22, 3, [8, 11, 3, 1226]) := by decide +kernel
theorem r121_182 : am_at 121 182 = some (.bipush (8), 2, []) := by decide +kernel
theorem r121_184 : am_at 121 184 = some (.iload 5, 2, [5]) := by decide +kernel
theorem r121_186 : am_at 121 186 = some (.imul, 1, []) := by decide +kernel
theorem r121_187 : am_at 121 187 = some (.iload 6, 2, [6]) := by decide +kernel
theorem r121_189 : am_at 121 189 = some (.iadd, 1, []) := by decide +kernel
theorem r121_190 : am_at 121 190 = some (.iaload, 1, []) := by decide +kernel
theorem r121_191 : am_at 121 191 = some (.ireturn, 1, []) := by decide +kernel
theorem rt121 : am_rtt 121 = some (some .int) := by decide +kernel
set_option maxRecDepth 100000 in
theorem pg121 : am_pg[121]? = some am_m121 := rfl
theorem m121_L6_w {d : Nat} {N : Nat} {v1 : Int32} {v2 : Int32} {v3 : Int32} {mc ms : Nat} {Q : am_O → am_AH → Prop} (hd : 3 ≤ d) : ∀ (n : Nat) (D : am_D) (v4 : Int32) (v5 : Int32) {q : am_D} (h : m121_L6 N v1 v2 v3  n D v4 v5 = some q) (k0 : am_X xs L 121 d mc ms 36 [.ref 106, .int v1, .int v2, .int v3, am_dead, am_dead, am_dead, am_dead, am_dead, am_dead] [] (am_mk q) 0 0 Q), am_X xs L 121 d mc ms 6 [.ref 106, .int v1, .int v2, .int v3, .int v4, .int v5, am_dead, am_dead, am_dead, am_dead] [] (am_mk D) 0 0 Q := by
  intro n
  induction n with
  | zero =>
    intro D v4 v5 q h k0
    exact (nomatch (show none = some q from h))
  | succ n ih =>
    intro D v4 v5 q h k0
    rw [m121_L6] at h
    refine x_ld (v := .int v5) r121_6 rfl rfl rfl ?_
    refine x_ic (v := 4) r121_8 rfl rfl ?_
    rcases am_ifE h with ⟨c1, h⟩ | ⟨c1, h⟩
    · refine x_icgeT r121_9 c1 ?_
      refine x_forget (lc0 := [.ref 106, .int v1, .int v2, .int v3, am_dead, am_dead, am_dead, am_dead, am_dead, am_dead]) ⟨Or.inl rfl, Or.inl rfl, Or.inl rfl, Or.inl rfl, Or.inr ⟨rfl, rfl⟩, Or.inr ⟨rfl, rfl⟩, Or.inl rfl, Or.inl rfl, Or.inl rfl, Or.inl rfl, trivial⟩ ?_
      cases h
      exact k0
    · refine x_icgeF r121_9 c1 rfl ?_
      refine x_ld (v := .int v5) r121_12 rfl rfl rfl ?_
      refine x_ld (v := .int v1) r121_14 rfl rfl rfl ?_
      obtain ⟨q2, h4, h⟩ := Option.bind_eq_some_iff.mp h
      have kj3 : am_X xs L 121 d mc ms 30 [.ref 106, .int v1, .int v2, .int v3, .int q2.1, .int v5, am_dead, am_dead, am_dead, am_dead] [] (am_mk q2.2) 0 0 Q := by
        obtain ⟨x11, e12, h⟩ := am_ltE h
        refine x_sto (lc' := [.ref 106, .int v1, .int v2, .int v3, .int q2.1, .int x11, am_dead, am_dead, am_dead, am_dead]) r121_30 rfl rfl (by subst e12; rfl) rfl ?_
        refine x_goto r121_33 ?_
        exact x_forget (lc0 := [.ref 106, .int v1, .int v2, .int v3, .int q2.1, .int x11, am_dead, am_dead, am_dead, am_dead]) ⟨Or.inl rfl, Or.inl rfl, Or.inl rfl, Or.inl rfl, Or.inl rfl, Or.inl rfl, Or.inl rfl, Or.inl rfl, Or.inl rfl, Or.inl rfl, trivial⟩ (ih q2.2 q2.1 x11 h k0)
      rcases am_ifE h4 with ⟨c5, h4⟩ | ⟨c5, h4⟩
      · refine x_iceqT r121_15 c5 ?_
        cases h4
        exact kj3
      · refine x_iceqF r121_15 c5 rfl ?_
        refine x_ld (v := .ref 106) r121_18 rfl rfl rfl ?_
        refine y_gf (cd := 114) (v := .ref 112) r121_19 rfl rfl rfl ?_
        refine x_ld (v := .int v4) r121_22 rfl rfl rfl ?_
        refine x_ld (v := .int v5) r121_24 rfl rfl rfl ?_
        obtain ⟨g8, h4⟩ := am_gdE h4
        obtain ⟨D6, e7, h4⟩ := am_ltE h4
        refine y_ias (n := 3) r121_26 rfl (by decide) g8 rfl e7 rfl ?_
        obtain ⟨x9, e10, h4⟩ := am_ltE h4
        refine x_sto (lc' := [.ref 106, .int v1, .int v2, .int v3, .int x9, .int v5, am_dead, am_dead, am_dead, am_dead]) r121_27 rfl rfl (by subst e10; rfl) rfl ?_
        cases h4
        exact kj3
theorem m121_L75_w {d : Nat} {N : Nat} {v1 : Int32} {v2 : Int32} {v3 : Int32} {v5 : Int32} {v6 : Int32} {v7 : Int32} {mc ms : Nat} {Q : am_O → am_AH → Prop} (hd : 3 ≤ d) : ∀ (n : Nat) (D : am_D) (v8 : Int32) {q : am_D} (h : m121_L75 N v1 v2 v3 v5 v6 v7  n D v8 = some q) (k0 : am_X xs L 121 d mc ms 105 [.ref 106, .int v1, .int v2, .int v3, am_dead, .int v5, .int v6, .int v7, am_dead, am_dead] [] (am_mk q) 0 0 Q), am_X xs L 121 d mc ms 75 [.ref 106, .int v1, .int v2, .int v3, am_dead, .int v5, .int v6, .int v7, .int v8, am_dead] [] (am_mk D) 0 0 Q := by
  intro n
  induction n with
  | zero =>
    intro D v8 q h k0
    exact (nomatch (show none = some q from h))
  | succ n ih =>
    intro D v8 q h k0
    rw [m121_L75] at h
    refine x_ld (v := .int v8) r121_75 rfl rfl rfl ?_
    refine x_bi (v := 64) r121_77 rfl rfl ?_
    rcases am_ifE h with ⟨c21, h⟩ | ⟨c21, h⟩
    · refine x_icgeT r121_79 c21 ?_
      refine x_forget (lc0 := [.ref 106, .int v1, .int v2, .int v3, am_dead, .int v5, .int v6, .int v7, am_dead, am_dead]) ⟨Or.inl rfl, Or.inl rfl, Or.inl rfl, Or.inl rfl, Or.inl rfl, Or.inl rfl, Or.inl rfl, Or.inl rfl, Or.inr ⟨rfl, rfl⟩, Or.inl rfl, trivial⟩ ?_
      cases h
      exact k0
    · refine x_icgeF r121_79 c21 rfl ?_
      refine x_ld (v := .ref 106) r121_82 rfl rfl rfl ?_
      refine y_gf (cd := 113) (v := .ref 111) r121_83 rfl rfl rfl ?_
      refine x_ld (v := .int v8) r121_86 rfl rfl rfl ?_
      refine x_ld (v := .int v8) r121_88 rfl rfl rfl ?_
      obtain ⟨q22, h24, h⟩ := am_ltE h
      replace h24 := h24.symm
      have kj23 : am_X xs L 121 d mc ms 98 [.ref 106, .int v1, .int v2, .int v3, am_dead, .int v5, .int v6, .int v7, .int v8, am_dead] [.int q22, .int v8, .ref 111] (am_mk D) 0 0 Q := by
        obtain ⟨g28, h⟩ := am_gdE h
        obtain ⟨D26, e27, h⟩ := am_ltE h
        refine y_ias (n := 64) r121_98 rfl (by decide) g28 rfl e27 rfl ?_
        obtain ⟨x29, e30, h⟩ := am_ltE h
        refine x_sto (lc' := [.ref 106, .int v1, .int v2, .int v3, am_dead, .int v5, .int v6, .int v7, .int x29, am_dead]) r121_99 rfl rfl (by subst e30; rfl) rfl ?_
        refine x_goto r121_102 ?_
        exact x_forget (lc0 := [.ref 106, .int v1, .int v2, .int v3, am_dead, .int v5, .int v6, .int v7, .int x29, am_dead]) ⟨Or.inl rfl, Or.inl rfl, Or.inl rfl, Or.inl rfl, Or.inl rfl, Or.inl rfl, Or.inl rfl, Or.inl rfl, Or.inl rfl, Or.inl rfl, trivial⟩ (ih D26 x29 h k0)
      rcases am_ifE h24 with ⟨c25, h24⟩ | ⟨c25, h24⟩
      · refine x_ifneT r121_90 c25 rfl ?_
        refine x_ic (v := 1) r121_93 rfl rfl ?_
        refine x_goto r121_94 ?_
        subst h24
        exact kj23
      · refine x_ifneF r121_90 c25 ?_
        refine x_ic (v := 0) r121_97 rfl rfl ?_
        subst h24
        exact kj23
theorem m121_L111_w {d : Nat} {N : Nat} {v1 : Int32} {v2 : Int32} {v3 : Int32} {v5 : Int32} {v6 : Int32} {v7 : Int32} {mc ms : Nat} {Q : am_O → am_AH → Prop} (hd : 3 ≤ d) : ∀ (n : Nat) (D : am_D) (v8 : Int32) (v9 : Int32) {q : am_D} (h : m121_L111 N v1 v2 v3 v5 v6 v7  n D v8 v9 = some q) (k0 : am_X xs L 121 d mc ms 178 [.ref 106, am_dead, am_dead, am_dead, am_dead, .int v5, .int v6, am_dead, am_dead, am_dead] [] (am_mk q) 0 0 Q), am_X xs L 121 d mc ms 111 [.ref 106, .int v1, .int v2, .int v3, am_dead, .int v5, .int v6, .int v7, .int v8, .int v9] [] (am_mk D) 0 0 Q := by
  intro n
  induction n with
  | zero =>
    intro D v8 v9 q h k0
    exact (nomatch (show none = some q from h))
  | succ n ih =>
    intro D v8 v9 q h k0
    rw [m121_L111] at h
    refine x_ld (v := .int v9) r121_111 rfl rfl rfl ?_
    refine x_bi (v := 28) r121_113 rfl rfl ?_
    rcases am_ifE h with ⟨c33, h⟩ | ⟨c33, h⟩
    · refine x_icgeT r121_115 c33 ?_
      refine x_forget (lc0 := [.ref 106, am_dead, am_dead, am_dead, am_dead, .int v5, .int v6, am_dead, am_dead, am_dead]) ⟨Or.inl rfl, Or.inr ⟨rfl, rfl⟩, Or.inr ⟨rfl, rfl⟩, Or.inr ⟨rfl, rfl⟩, Or.inl rfl, Or.inl rfl, Or.inl rfl, Or.inr ⟨rfl, rfl⟩, Or.inr ⟨rfl, rfl⟩, Or.inr ⟨rfl, rfl⟩, trivial⟩ ?_
      cases h
      exact k0
    · refine x_icgeF r121_115 c33 rfl ?_
      refine x_ld (v := .ref 106) r121_118 rfl rfl rfl ?_
      refine y_gf (cd := 109) (v := .ref 107) r121_119 rfl rfl rfl ?_
      refine x_bi (v := 25) r121_122 rfl rfl ?_
      refine x_ld (v := .int v9) r121_124 rfl rfl rfl ?_
      refine x_ar r121_126 rfl trivial rfl ?_
      obtain ⟨g34, h⟩ := am_gdE h
      refine y_ial (n := 1320) r121_127 rfl (by decide) g34 rfl rfl ?_
      refine x_call1 (as := [.int (D.1 107 (((25 : Int32) + v9)).toNatClampNeg)]) (rest := []) r121_128 rfl rfl rfl (by decide) (Nat.le_of_ble_eq_true rfl) (m48_ok rfl) (Nat.le_trans (by decide) hd) (Nat.zero_le _) (Nat.zero_le _) rfl ?_
      obtain ⟨q35, h37, h⟩ := Option.bind_eq_some_iff.mp h
      have kj36 : am_X xs L 121 d mc ms 172 [.ref 106, .int v1, .int v2, .int v3, am_dead, .int v5, .int v6, .int v7, .int q35.1, .int v9] [] (am_mk q35.2) 0 0 Q := by
        obtain ⟨x49, e50, h⟩ := am_ltE h
        refine x_sto (lc' := [.ref 106, .int v1, .int v2, .int v3, am_dead, .int v5, .int v6, .int v7, .int q35.1, .int x49]) r121_172 rfl rfl (by subst e50; rfl) rfl ?_
        refine x_goto r121_175 ?_
        exact x_forget (lc0 := [.ref 106, .int v1, .int v2, .int v3, am_dead, .int v5, .int v6, .int v7, .int q35.1, .int x49]) ⟨Or.inl rfl, Or.inl rfl, Or.inl rfl, Or.inl rfl, Or.inl rfl, Or.inl rfl, Or.inl rfl, Or.inl rfl, Or.inl rfl, Or.inl rfl, trivial⟩ (ih q35.2 q35.1 x49 h k0)
      rcases am_ifE h37 with ⟨c38, h37⟩ | ⟨c38, h37⟩
      · refine x_ifeqT r121_131 c38 ?_
        cases h37
        exact kj36
      · refine x_ifeqF r121_131 c38 rfl ?_
        refine x_ld (v := .ref 106) r121_134 rfl rfl rfl ?_
        refine y_gf (cd := 109) (v := .ref 107) r121_135 rfl rfl rfl ?_
        refine x_bi (v := 25) r121_138 rfl rfl ?_
        refine x_ld (v := .int v9) r121_140 rfl rfl rfl ?_
        refine x_ar r121_142 rfl trivial rfl ?_
        obtain ⟨g39, h37⟩ := am_gdE h37
        refine y_ial (n := 1320) r121_143 rfl (by decide) g39 rfl rfl ?_
        refine x_ld (v := .int v1) r121_144 rfl rfl rfl ?_
        rcases am_ifE h37 with ⟨c40, h37⟩ | ⟨c40, h37⟩
        · refine x_iceqT r121_145 c40 ?_
          cases h37
          exact kj36
        · refine x_iceqF r121_145 c40 rfl ?_
          refine x_ld (v := .ref 106) r121_148 rfl rfl rfl ?_
          refine x_ld (v := .int v9) r121_149 rfl rfl rfl ?_
          refine x_ld (v := .int v9) r121_151 rfl rfl rfl ?_
          refine x_ld (v := .int v2) r121_153 rfl rfl rfl ?_
          obtain ⟨q41, h43, h37⟩ := am_ltE h37
          replace h43 := h43.symm
          have kj42 : am_X xs L 121 d mc ms 162 [.ref 106, .int v1, .int v2, .int v3, am_dead, .int v5, .int v6, .int v7, .int v8, .int v9] [.int q41, .int v9, .ref 106] (am_mk D) 0 0 Q := by
            refine x_ld (v := .int v8) r121_162 rfl rfl rfl ?_
            refine x_ld (v := .int v7) r121_164 rfl rfl rfl ?_
            obtain ⟨q45, h46, h37⟩ := Option.bind_eq_some_iff.mp h37
            refine x_call0 (as := [.ref 106, .int v9, .int q41, .int v8, .int v7]) (rest := []) r121_166 rfl rfl rfl (by decide) (Nat.le_of_ble_eq_true rfl) (m122_ok h46) (Nat.le_trans (by decide) hd) (Nat.zero_le _) (Nat.zero_le _) rfl ?_
            obtain ⟨x47, e48, h37⟩ := am_ltE h37
            refine x_sto (lc' := [.ref 106, .int v1, .int v2, .int v3, am_dead, .int v5, .int v6, .int v7, .int x47, .int v9]) r121_169 rfl rfl (by subst e48; rfl) rfl ?_
            cases h37
            exact kj36
          rcases am_ifE h43 with ⟨c44, h43⟩ | ⟨c44, h43⟩
          · refine x_icneT r121_154 c44 rfl ?_
            refine x_ld (v := .int v3) r121_157 rfl rfl rfl ?_
            refine x_goto r121_158 ?_
            subst h43
            exact kj42
          · refine x_icneF r121_154 c44 ?_
            refine x_ic (v := -1) r121_161 rfl rfl ?_
            subst h43
            exact kj42
theorem m121_w {d mc ms : Nat} {N : Nat} {D : am_D} {v1 : Int32} {v2 : Int32} {v3 : Int32} {Q : am_O → am_AH → Prop} (hd : 3 ≤ d) {r : Int32 × am_D} (h : m121 N D v1 v2 v3 = some r) (hQ : Q (.inl (some (.int r.1))) (am_mk r.2)) : am_X xs L 121 d mc ms 0 [.ref 106, .int v1, .int v2, .int v3, am_dead, am_dead, am_dead, am_dead, am_dead, am_dead] [] (am_mk D) 0 0 Q := by
  unfold m121 at h
  refine x_ic (v := 0) r121_0 rfl rfl ?_
  refine x_sto (lc' := [.ref 106, .int v1, .int v2, .int v3, .int (0 : Int32), am_dead, am_dead, am_dead, am_dead, am_dead]) r121_1 rfl rfl rfl rfl ?_
  refine x_ic (v := 0) r121_3 rfl rfl ?_
  refine x_sto (lc' := [.ref 106, .int v1, .int v2, .int v3, .int (0 : Int32), .int (0 : Int32), am_dead, am_dead, am_dead, am_dead]) r121_4 rfl rfl rfl rfl ?_
  obtain ⟨q13, h14, h⟩ := Option.bind_eq_some_iff.mp h
  refine x_forget (lc0 := [.ref 106, .int v1, .int v2, .int v3, .int (0 : Int32), .int (0 : Int32), am_dead, am_dead, am_dead, am_dead]) ⟨Or.inl rfl, Or.inl rfl, Or.inl rfl, Or.inl rfl, Or.inl rfl, Or.inl rfl, Or.inl rfl, Or.inl rfl, Or.inl rfl, Or.inl rfl, trivial⟩ (m121_L6_w hd N D (0 : Int32) (0 : Int32) h14 ?_)
  refine x_ld (v := .ref 106) r121_36 rfl rfl rfl ?_
  refine x_ld (v := .ref 106) r121_37 rfl rfl rfl ?_
  refine y_gf (cd := 114) (v := .ref 112) r121_38 rfl rfl rfl ?_
  refine x_ic (v := 0) r121_41 rfl rfl ?_
  refine y_ial (n := 3) r121_42 rfl (by decide) (by decide) (e := 0) (by decide) rfl ?_
  obtain ⟨q15, h16, h⟩ := Option.bind_eq_some_iff.mp h
  refine x_call1 (as := [.ref 106, .int (q13.1 112 0)]) (rest := []) r121_43 rfl rfl rfl (by decide) (Nat.le_of_ble_eq_true rfl) (m57_ok h16) (Nat.le_trans (by decide) hd) (Nat.zero_le _) (Nat.zero_le _) rfl ?_
  refine x_sto (lc' := [.ref 106, .int v1, .int v2, .int v3, am_dead, .int q15, am_dead, am_dead, am_dead, am_dead]) r121_46 rfl rfl rfl rfl ?_
  refine x_ld (v := .ref 106) r121_48 rfl rfl rfl ?_
  refine x_ld (v := .ref 106) r121_49 rfl rfl rfl ?_
  refine y_gf (cd := 114) (v := .ref 112) r121_50 rfl rfl rfl ?_
  refine x_ic (v := 1) r121_53 rfl rfl ?_
  refine y_ial (n := 3) r121_54 rfl (by decide) (by decide) (e := 1) (by decide) rfl ?_
  obtain ⟨q17, h18, h⟩ := Option.bind_eq_some_iff.mp h
  refine x_call1 (as := [.ref 106, .int (q13.1 112 1)]) (rest := []) r121_55 rfl rfl rfl (by decide) (Nat.le_of_ble_eq_true rfl) (m57_ok h18) (Nat.le_trans (by decide) hd) (Nat.zero_le _) (Nat.zero_le _) rfl ?_
  refine x_sto (lc' := [.ref 106, .int v1, .int v2, .int v3, am_dead, .int q15, .int q17, am_dead, am_dead, am_dead]) r121_58 rfl rfl rfl rfl ?_
  refine x_ld (v := .ref 106) r121_60 rfl rfl rfl ?_
  refine x_ld (v := .ref 106) r121_61 rfl rfl rfl ?_
  refine y_gf (cd := 114) (v := .ref 112) r121_62 rfl rfl rfl ?_
  refine x_ic (v := 2) r121_65 rfl rfl ?_
  refine y_ial (n := 3) r121_66 rfl (by decide) (by decide) (e := 2) (by decide) rfl ?_
  obtain ⟨q19, h20, h⟩ := Option.bind_eq_some_iff.mp h
  refine x_call1 (as := [.ref 106, .int (q13.1 112 2)]) (rest := []) r121_67 rfl rfl rfl (by decide) (Nat.le_of_ble_eq_true rfl) (m57_ok h20) (Nat.le_trans (by decide) hd) (Nat.zero_le _) (Nat.zero_le _) rfl ?_
  refine x_sto (lc' := [.ref 106, .int v1, .int v2, .int v3, am_dead, .int q15, .int q17, .int q19, am_dead, am_dead]) r121_70 rfl rfl rfl rfl ?_
  refine x_ic (v := 0) r121_72 rfl rfl ?_
  refine x_sto (lc' := [.ref 106, .int v1, .int v2, .int v3, am_dead, .int q15, .int q17, .int q19, .int (0 : Int32), am_dead]) r121_73 rfl rfl rfl rfl ?_
  obtain ⟨q31, h32, h⟩ := Option.bind_eq_some_iff.mp h
  refine x_forget (lc0 := [.ref 106, .int v1, .int v2, .int v3, am_dead, .int q15, .int q17, .int q19, .int (0 : Int32), am_dead]) ⟨Or.inl rfl, Or.inl rfl, Or.inl rfl, Or.inl rfl, Or.inl rfl, Or.inl rfl, Or.inl rfl, Or.inl rfl, Or.inl rfl, Or.inl rfl, trivial⟩ (m121_L75_w hd N q13 (0 : Int32) h32 ?_)
  refine x_ic (v := 0) r121_105 rfl rfl ?_
  refine x_sto (lc' := [.ref 106, .int v1, .int v2, .int v3, am_dead, .int q15, .int q17, .int q19, .int (0 : Int32), am_dead]) r121_106 rfl rfl rfl rfl ?_
  refine x_ic (v := 0) r121_108 rfl rfl ?_
  refine x_sto (lc' := [.ref 106, .int v1, .int v2, .int v3, am_dead, .int q15, .int q17, .int q19, .int (0 : Int32), .int (0 : Int32)]) r121_109 rfl rfl rfl rfl ?_
  obtain ⟨q51, h52, h⟩ := Option.bind_eq_some_iff.mp h
  refine x_forget (lc0 := [.ref 106, .int v1, .int v2, .int v3, am_dead, .int q15, .int q17, .int q19, .int (0 : Int32), .int (0 : Int32)]) ⟨Or.inl rfl, Or.inl rfl, Or.inl rfl, Or.inl rfl, Or.inl rfl, Or.inl rfl, Or.inl rfl, Or.inl rfl, Or.inl rfl, Or.inl rfl, trivial⟩ (m121_L111_w hd N q31 (0 : Int32) (0 : Int32) h52 ?_)
  refine x_ld (v := .ref 106) r121_178 rfl rfl rfl ?_
  refine y_gf (cd := 113) (v := .ref 111) r121_179 rfl rfl rfl ?_
  refine x_bi (v := 8) r121_182 rfl rfl ?_
  refine x_ld (v := .int q15) r121_184 rfl rfl rfl ?_
  refine x_ar r121_186 rfl trivial rfl ?_
  refine x_ld (v := .int q17) r121_187 rfl rfl rfl ?_
  refine x_ar r121_189 rfl trivial rfl ?_
  obtain ⟨g53, h⟩ := am_gdE h
  refine y_ial (n := 64) r121_190 rfl (by decide) g53 rfl rfl ?_
  cases h
  exact x_ret (ret := some .int) (C := True) (v := some (.int _)) r121_191 rt121 rfl rfl rfl rfl rfl rfl rfl rfl trivial hQ
theorem m121_ok {N : Nat} {D : am_D} {v1 : Int32} {v2 : Int32} {v3 : Int32} {r : Int32 × am_D} (h : m121 N D v1 v2 v3 = some r) : am_Y xs L 121 3 0 0 [.ref 106, .int v1, .int v2, .int v3] D (.inl (some (.int r.1))) r.2 := am_Yof (mi := am_m121) (lc := [.ref 106, .int v1, .int v2, .int v3, am_dead, am_dead, am_dead, am_dead, am_dead, am_dead]) pg121 (Nat.le_of_ble_eq_true rfl) (am_rc1 (ci := 8) rfl rfl rfl rfl rfl) rfl (fun Q hQ => m121_w (Nat.le_refl _) h hQ)
theorem r123_0 : am_at 123 0 = some (.aload_n 0, 1, [0]) := by decide +kernel
theorem r123_1 : am_at 123 1 = some (.iload_n 1, 1, [1]) := by decide +kernel
theorem r123_2 : am_at 123 2 = some (.invokestatic 133, 3, [48, 1, 1302, 0]) := by decide +kernel
theorem r123_5 : am_at 123 5 = some (.ifCond .ne (7), 3, [12]) := by decide +kernel
theorem r123_8 : am_at 123 8 = some (.iconst (1), 1, []) := by decide +kernel
theorem r123_9 : am_at 123 9 = some (.goto (17), 3, [26]) := by decide +kernel
theorem r123_12 : am_at 123 12 = some (.iload_n 2, 1, [2]) := by decide +kernel
theorem r123_13 : am_at 123 13 = some (.iconst (0), 1, []) := by decide +kernel
theorem r123_14 : am_at 123 14 = some (.iconst (1), 1, []) := by decide +kernel
theorem r123_15 : am_at 123 15 = some (.invokestatic 65, 3, [46, 3, 1305, 0]) := by decide +kernel
theorem r123_18 : am_at 123 18 = some (.ifCond .ne (7), 3, [25]) := by decide +kernel
theorem r123_21 : am_at 123 21 = some (.iconst (2), 1, []) := by decide +kernel
theorem r123_22 : am_at 123 22 = some (.goto (4), 3, [26]) := by decide +kernel
theorem r123_25 : am_at 123 25 = some (.iconst (0), 1, []) := by decide +kernel
theorem r123_26 : am_at 123 26 = some (.invokevirtual 142, 3, [47, 2, 1323, 0]) := by decide +kernel
theorem r123_29 : am_at 123 29 = some (.ifCond .eq (13), 3, [42]) := by decide +kernel
theorem r123_32 : am_at 123 32 = some (.aload_n 0, 1, [0]) := by decide +kernel
theorem r123_33 : am_at 123 33 = some (.iload_n 1, 1, [1]) := by decide +kernel
theorem r123_34 : am_at 123 34 = some (.iconst (-1), 1, []) := by decide +kernel
theorem r123_35 : am_at 123 35 = some (.iconst (-1), 1, []) := by decide +kernel
theorem r123_36 : am_at 123 36 = some (.invokevirtual 253, 3, [121, 4, 1592, 0]) := by decide +kernel
theorem r123_39 : am_at 123 39 = some (.goto (4), 3, [43]) := by decide +kernel
theorem r123_42 : am_at 123 42 = some (.iconst (0), 1, []) := by decide +kernel
theorem r123_43 : am_at 123 43 = some (.ireturn, 1, []) := by decide +kernel
theorem rt123 : am_rtt 123 = some (some .int) := by decide +kernel
set_option maxRecDepth 100000 in
theorem pg123 : am_pg[123]? = some am_m123 := rfl
theorem m123_w {d mc ms : Nat} {N : Nat} {D : am_D} {v1 : Int32} {v2 : Int32} {Q : am_O → am_AH → Prop} (hd : 4 ≤ d) {r : Int32 × am_D} (h : m123 N D v1 v2 = some r) (hQ : Q (.inl (some (.int r.1))) (am_mk r.2)) : am_X xs L 123 d mc ms 0 [.ref 106, .int v1, .int v2] [] (am_mk D) 0 0 Q := by
  unfold m123 at h
  refine x_ld (v := .ref 106) r123_0 rfl rfl rfl ?_
  refine x_ld (v := .int v1) r123_1 rfl rfl rfl ?_
  refine x_call1 (as := [.int v1]) (rest := [.ref 106]) r123_2 rfl rfl rfl (by decide) (Nat.le_of_ble_eq_true rfl) (m48_ok rfl) (Nat.le_trans (by decide) hd) (Nat.zero_le _) (Nat.zero_le _) rfl ?_
  obtain ⟨q1, h3, h⟩ := am_ltE h
  replace h3 := h3.symm
  have kj2 : am_X xs L 123 d mc ms 26 [.ref 106, .int v1, .int v2] [.int q1, .ref 106] (am_mk D) 0 0 Q := by
    obtain ⟨q6, h7, h⟩ := am_ltE h
    replace h7 := h7.symm
    refine x_call1 (as := [.ref 106, .int q1]) (rest := []) r123_26 rfl rfl rfl (by decide) (Nat.le_of_ble_eq_true rfl) (m47_ok h7) (Nat.le_trans (by decide) hd) (Nat.zero_le _) (Nat.zero_le _) rfl ?_
    rcases am_ifE h with ⟨c8, h⟩ | ⟨c8, h⟩
    · refine x_ifeqT r123_29 c8 ?_
      refine x_ic (v := 0) r123_42 rfl rfl ?_
      cases h
      exact x_ret (ret := some .int) (C := True) (v := some (.int _)) r123_43 rt123 rfl rfl rfl rfl rfl rfl rfl rfl trivial hQ
    · refine x_ifeqF r123_29 c8 rfl ?_
      refine x_ld (v := .ref 106) r123_32 rfl rfl rfl ?_
      refine x_ld (v := .int v1) r123_33 rfl rfl rfl ?_
      refine x_ic (v := -1) r123_34 rfl rfl ?_
      refine x_ic (v := -1) r123_35 rfl rfl ?_
      obtain ⟨q9, h10, h⟩ := Option.bind_eq_some_iff.mp h
      refine x_call1 (as := [.ref 106, .int v1, .int (-1 : Int32), .int (-1 : Int32)]) (rest := []) r123_36 rfl rfl rfl (by decide) (Nat.le_of_ble_eq_true rfl) (m121_ok h10) (Nat.le_trans (by decide) hd) (Nat.zero_le _) (Nat.zero_le _) rfl ?_
      refine x_goto r123_39 ?_
      cases h
      exact x_ret (ret := some .int) (C := True) (v := some (.int _)) r123_43 rt123 rfl rfl rfl rfl rfl rfl rfl rfl trivial hQ
  rcases am_ifE h3 with ⟨c4, h3⟩ | ⟨c4, h3⟩
  · refine x_ifneT r123_5 c4 rfl ?_
    refine x_ic (v := 1) r123_8 rfl rfl ?_
    refine x_goto r123_9 ?_
    subst h3
    exact kj2
  · refine x_ifneF r123_5 c4 ?_
    refine x_ld (v := .int v2) r123_12 rfl rfl rfl ?_
    refine x_ic (v := 0) r123_13 rfl rfl ?_
    refine x_ic (v := 1) r123_14 rfl rfl ?_
    refine x_call1 (as := [.int v2, .int (0 : Int32), .int (1 : Int32)]) (rest := [.ref 106]) r123_15 rfl rfl rfl (by decide) (Nat.le_of_ble_eq_true rfl) (m46_ok rfl) (Nat.le_trans (by decide) hd) (Nat.zero_le _) (Nat.zero_le _) rfl ?_
    rcases am_ifE h3 with ⟨c5, h3⟩ | ⟨c5, h3⟩
    · refine x_ifneT r123_18 c5 rfl ?_
      refine x_ic (v := 2) r123_21 rfl rfl ?_
      refine x_goto r123_22 ?_
      subst h3
      exact kj2
    · refine x_ifneF r123_18 c5 ?_
      refine x_ic (v := 0) r123_25 rfl rfl ?_
      subst h3
      exact kj2
theorem m123_ok {N : Nat} {D : am_D} {v1 : Int32} {v2 : Int32} {r : Int32 × am_D} (h : m123 N D v1 v2 = some r) : am_Y xs L 123 4 0 0 [.ref 106, .int v1, .int v2] D (.inl (some (.int r.1))) r.2 := am_Yof (mi := am_m123) (lc := [.ref 106, .int v1, .int v2]) pg123 (Nat.le_of_ble_eq_true rfl) (am_rc1 (ci := 8) rfl rfl rfl rfl rfl) rfl (fun Q hQ => m123_w (Nat.le_refl _) h hQ)
theorem r124_0 : am_at 124 0 = some (.iload_n 2, 1, [2]) := by decide +kernel
theorem r124_1 : am_at 124 1 = some (.iload_n 1, 1, [1]) := by decide +kernel
theorem r124_2 : am_at 124 2 = some (.if_icmp .ne (24), 3, [26]) := by decide +kernel
theorem r124_5 : am_at 124 5 = some (.aload_n 0, 1, [0]) := by decide +kernel
theorem r124_6 : am_at 124 6 = some (.iload_n 2, 1, [2]) := by decide +kernel
theorem r124_7 : am_at 124 7 = some (.iload_n 3, 1, [3]) := by decide +kernel
theorem r124_8 : am_at 124 8 = some (.invokevirtual 69, 3, [56, 3, 1315, 0]) := by decide +kernel
theorem r124_11 : am_at 124 11 = some (.ifCond .eq (13), 3, [24]) := by decide +kernel
theorem r124_14 : am_at 124 14 = some (.aload_n 0, 1, [0]) := by decide +kernel
theorem r124_15 : am_at 124 15 = some (.iload_n 1, 1, [1]) := by decide +kernel
theorem r124_16 : am_at 124 16 = some (.iconst (-1), 1, []) := by decide +kernel
theorem r124_17 : am_at 124 17 = some (.iconst (-1), 1, []) := by decide +kernel
theorem r124_18 : am_at 124 18 = some (.invokevirtual 253, 3, [121, 4, 1592, 0]) := by decide +kernel
theorem r124_21 : am_at 124 21 = some (.goto (4), 3, [25]) := by decide +kernel
theorem r124_24 : am_at 124 24 = some (.iconst (0), 1, []) := by decide +kernel
theorem r124_25 : am_at 124 25 = some (.ireturn, 1, []) := by decide +kernel
theorem r124_26 : am_at 124 26 = some (.aload_n 0, 1, [0]) := by decide +kernel
theorem r124_27 : am_at 124 27 = some (.getfield 7, 3, [8, 1, 3, 1216]) := by decide +kernel
theorem r124_30 : am_at 124 30 = some (.bipush (25), 2, []) := by decide +kernel
theorem r124_32 : am_at 124 32 = some (.iload_n 3, 1, [3]) := by decide +kernel
theorem r124_33 : am_at 124 33 = some (.iadd, 1, []) := by decide +kernel
theorem r124_34 : am_at 124 34 = some (.iaload, 1, []) := by decide +kernel
theorem r124_35 : am_at 124 35 = some (.invokestatic 133, 3, [48, 1, 1302, 0]) := by decide +kernel
theorem r124_38 : am_at 124 38 = some (.ifCond .eq (20), 3, [58]) := by decide +kernel
theorem r124_41 : am_at 124 41 = some (.aload_n 0, 1, [0]) := by decide +kernel
theorem r124_42 : am_at 124 42 = some (.getfield 7, 3, [8, 1, 3, 1216]) := by decide +kernel
theorem r124_45 : am_at 124 45 = some (.bipush (25), 2, []) := by decide +kernel
theorem r124_47 : am_at 124 47 = some (.iload_n 3, 1, [3]) := by decide +kernel
theorem r124_48 : am_at 124 48 = some (.iadd, 1, []) := by decide +kernel
theorem r124_49 : am_at 124 49 = some (.iaload, 1, []) := by decide +kernel
theorem r124_50 : am_at 124 50 = some (.iload_n 1, 1, [1]) := by decide +kernel
theorem r124_51 : am_at 124 51 = some (.if_icmp .eq (7), 3, [58]) := by decide +kernel
theorem r124_54 : am_at 124 54 = some (.iconst (1), 1, []) := by decide +kernel
theorem r124_55 : am_at 124 55 = some (.goto (4), 3, [59]) := by decide +kernel
theorem r124_58 : am_at 124 58 = some (.iconst (0), 1, []) := by decide +kernel
theorem r124_59 : am_at 124 59 = some (.istore 4, 2, [4]) := by decide +kernel
theorem r124_61 : am_at 124 61 = some (.iload 4, 2, [4]) := by decide +kernel
theorem r124_63 : am_at 124 63 = some (.ifCond .eq (13), 3, [76]) := by decide +kernel
theorem r124_66 : am_at 124 66 = some (.aload_n 0, 1, [0]) := by decide +kernel
theorem r124_67 : am_at 124 67 = some (.iload_n 1, 1, [1]) := by decide +kernel
theorem r124_68 : am_at 124 68 = some (.iload_n 3, 1, [3]) := by decide +kernel
theorem r124_69 : am_at 124 69 = some (.iload_n 2, 1, [2]) := by decide +kernel
theorem r124_70 : am_at 124 70 = some (.invokevirtual 253, 3, [121, 4, 1592, 0]) := by decide +kernel
theorem r124_73 : am_at 124 73 = some (.goto (4), 3, [77]) := by decide +kernel
theorem r124_76 : am_at 124 76 = some (.iconst (0), 1, []) := by decide +kernel
theorem r124_77 : am_at 124 77 = some (.ireturn, 1, []) := by decide +kernel
theorem rt124 : am_rtt 124 = some (some .int) := by decide +kernel
set_option maxRecDepth 100000 in
theorem pg124 : am_pg[124]? = some am_m124 := rfl
theorem m124_w {d mc ms : Nat} {N : Nat} {D : am_D} {v1 : Int32} {v2 : Int32} {v3 : Int32} {Q : am_O → am_AH → Prop} (hd : 4 ≤ d) {r : Int32 × am_D} (h : m124 N D v1 v2 v3 = some r) (hQ : Q (.inl (some (.int r.1))) (am_mk r.2)) : am_X xs L 124 d mc ms 0 [.ref 106, .int v1, .int v2, .int v3, am_dead] [] (am_mk D) 0 0 Q := by
  unfold m124 at h
  refine x_ld (v := .int v2) r124_0 rfl rfl rfl ?_
  refine x_ld (v := .int v1) r124_1 rfl rfl rfl ?_
  rcases am_ifE h with ⟨c1, h⟩ | ⟨c1, h⟩
  · refine x_icneT r124_2 c1 rfl ?_
    refine x_ld (v := .ref 106) r124_5 rfl rfl rfl ?_
    refine x_ld (v := .int v2) r124_6 rfl rfl rfl ?_
    refine x_ld (v := .int v3) r124_7 rfl rfl rfl ?_
    obtain ⟨q2, h3, h⟩ := Option.bind_eq_some_iff.mp h
    refine x_call1 (as := [.ref 106, .int v2, .int v3]) (rest := []) r124_8 rfl rfl rfl (by decide) (Nat.le_of_ble_eq_true rfl) (m56_ok h3) (Nat.le_trans (by decide) hd) (Nat.zero_le _) (Nat.zero_le _) rfl ?_
    rcases am_ifE h with ⟨c4, h⟩ | ⟨c4, h⟩
    · refine x_ifeqT r124_11 c4 ?_
      refine x_ic (v := 0) r124_24 rfl rfl ?_
      cases h
      exact x_ret (ret := some .int) (C := True) (v := some (.int _)) r124_25 rt124 rfl rfl rfl rfl rfl rfl rfl rfl trivial hQ
    · refine x_ifeqF r124_11 c4 rfl ?_
      refine x_ld (v := .ref 106) r124_14 rfl rfl rfl ?_
      refine x_ld (v := .int v1) r124_15 rfl rfl rfl ?_
      refine x_ic (v := -1) r124_16 rfl rfl ?_
      refine x_ic (v := -1) r124_17 rfl rfl ?_
      obtain ⟨q5, h6, h⟩ := Option.bind_eq_some_iff.mp h
      refine x_call1 (as := [.ref 106, .int v1, .int (-1 : Int32), .int (-1 : Int32)]) (rest := []) r124_18 rfl rfl rfl (by decide) (Nat.le_of_ble_eq_true rfl) (m121_ok h6) (Nat.le_trans (by decide) hd) (Nat.zero_le _) (Nat.zero_le _) rfl ?_
      refine x_goto r124_21 ?_
      cases h
      exact x_ret (ret := some .int) (C := True) (v := some (.int _)) r124_25 rt124 rfl rfl rfl rfl rfl rfl rfl rfl trivial hQ
  · refine x_icneF r124_2 c1 ?_
    refine x_ld (v := .ref 106) r124_26 rfl rfl rfl ?_
    refine y_gf (cd := 109) (v := .ref 107) r124_27 rfl rfl rfl ?_
    refine x_bi (v := 25) r124_30 rfl rfl ?_
    refine x_ld (v := .int v3) r124_32 rfl rfl rfl ?_
    refine x_ar r124_33 rfl trivial rfl ?_
    obtain ⟨g7, h⟩ := am_gdE h
    refine y_ial (n := 1320) r124_34 rfl (by decide) g7 rfl rfl ?_
    refine x_call1 (as := [.int (D.1 107 (((25 : Int32) + v3)).toNatClampNeg)]) (rest := []) r124_35 rfl rfl rfl (by decide) (Nat.le_of_ble_eq_true rfl) (m48_ok rfl) (Nat.le_trans (by decide) hd) (Nat.zero_le _) (Nat.zero_le _) rfl ?_
    obtain ⟨q8, h10, h⟩ := Option.bind_eq_some_iff.mp h
    have kj9 : am_X xs L 124 d mc ms 59 [.ref 106, .int v1, .int v2, .int v3, am_dead] [.int q8] (am_mk D) 0 0 Q := by
      refine x_sto (lc' := [.ref 106, .int v1, .int v2, .int v3, .int q8]) r124_59 rfl rfl rfl rfl ?_
      refine x_ld (v := .int q8) r124_61 rfl rfl rfl ?_
      rcases am_ifE h with ⟨c14, h⟩ | ⟨c14, h⟩
      · refine x_ifeqT r124_63 c14 ?_
        refine x_ic (v := 0) r124_76 rfl rfl ?_
        cases h
        exact x_ret (ret := some .int) (C := True) (v := some (.int _)) r124_77 rt124 rfl rfl rfl rfl rfl rfl rfl rfl trivial hQ
      · refine x_ifeqF r124_63 c14 rfl ?_
        refine x_ld (v := .ref 106) r124_66 rfl rfl rfl ?_
        refine x_ld (v := .int v1) r124_67 rfl rfl rfl ?_
        refine x_ld (v := .int v3) r124_68 rfl rfl rfl ?_
        refine x_ld (v := .int v2) r124_69 rfl rfl rfl ?_
        obtain ⟨q15, h16, h⟩ := Option.bind_eq_some_iff.mp h
        refine x_call1 (as := [.ref 106, .int v1, .int v3, .int v2]) (rest := []) r124_70 rfl rfl rfl (by decide) (Nat.le_of_ble_eq_true rfl) (m121_ok h16) (Nat.le_trans (by decide) hd) (Nat.zero_le _) (Nat.zero_le _) rfl ?_
        refine x_goto r124_73 ?_
        cases h
        exact x_ret (ret := some .int) (C := True) (v := some (.int _)) r124_77 rt124 rfl rfl rfl rfl rfl rfl rfl rfl trivial hQ
    rcases am_ifE h10 with ⟨c11, h10⟩ | ⟨c11, h10⟩
    · refine x_ifeqT r124_38 c11 ?_
      refine x_ic (v := 0) r124_58 rfl rfl ?_
      cases h10
      exact kj9
    · refine x_ifeqF r124_38 c11 rfl ?_
      refine x_ld (v := .ref 106) r124_41 rfl rfl rfl ?_
      refine y_gf (cd := 109) (v := .ref 107) r124_42 rfl rfl rfl ?_
      refine x_bi (v := 25) r124_45 rfl rfl ?_
      refine x_ld (v := .int v3) r124_47 rfl rfl rfl ?_
      refine x_ar r124_48 rfl trivial rfl ?_
      obtain ⟨g12, h10⟩ := am_gdE h10
      refine y_ial (n := 1320) r124_49 rfl (by decide) g12 rfl rfl ?_
      refine x_ld (v := .int v1) r124_50 rfl rfl rfl ?_
      rcases am_ifE h10 with ⟨c13, h10⟩ | ⟨c13, h10⟩
      · refine x_iceqT r124_51 c13 ?_
        refine x_ic (v := 0) r124_58 rfl rfl ?_
        cases h10
        exact kj9
      · refine x_iceqF r124_51 c13 rfl ?_
        refine x_ic (v := 1) r124_54 rfl rfl ?_
        refine x_goto r124_55 ?_
        cases h10
        exact kj9
theorem m124_ok {N : Nat} {D : am_D} {v1 : Int32} {v2 : Int32} {v3 : Int32} {r : Int32 × am_D} (h : m124 N D v1 v2 v3 = some r) : am_Y xs L 124 4 0 0 [.ref 106, .int v1, .int v2, .int v3] D (.inl (some (.int r.1))) r.2 := am_Yof (mi := am_m124) (lc := [.ref 106, .int v1, .int v2, .int v3, am_dead]) pg124 (Nat.le_of_ble_eq_true rfl) (am_rc1 (ci := 8) rfl rfl rfl rfl rfl) rfl (fun Q hQ => m124_w (Nat.le_refl _) h hQ)
theorem r125_0 : am_at 125 0 = some (.aload_n 0, 1, [0]) := by decide +kernel
theorem r125_1 : am_at 125 1 = some (.iload_n 1, 1, [1]) := by decide +kernel
theorem r125_2 : am_at 125 2 = some (.invokestatic 133, 3, [48, 1, 1302, 0]) := by decide +kernel
theorem r125_5 : am_at 125 5 = some (.ifCond .eq (21), 3, [26]) := by decide +kernel
theorem r125_8 : am_at 125 8 = some (.iload_n 2, 1, [2]) := by decide +kernel
theorem r125_9 : am_at 125 9 = some (.invokestatic 133, 3, [48, 1, 1302, 0]) := by decide +kernel
theorem r125_12 : am_at 125 12 = some (.ifCond .eq (14), 3, [26]) := by decide +kernel
theorem r125_15 : am_at 125 15 = some (.iload_n 3, 1, [3]) := by decide +kernel
theorem r125_16 : am_at 125 16 = some (.invokestatic 136, 3, [49, 1, 1308, 0]) := by decide +kernel
theorem r125_19 : am_at 125 19 = some (.ifCond .eq (7), 3, [26]) := by decide +kernel
theorem r125_22 : am_at 125 22 = some (.iconst (0), 1, []) := by decide +kernel
theorem r125_23 : am_at 125 23 = some (.goto (4), 3, [27]) := by decide +kernel
theorem r125_26 : am_at 125 26 = some (.iconst (1), 1, []) := by decide +kernel
theorem r125_27 : am_at 125 27 = some (.invokevirtual 142, 3, [47, 2, 1323, 0]) := by decide +kernel
theorem r125_30 : am_at 125 30 = some (.ifCond .eq (13), 3, [43]) := by decide +kernel
theorem r125_33 : am_at 125 33 = some (.aload_n 0, 1, [0]) := by decide +kernel
theorem r125_34 : am_at 125 34 = some (.iload_n 1, 1, [1]) := by decide +kernel
theorem r125_35 : am_at 125 35 = some (.iload_n 2, 1, [2]) := by decide +kernel
theorem r125_36 : am_at 125 36 = some (.iload_n 3, 1, [3]) := by decide +kernel
theorem r125_37 : am_at 125 37 = some (.invokevirtual 256, 3, [124, 4, 1608, 0]) := by decide +kernel
theorem r125_40 : am_at 125 40 = some (.goto (4), 3, [44]) := by decide +kernel
theorem r125_43 : am_at 125 43 = some (.iconst (0), 1, []) := by decide +kernel
theorem r125_44 : am_at 125 44 = some (.ireturn, 1, []) := by decide +kernel
theorem rt125 : am_rtt 125 = some (some .int) := by decide +kernel
set_option maxRecDepth 100000 in
theorem pg125 : am_pg[125]? = some am_m125 := rfl
theorem m125_w {d mc ms : Nat} {N : Nat} {D : am_D} {v1 : Int32} {v2 : Int32} {v3 : Int32} {Q : am_O → am_AH → Prop} (hd : 5 ≤ d) {r : Int32 × am_D} (h : m125 N D v1 v2 v3 = some r) (hQ : Q (.inl (some (.int r.1))) (am_mk r.2)) : am_X xs L 125 d mc ms 0 [.ref 106, .int v1, .int v2, .int v3] [] (am_mk D) 0 0 Q := by
  unfold m125 at h
  refine x_ld (v := .ref 106) r125_0 rfl rfl rfl ?_
  refine x_ld (v := .int v1) r125_1 rfl rfl rfl ?_
  refine x_call1 (as := [.int v1]) (rest := [.ref 106]) r125_2 rfl rfl rfl (by decide) (Nat.le_of_ble_eq_true rfl) (m48_ok rfl) (Nat.le_trans (by decide) hd) (Nat.zero_le _) (Nat.zero_le _) rfl ?_
  obtain ⟨q1, h3, h⟩ := am_ltE h
  replace h3 := h3.symm
  have kj2 : am_X xs L 125 d mc ms 27 [.ref 106, .int v1, .int v2, .int v3] [.int q1, .ref 106] (am_mk D) 0 0 Q := by
    obtain ⟨q7, h8, h⟩ := am_ltE h
    replace h8 := h8.symm
    refine x_call1 (as := [.ref 106, .int q1]) (rest := []) r125_27 rfl rfl rfl (by decide) (Nat.le_of_ble_eq_true rfl) (m47_ok h8) (Nat.le_trans (by decide) hd) (Nat.zero_le _) (Nat.zero_le _) rfl ?_
    rcases am_ifE h with ⟨c9, h⟩ | ⟨c9, h⟩
    · refine x_ifeqT r125_30 c9 ?_
      refine x_ic (v := 0) r125_43 rfl rfl ?_
      cases h
      exact x_ret (ret := some .int) (C := True) (v := some (.int _)) r125_44 rt125 rfl rfl rfl rfl rfl rfl rfl rfl trivial hQ
    · refine x_ifeqF r125_30 c9 rfl ?_
      refine x_ld (v := .ref 106) r125_33 rfl rfl rfl ?_
      refine x_ld (v := .int v1) r125_34 rfl rfl rfl ?_
      refine x_ld (v := .int v2) r125_35 rfl rfl rfl ?_
      refine x_ld (v := .int v3) r125_36 rfl rfl rfl ?_
      obtain ⟨q10, h11, h⟩ := Option.bind_eq_some_iff.mp h
      refine x_call1 (as := [.ref 106, .int v1, .int v2, .int v3]) (rest := []) r125_37 rfl rfl rfl (by decide) (Nat.le_of_ble_eq_true rfl) (m124_ok h11) (Nat.le_trans (by decide) hd) (Nat.zero_le _) (Nat.zero_le _) rfl ?_
      refine x_goto r125_40 ?_
      cases h
      exact x_ret (ret := some .int) (C := True) (v := some (.int _)) r125_44 rt125 rfl rfl rfl rfl rfl rfl rfl rfl trivial hQ
  rcases am_ifE h3 with ⟨c4, h3⟩ | ⟨c4, h3⟩
  · refine x_ifeqT r125_5 c4 ?_
    refine x_ic (v := 1) r125_26 rfl rfl ?_
    subst h3
    exact kj2
  · refine x_ifeqF r125_5 c4 rfl ?_
    refine x_ld (v := .int v2) r125_8 rfl rfl rfl ?_
    refine x_call1 (as := [.int v2]) (rest := [.ref 106]) r125_9 rfl rfl rfl (by decide) (Nat.le_of_ble_eq_true rfl) (m48_ok rfl) (Nat.le_trans (by decide) hd) (Nat.zero_le _) (Nat.zero_le _) rfl ?_
    rcases am_ifE h3 with ⟨c5, h3⟩ | ⟨c5, h3⟩
    · refine x_ifeqT r125_12 c5 ?_
      refine x_ic (v := 1) r125_26 rfl rfl ?_
      subst h3
      exact kj2
    · refine x_ifeqF r125_12 c5 rfl ?_
      refine x_ld (v := .int v3) r125_15 rfl rfl rfl ?_
      refine x_call1 (as := [.int v3]) (rest := [.ref 106]) r125_16 rfl rfl rfl (by decide) (Nat.le_of_ble_eq_true rfl) (m49_ok rfl) (Nat.le_trans (by decide) hd) (Nat.zero_le _) (Nat.zero_le _) rfl ?_
      rcases am_ifE h3 with ⟨c6, h3⟩ | ⟨c6, h3⟩
      · refine x_ifeqT r125_19 c6 ?_
        refine x_ic (v := 1) r125_26 rfl rfl ?_
        subst h3
        exact kj2
      · refine x_ifeqF r125_19 c6 rfl ?_
        refine x_ic (v := 0) r125_22 rfl rfl ?_
        refine x_goto r125_23 ?_
        subst h3
        exact kj2
theorem m125_ok {N : Nat} {D : am_D} {v1 : Int32} {v2 : Int32} {v3 : Int32} {r : Int32 × am_D} (h : m125 N D v1 v2 v3 = some r) : am_Y xs L 125 5 0 0 [.ref 106, .int v1, .int v2, .int v3] D (.inl (some (.int r.1))) r.2 := am_Yof (mi := am_m125) (lc := [.ref 106, .int v1, .int v2, .int v3]) pg125 (Nat.le_of_ble_eq_true rfl) (am_rc1 (ci := 8) rfl rfl rfl rfl rfl) rfl (fun Q hQ => m125_w (Nat.le_refl _) h hQ)
theorem r126_0 : am_at 126 0 = some (.aload_n 0, 1, [0]) := by decide +kernel
theorem r126_1 : am_at 126 1 = some (.iload_n 1, 1, [1]) := by decide +kernel
theorem r126_2 : am_at 126 2 = some (.iconst (-1), 1, []) := by decide +kernel
theorem r126_3 : am_at 126 3 = some (.iconst (-1), 1, []) := by decide +kernel
theorem r126_4 : am_at 126 4 = some (.invokevirtual 253, 3, [121, 4, 1592, 0]) := by decide +kernel
theorem r126_7 : am_at 126 7 = some (.istore_n 3, 1, [3]) := by decide +kernel
theorem r126_8 : am_at 126 8 = some (.iconst (0), 1, []) := by decide +kernel
theorem r126_9 : am_at 126 9 = some (.istore 4, 2, [4]) := by decide +kernel
theorem r126_11 : am_at 126 11 = some (.iconst (0), 1, []) := by decide +kernel
theorem r126_12 : am_at 126 12 = some (.istore 5, 2, [5]) := by decide +kernel
theorem r126_14 : am_at 126 14 = some (.iload 5, 2, [5]) := by decide +kernel
theorem r126_16 : am_at 126 16 = some (.bipush (28), 2, []) := by decide +kernel
theorem r126_18 : am_at 126 18 = some (.if_icmp .ge (35), 3, [53]) := by decide +kernel
theorem r126_21 : am_at 126 21 = some (.iload_n 3, 1, [3]) := by decide +kernel
theorem r126_22 : am_at 126 22 = some (.ifCond .le (31), 3, [53]) := by decide +kernel
theorem r126_25 : am_at 126 25 = some (.iload 4, 2, [4]) := by decide +kernel
theorem r126_27 : am_at 126 27 = some (.aload_n 0, 1, [0]) := by decide +kernel
theorem r126_28 : am_at 126 28 = some (.iload_n 1, 1, [1]) := by decide +kernel
theorem r126_29 : am_at 126 29 = some (.iload_n 2, 1, [2]) := by decide +kernel
theorem r126_30 : am_at 126 30 = some (.iload 5, 2, [5]) := by decide +kernel
theorem r126_32 : am_at 126 32 = some (.invokevirtual 256, 3, [124, 4, 1608, 0]) := by decide +kernel
theorem r126_35 : am_at 126 35 = some (.iload_n 3, 1, [3]) := by decide +kernel
theorem r126_36 : am_at 126 36 = some (.if_icmp .ne (7), 3, [43]) := by decide +kernel
theorem r126_39 : am_at 126 39 = some (.iconst (1), 1, []) := by decide +kernel
theorem r126_40 : am_at 126 40 = some (.goto (4), 3, [44]) := by decide +kernel
theorem r126_43 : am_at 126 43 = some (.iconst (0), 1, []) := by decide +kernel
theorem r126_44 : am_at 126 44 = some (.iadd, 1, []) := by decide +kernel
theorem r126_45 : am_at 126 45 = some (.istore 4, 2, [4]) := by decide +kernel
theorem r126_47 : am_at 126 47 = some (.iinc 5 (1), 3, [5]) := by decide +kernel
theorem r126_50 : am_at 126 50 = some (.goto (-36), 3, [14]) := by decide +kernel
theorem r126_53 : am_at 126 53 = some (.iload 4, 2, [4]) := by decide +kernel
theorem r126_55 : am_at 126 55 = some (.ireturn, 1, []) := by decide +kernel
theorem rt126 : am_rtt 126 = some (some .int) := by decide +kernel
set_option maxRecDepth 100000 in
theorem pg126 : am_pg[126]? = some am_m126 := rfl
theorem m126_L14_w {d : Nat} {N : Nat} {v1 : Int32} {v2 : Int32} {v3 : Int32} {mc ms : Nat} {Q : am_O → am_AH → Prop} (hd : 5 ≤ d) : ∀ (n : Nat) (D : am_D) (v4 : Int32) (v5 : Int32) {q : Int32 × am_D} (h : m126_L14 N v1 v2 v3  n D v4 v5 = some q) (k0 : am_X xs L 126 d mc ms 53 [.ref 106, am_dead, am_dead, am_dead, .int q.1, am_dead] [] (am_mk q.2) 0 0 Q), am_X xs L 126 d mc ms 14 [.ref 106, .int v1, .int v2, .int v3, .int v4, .int v5] [] (am_mk D) 0 0 Q := by
  intro n
  induction n with
  | zero =>
    intro D v4 v5 q h k0
    exact (nomatch (show none = some q from h))
  | succ n ih =>
    intro D v4 v5 q h k0
    rw [m126_L14] at h
    refine x_ld (v := .int v5) r126_14 rfl rfl rfl ?_
    refine x_bi (v := 28) r126_16 rfl rfl ?_
    rcases am_ifE h with ⟨c3, h⟩ | ⟨c3, h⟩
    · refine x_icgeT r126_18 c3 ?_
      refine x_forget (lc0 := [.ref 106, am_dead, am_dead, am_dead, .int v4, am_dead]) ⟨Or.inl rfl, Or.inr ⟨rfl, rfl⟩, Or.inr ⟨rfl, rfl⟩, Or.inr ⟨rfl, rfl⟩, Or.inl rfl, Or.inr ⟨rfl, rfl⟩, trivial⟩ ?_
      cases h
      exact k0
    · refine x_icgeF r126_18 c3 rfl ?_
      refine x_ld (v := .int v3) r126_21 rfl rfl rfl ?_
      rcases am_ifE h with ⟨c4, h⟩ | ⟨c4, h⟩
      · refine x_ifleT r126_22 c4 ?_
        refine x_forget (lc0 := [.ref 106, am_dead, am_dead, am_dead, .int v4, am_dead]) ⟨Or.inl rfl, Or.inr ⟨rfl, rfl⟩, Or.inr ⟨rfl, rfl⟩, Or.inr ⟨rfl, rfl⟩, Or.inl rfl, Or.inr ⟨rfl, rfl⟩, trivial⟩ ?_
        cases h
        exact k0
      · refine x_ifleF r126_22 c4 rfl ?_
        refine x_ld (v := .int v4) r126_25 rfl rfl rfl ?_
        refine x_ld (v := .ref 106) r126_27 rfl rfl rfl ?_
        refine x_ld (v := .int v1) r126_28 rfl rfl rfl ?_
        refine x_ld (v := .int v2) r126_29 rfl rfl rfl ?_
        refine x_ld (v := .int v5) r126_30 rfl rfl rfl ?_
        obtain ⟨q5, h6, h⟩ := Option.bind_eq_some_iff.mp h
        refine x_call1 (as := [.ref 106, .int v1, .int v2, .int v5]) (rest := [.int v4]) r126_32 rfl rfl rfl (by decide) (Nat.le_of_ble_eq_true rfl) (m124_ok h6) (Nat.le_trans (by decide) hd) (Nat.zero_le _) (Nat.zero_le _) rfl ?_
        refine x_ld (v := .int v3) r126_35 rfl rfl rfl ?_
        obtain ⟨q7, h9, h⟩ := am_ltE h
        replace h9 := h9.symm
        have kj8 : am_X xs L 126 d mc ms 44 [.ref 106, .int v1, .int v2, .int v3, .int v4, .int v5] [.int q7, .int v4] (am_mk q5.2) 0 0 Q := by
          refine x_ar r126_44 rfl trivial rfl ?_
          obtain ⟨x11, e12, h⟩ := am_ltE h
          refine am_topI e12 ?_
          refine x_sto (lc' := [.ref 106, .int v1, .int v2, .int v3, .int x11, .int v5]) r126_45 rfl rfl rfl rfl ?_
          obtain ⟨x13, e14, h⟩ := am_ltE h
          refine x_sto (lc' := [.ref 106, .int v1, .int v2, .int v3, .int x11, .int x13]) r126_47 rfl rfl (by subst e14; rfl) rfl ?_
          refine x_goto r126_50 ?_
          exact x_forget (lc0 := [.ref 106, .int v1, .int v2, .int v3, .int x11, .int x13]) ⟨Or.inl rfl, Or.inl rfl, Or.inl rfl, Or.inl rfl, Or.inl rfl, Or.inl rfl, trivial⟩ (ih q5.2 x11 x13 h k0)
        rcases am_ifE h9 with ⟨c10, h9⟩ | ⟨c10, h9⟩
        · refine x_icneT r126_36 c10 rfl ?_
          refine x_ic (v := 1) r126_39 rfl rfl ?_
          refine x_goto r126_40 ?_
          subst h9
          exact kj8
        · refine x_icneF r126_36 c10 ?_
          refine x_ic (v := 0) r126_43 rfl rfl ?_
          subst h9
          exact kj8
theorem m126_w {d mc ms : Nat} {N : Nat} {D : am_D} {v1 : Int32} {v2 : Int32} {Q : am_O → am_AH → Prop} (hd : 5 ≤ d) {r : Int32 × am_D} (h : m126 N D v1 v2 = some r) (hQ : Q (.inl (some (.int r.1))) (am_mk r.2)) : am_X xs L 126 d mc ms 0 [.ref 106, .int v1, .int v2, am_dead, am_dead, am_dead] [] (am_mk D) 0 0 Q := by
  unfold m126 at h
  refine x_ld (v := .ref 106) r126_0 rfl rfl rfl ?_
  refine x_ld (v := .int v1) r126_1 rfl rfl rfl ?_
  refine x_ic (v := -1) r126_2 rfl rfl ?_
  refine x_ic (v := -1) r126_3 rfl rfl ?_
  obtain ⟨q1, h2, h⟩ := Option.bind_eq_some_iff.mp h
  refine x_call1 (as := [.ref 106, .int v1, .int (-1 : Int32), .int (-1 : Int32)]) (rest := []) r126_4 rfl rfl rfl (by decide) (Nat.le_of_ble_eq_true rfl) (m121_ok h2) (Nat.le_trans (by decide) hd) (Nat.zero_le _) (Nat.zero_le _) rfl ?_
  refine x_sto (lc' := [.ref 106, .int v1, .int v2, .int q1.1, am_dead, am_dead]) r126_7 rfl rfl rfl rfl ?_
  refine x_ic (v := 0) r126_8 rfl rfl ?_
  refine x_sto (lc' := [.ref 106, .int v1, .int v2, .int q1.1, .int (0 : Int32), am_dead]) r126_9 rfl rfl rfl rfl ?_
  refine x_ic (v := 0) r126_11 rfl rfl ?_
  refine x_sto (lc' := [.ref 106, .int v1, .int v2, .int q1.1, .int (0 : Int32), .int (0 : Int32)]) r126_12 rfl rfl rfl rfl ?_
  obtain ⟨q15, h16, h⟩ := Option.bind_eq_some_iff.mp h
  refine x_forget (lc0 := [.ref 106, .int v1, .int v2, .int q1.1, .int (0 : Int32), .int (0 : Int32)]) ⟨Or.inl rfl, Or.inl rfl, Or.inl rfl, Or.inl rfl, Or.inl rfl, Or.inl rfl, trivial⟩ (m126_L14_w hd N q1.2 (0 : Int32) (0 : Int32) h16 ?_)
  refine x_ld (v := .int q15.1) r126_53 rfl rfl rfl ?_
  cases h
  exact x_ret (ret := some .int) (C := True) (v := some (.int _)) r126_55 rt126 rfl rfl rfl rfl rfl rfl rfl rfl trivial hQ
theorem m126_ok {N : Nat} {D : am_D} {v1 : Int32} {v2 : Int32} {r : Int32 × am_D} (h : m126 N D v1 v2 = some r) : am_Y xs L 126 5 0 0 [.ref 106, .int v1, .int v2] D (.inl (some (.int r.1))) r.2 := am_Yof (mi := am_m126) (lc := [.ref 106, .int v1, .int v2, am_dead, am_dead, am_dead]) pg126 (Nat.le_of_ble_eq_true rfl) (am_rc1 (ci := 8) rfl rfl rfl rfl rfl) rfl (fun Q hQ => m126_w (Nat.le_refl _) h hQ)
theorem r127_0 : am_at 127 0 = some (.aload_n 0, 1, [0]) := by decide +kernel
theorem r127_1 : am_at 127 1 = some (.iload_n 1, 1, [1]) := by decide +kernel
theorem r127_2 : am_at 127 2 = some (.invokestatic 133, 3, [48, 1, 1302, 0]) := by decide +kernel
theorem r127_5 : am_at 127 5 = some (.ifCond .eq (14), 3, [19]) := by decide +kernel
theorem r127_8 : am_at 127 8 = some (.iload_n 2, 1, [2]) := by decide +kernel
theorem r127_9 : am_at 127 9 = some (.invokestatic 133, 3, [48, 1, 1302, 0]) := by decide +kernel
theorem r127_12 : am_at 127 12 = some (.ifCond .eq (7), 3, [19]) := by decide +kernel
theorem r127_15 : am_at 127 15 = some (.iconst (0), 1, []) := by decide +kernel
theorem r127_16 : am_at 127 16 = some (.goto (4), 3, [20]) := by decide +kernel
theorem r127_19 : am_at 127 19 = some (.iconst (1), 1, []) := by decide +kernel
theorem r127_20 : am_at 127 20 = some (.invokevirtual 142, 3, [47, 2, 1323, 0]) := by decide +kernel
theorem r127_23 : am_at 127 23 = some (.ifCond .eq (12), 3, [35]) := by decide +kernel
theorem r127_26 : am_at 127 26 = some (.aload_n 0, 1, [0]) := by decide +kernel
theorem r127_27 : am_at 127 27 = some (.iload_n 1, 1, [1]) := by decide +kernel
theorem r127_28 : am_at 127 28 = some (.iload_n 2, 1, [2]) := by decide +kernel
theorem r127_29 : am_at 127 29 = some (.invokevirtual 259, 3, [126, 3, 1616, 0]) := by decide +kernel
theorem r127_32 : am_at 127 32 = some (.goto (4), 3, [36]) := by decide +kernel
theorem r127_35 : am_at 127 35 = some (.iconst (0), 1, []) := by decide +kernel
theorem r127_36 : am_at 127 36 = some (.ireturn, 1, []) := by decide +kernel
theorem rt127 : am_rtt 127 = some (some .int) := by decide +kernel
set_option maxRecDepth 100000 in
theorem pg127 : am_pg[127]? = some am_m127 := rfl
theorem m127_w {d mc ms : Nat} {N : Nat} {D : am_D} {v1 : Int32} {v2 : Int32} {Q : am_O → am_AH → Prop} (hd : 6 ≤ d) {r : Int32 × am_D} (h : m127 N D v1 v2 = some r) (hQ : Q (.inl (some (.int r.1))) (am_mk r.2)) : am_X xs L 127 d mc ms 0 [.ref 106, .int v1, .int v2] [] (am_mk D) 0 0 Q := by
  unfold m127 at h
  refine x_ld (v := .ref 106) r127_0 rfl rfl rfl ?_
  refine x_ld (v := .int v1) r127_1 rfl rfl rfl ?_
  refine x_call1 (as := [.int v1]) (rest := [.ref 106]) r127_2 rfl rfl rfl (by decide) (Nat.le_of_ble_eq_true rfl) (m48_ok rfl) (Nat.le_trans (by decide) hd) (Nat.zero_le _) (Nat.zero_le _) rfl ?_
  obtain ⟨q1, h3, h⟩ := am_ltE h
  replace h3 := h3.symm
  have kj2 : am_X xs L 127 d mc ms 20 [.ref 106, .int v1, .int v2] [.int q1, .ref 106] (am_mk D) 0 0 Q := by
    obtain ⟨q6, h7, h⟩ := am_ltE h
    replace h7 := h7.symm
    refine x_call1 (as := [.ref 106, .int q1]) (rest := []) r127_20 rfl rfl rfl (by decide) (Nat.le_of_ble_eq_true rfl) (m47_ok h7) (Nat.le_trans (by decide) hd) (Nat.zero_le _) (Nat.zero_le _) rfl ?_
    rcases am_ifE h with ⟨c8, h⟩ | ⟨c8, h⟩
    · refine x_ifeqT r127_23 c8 ?_
      refine x_ic (v := 0) r127_35 rfl rfl ?_
      cases h
      exact x_ret (ret := some .int) (C := True) (v := some (.int _)) r127_36 rt127 rfl rfl rfl rfl rfl rfl rfl rfl trivial hQ
    · refine x_ifeqF r127_23 c8 rfl ?_
      refine x_ld (v := .ref 106) r127_26 rfl rfl rfl ?_
      refine x_ld (v := .int v1) r127_27 rfl rfl rfl ?_
      refine x_ld (v := .int v2) r127_28 rfl rfl rfl ?_
      obtain ⟨q9, h10, h⟩ := Option.bind_eq_some_iff.mp h
      refine x_call1 (as := [.ref 106, .int v1, .int v2]) (rest := []) r127_29 rfl rfl rfl (by decide) (Nat.le_of_ble_eq_true rfl) (m126_ok h10) (Nat.le_trans (by decide) hd) (Nat.zero_le _) (Nat.zero_le _) rfl ?_
      refine x_goto r127_32 ?_
      cases h
      exact x_ret (ret := some .int) (C := True) (v := some (.int _)) r127_36 rt127 rfl rfl rfl rfl rfl rfl rfl rfl trivial hQ
  rcases am_ifE h3 with ⟨c4, h3⟩ | ⟨c4, h3⟩
  · refine x_ifeqT r127_5 c4 ?_
    refine x_ic (v := 1) r127_19 rfl rfl ?_
    subst h3
    exact kj2
  · refine x_ifeqF r127_5 c4 rfl ?_
    refine x_ld (v := .int v2) r127_8 rfl rfl rfl ?_
    refine x_call1 (as := [.int v2]) (rest := [.ref 106]) r127_9 rfl rfl rfl (by decide) (Nat.le_of_ble_eq_true rfl) (m48_ok rfl) (Nat.le_trans (by decide) hd) (Nat.zero_le _) (Nat.zero_le _) rfl ?_
    rcases am_ifE h3 with ⟨c5, h3⟩ | ⟨c5, h3⟩
    · refine x_ifeqT r127_12 c5 ?_
      refine x_ic (v := 1) r127_19 rfl rfl ?_
      subst h3
      exact kj2
    · refine x_ifeqF r127_12 c5 rfl ?_
      refine x_ic (v := 0) r127_15 rfl rfl ?_
      refine x_goto r127_16 ?_
      subst h3
      exact kj2
theorem m127_ok {N : Nat} {D : am_D} {v1 : Int32} {v2 : Int32} {r : Int32 × am_D} (h : m127 N D v1 v2 = some r) : am_Y xs L 127 6 0 0 [.ref 106, .int v1, .int v2] D (.inl (some (.int r.1))) r.2 := am_Yof (mi := am_m127) (lc := [.ref 106, .int v1, .int v2]) pg127 (Nat.le_of_ble_eq_true rfl) (am_rc1 (ci := 8) rfl rfl rfl rfl rfl) rfl (fun Q hQ => m127_w (Nat.le_refl _) h hQ)
theorem r128_0 : am_at 128 0 = some (.aload_n 0, 1, [0]) := by decide +kernel
theorem r128_1 : am_at 128 1 = some (.iload_n 1, 1, [1]) := by decide +kernel
theorem r128_2 : am_at 128 2 = some (.iconst (-1), 1, []) := by decide +kernel
theorem r128_3 : am_at 128 3 = some (.iconst (-1), 1, []) := by decide +kernel
theorem r128_4 : am_at 128 4 = some (.invokevirtual 253, 3, [121, 4, 1592, 0]) := by decide +kernel
theorem r128_7 : am_at 128 7 = some (.istore 4, 2, [4]) := by decide +kernel
theorem r128_9 : am_at 128 9 = some (.iload 4, 2, [4]) := by decide +kernel
theorem r128_11 : am_at 128 11 = some (.ifCond .ne (7), 3, [18]) := by decide +kernel
theorem r128_14 : am_at 128 14 = some (.dconst 0, 1, []) := by decide +kernel
theorem r128_15 : am_at 128 15 = some (.goto (15), 3, [30]) := by decide +kernel
theorem r128_18 : am_at 128 18 = some (.aload_n 0, 1, [0]) := by decide +kernel
theorem r128_19 : am_at 128 19 = some (.iload_n 1, 1, [1]) := by decide +kernel
theorem r128_20 : am_at 128 20 = some (.iload_n 2, 1, [2]) := by decide +kernel
theorem r128_21 : am_at 128 21 = some (.iload_n 3, 1, [3]) := by decide +kernel
theorem r128_22 : am_at 128 22 = some (.invokevirtual 256, 3, [124, 4, 1608, 0]) := by decide +kernel
theorem r128_25 : am_at 128 25 = some (.i2d, 1, []) := by decide +kernel
theorem r128_26 : am_at 128 26 = some (.iload 4, 2, [4]) := by decide +kernel
theorem r128_28 : am_at 128 28 = some (.i2d, 1, []) := by decide +kernel
theorem r128_29 : am_at 128 29 = some (.ddiv, 1, []) := by decide +kernel
theorem r128_30 : am_at 128 30 = some (.dreturn, 1, []) := by decide +kernel
theorem rt128 : am_rtt 128 = some (some .double) := by decide +kernel
set_option maxRecDepth 100000 in
theorem pg128 : am_pg[128]? = some am_m128 := rfl
theorem m128_w {d mc ms : Nat} {N : Nat} {D : am_D} {v1 : Int32} {v2 : Int32} {v3 : Int32} {Q : am_O → am_AH → Prop} (hd : 5 ≤ d) {r : UInt64 × am_D} (h : m128 N D v1 v2 v3 = some r) (hQ : Q (.inl (some (.double r.1))) (am_mk r.2)) : am_X xs L 128 d mc ms 0 [.ref 106, .int v1, .int v2, .int v3, am_dead] [] (am_mk D) 0 0 Q := by
  unfold m128 at h
  refine x_ld (v := .ref 106) r128_0 rfl rfl rfl ?_
  refine x_ld (v := .int v1) r128_1 rfl rfl rfl ?_
  refine x_ic (v := -1) r128_2 rfl rfl ?_
  refine x_ic (v := -1) r128_3 rfl rfl ?_
  obtain ⟨q1, h2, h⟩ := Option.bind_eq_some_iff.mp h
  refine x_call1 (as := [.ref 106, .int v1, .int (-1 : Int32), .int (-1 : Int32)]) (rest := []) r128_4 rfl rfl rfl (by decide) (Nat.le_of_ble_eq_true rfl) (m121_ok h2) (Nat.le_trans (by decide) hd) (Nat.zero_le _) (Nat.zero_le _) rfl ?_
  refine x_sto (lc' := [.ref 106, .int v1, .int v2, .int v3, .int q1.1]) r128_7 rfl rfl rfl rfl ?_
  refine x_ld (v := .int q1.1) r128_9 rfl rfl rfl ?_
  obtain ⟨q3, h5, h⟩ := Option.bind_eq_some_iff.mp h
  have kj4 : am_X xs L 128 d mc ms 30 [.ref 106, .int v1, .int v2, .int v3, .int q1.1] [.double q3.1] (am_mk q3.2) 0 0 Q := by
    cases h
    exact x_ret (ret := some .double) (C := True) (v := some (.double _)) r128_30 rt128 rfl rfl rfl rfl rfl rfl rfl rfl trivial hQ
  rcases am_ifE h5 with ⟨c6, h5⟩ | ⟨c6, h5⟩
  · refine x_ifneT r128_11 c6 rfl ?_
    refine x_ar r128_14 rfl trivial rfl ?_
    refine x_goto r128_15 ?_
    cases h5
    exact kj4
  · refine x_ifneF r128_11 c6 ?_
    refine x_ld (v := .ref 106) r128_18 rfl rfl rfl ?_
    refine x_ld (v := .int v1) r128_19 rfl rfl rfl ?_
    refine x_ld (v := .int v2) r128_20 rfl rfl rfl ?_
    refine x_ld (v := .int v3) r128_21 rfl rfl rfl ?_
    obtain ⟨q7, h8, h5⟩ := Option.bind_eq_some_iff.mp h5
    refine x_call1 (as := [.ref 106, .int v1, .int v2, .int v3]) (rest := []) r128_22 rfl rfl rfl (by decide) (Nat.le_of_ble_eq_true rfl) (m124_ok h8) (Nat.le_trans (by decide) hd) (Nat.zero_le _) (Nat.zero_le _) rfl ?_
    refine x_ar r128_25 rfl trivial rfl ?_
    refine x_ld (v := .int q1.1) r128_26 rfl rfl rfl ?_
    refine x_ar r128_28 rfl trivial rfl ?_
    obtain ⟨g9, h5⟩ := am_gdE h5
    refine x_ar r128_29 rfl g9 rfl ?_
    cases h5
    exact kj4
theorem m128_ok {N : Nat} {D : am_D} {v1 : Int32} {v2 : Int32} {v3 : Int32} {r : UInt64 × am_D} (h : m128 N D v1 v2 v3 = some r) : am_Y xs L 128 5 0 0 [.ref 106, .int v1, .int v2, .int v3] D (.inl (some (.double r.1))) r.2 := am_Yof (mi := am_m128) (lc := [.ref 106, .int v1, .int v2, .int v3, am_dead]) pg128 (Nat.le_of_ble_eq_true rfl) (am_rc1 (ci := 8) rfl rfl rfl rfl rfl) rfl (fun Q hQ => m128_w (Nat.le_refl _) h hQ)
theorem r129_0 : am_at 129 0 = some (.aload_n 0, 1, [0]) := by decide +kernel
theorem r129_1 : am_at 129 1 = some (.iload_n 1, 1, [1]) := by decide +kernel
theorem r129_2 : am_at 129 2 = some (.invokestatic 133, 3, [48, 1, 1302, 0]) := by decide +kernel
theorem r129_5 : am_at 129 5 = some (.ifCond .eq (21), 3, [26]) := by decide +kernel
theorem r129_8 : am_at 129 8 = some (.iload_n 2, 1, [2]) := by decide +kernel
theorem r129_9 : am_at 129 9 = some (.invokestatic 133, 3, [48, 1, 1302, 0]) := by decide +kernel
theorem r129_12 : am_at 129 12 = some (.ifCond .eq (14), 3, [26]) := by decide +kernel
theorem r129_15 : am_at 129 15 = some (.iload_n 3, 1, [3]) := by decide +kernel
theorem r129_16 : am_at 129 16 = some (.invokestatic 136, 3, [49, 1, 1308, 0]) := by decide +kernel
theorem r129_19 : am_at 129 19 = some (.ifCond .eq (7), 3, [26]) := by decide +kernel
theorem r129_22 : am_at 129 22 = some (.iconst (0), 1, []) := by decide +kernel
theorem r129_23 : am_at 129 23 = some (.goto (4), 3, [27]) := by decide +kernel
theorem r129_26 : am_at 129 26 = some (.iconst (1), 1, []) := by decide +kernel
theorem r129_27 : am_at 129 27 = some (.invokevirtual 142, 3, [47, 2, 1323, 0]) := by decide +kernel
theorem r129_30 : am_at 129 30 = some (.ifCond .eq (13), 3, [43]) := by decide +kernel
theorem r129_33 : am_at 129 33 = some (.aload_n 0, 1, [0]) := by decide +kernel
theorem r129_34 : am_at 129 34 = some (.iload_n 1, 1, [1]) := by decide +kernel
theorem r129_35 : am_at 129 35 = some (.iload_n 2, 1, [2]) := by decide +kernel
theorem r129_36 : am_at 129 36 = some (.iload_n 3, 1, [3]) := by decide +kernel
theorem r129_37 : am_at 129 37 = some (.invokevirtual 262, 3, [128, 4, 1624, 0]) := by decide +kernel
theorem r129_40 : am_at 129 40 = some (.goto (4), 3, [44]) := by decide +kernel
theorem r129_43 : am_at 129 43 = some (.dconst 0, 1, []) := by decide +kernel
theorem r129_44 : am_at 129 44 = some (.dreturn, 1, []) := by decide +kernel
theorem rt129 : am_rtt 129 = some (some .double) := by decide +kernel
set_option maxRecDepth 100000 in
theorem pg129 : am_pg[129]? = some am_m129 := rfl
theorem m129_w {d mc ms : Nat} {N : Nat} {D : am_D} {v1 : Int32} {v2 : Int32} {v3 : Int32} {Q : am_O → am_AH → Prop} (hd : 6 ≤ d) {r : UInt64 × am_D} (h : m129 N D v1 v2 v3 = some r) (hQ : Q (.inl (some (.double r.1))) (am_mk r.2)) : am_X xs L 129 d mc ms 0 [.ref 106, .int v1, .int v2, .int v3] [] (am_mk D) 0 0 Q := by
  unfold m129 at h
  refine x_ld (v := .ref 106) r129_0 rfl rfl rfl ?_
  refine x_ld (v := .int v1) r129_1 rfl rfl rfl ?_
  refine x_call1 (as := [.int v1]) (rest := [.ref 106]) r129_2 rfl rfl rfl (by decide) (Nat.le_of_ble_eq_true rfl) (m48_ok rfl) (Nat.le_trans (by decide) hd) (Nat.zero_le _) (Nat.zero_le _) rfl ?_
  obtain ⟨q1, h3, h⟩ := am_ltE h
  replace h3 := h3.symm
  have kj2 : am_X xs L 129 d mc ms 27 [.ref 106, .int v1, .int v2, .int v3] [.int q1, .ref 106] (am_mk D) 0 0 Q := by
    obtain ⟨q7, h8, h⟩ := am_ltE h
    replace h8 := h8.symm
    refine x_call1 (as := [.ref 106, .int q1]) (rest := []) r129_27 rfl rfl rfl (by decide) (Nat.le_of_ble_eq_true rfl) (m47_ok h8) (Nat.le_trans (by decide) hd) (Nat.zero_le _) (Nat.zero_le _) rfl ?_
    obtain ⟨q9, h11, h⟩ := Option.bind_eq_some_iff.mp h
    have kj10 : am_X xs L 129 d mc ms 44 [.ref 106, .int v1, .int v2, .int v3] [.double q9.1] (am_mk q9.2) 0 0 Q := by
      cases h
      exact x_ret (ret := some .double) (C := True) (v := some (.double _)) r129_44 rt129 rfl rfl rfl rfl rfl rfl rfl rfl trivial hQ
    rcases am_ifE h11 with ⟨c12, h11⟩ | ⟨c12, h11⟩
    · refine x_ifeqT r129_30 c12 ?_
      refine x_ar r129_43 rfl trivial rfl ?_
      cases h11
      exact kj10
    · refine x_ifeqF r129_30 c12 rfl ?_
      refine x_ld (v := .ref 106) r129_33 rfl rfl rfl ?_
      refine x_ld (v := .int v1) r129_34 rfl rfl rfl ?_
      refine x_ld (v := .int v2) r129_35 rfl rfl rfl ?_
      refine x_ld (v := .int v3) r129_36 rfl rfl rfl ?_
      obtain ⟨q13, h14, h11⟩ := Option.bind_eq_some_iff.mp h11
      refine x_call1 (as := [.ref 106, .int v1, .int v2, .int v3]) (rest := []) r129_37 rfl rfl rfl (by decide) (Nat.le_of_ble_eq_true rfl) (m128_ok h14) (Nat.le_trans (by decide) hd) (Nat.zero_le _) (Nat.zero_le _) rfl ?_
      refine x_goto r129_40 ?_
      cases h11
      exact kj10
  rcases am_ifE h3 with ⟨c4, h3⟩ | ⟨c4, h3⟩
  · refine x_ifeqT r129_5 c4 ?_
    refine x_ic (v := 1) r129_26 rfl rfl ?_
    subst h3
    exact kj2
  · refine x_ifeqF r129_5 c4 rfl ?_
    refine x_ld (v := .int v2) r129_8 rfl rfl rfl ?_
    refine x_call1 (as := [.int v2]) (rest := [.ref 106]) r129_9 rfl rfl rfl (by decide) (Nat.le_of_ble_eq_true rfl) (m48_ok rfl) (Nat.le_trans (by decide) hd) (Nat.zero_le _) (Nat.zero_le _) rfl ?_
    rcases am_ifE h3 with ⟨c5, h3⟩ | ⟨c5, h3⟩
    · refine x_ifeqT r129_12 c5 ?_
      refine x_ic (v := 1) r129_26 rfl rfl ?_
      subst h3
      exact kj2
    · refine x_ifeqF r129_12 c5 rfl ?_
      refine x_ld (v := .int v3) r129_15 rfl rfl rfl ?_
      refine x_call1 (as := [.int v3]) (rest := [.ref 106]) r129_16 rfl rfl rfl (by decide) (Nat.le_of_ble_eq_true rfl) (m49_ok rfl) (Nat.le_trans (by decide) hd) (Nat.zero_le _) (Nat.zero_le _) rfl ?_
      rcases am_ifE h3 with ⟨c6, h3⟩ | ⟨c6, h3⟩
      · refine x_ifeqT r129_19 c6 ?_
        refine x_ic (v := 1) r129_26 rfl rfl ?_
        subst h3
        exact kj2
      · refine x_ifeqF r129_19 c6 rfl ?_
        refine x_ic (v := 0) r129_22 rfl rfl ?_
        refine x_goto r129_23 ?_
        subst h3
        exact kj2
theorem m129_ok {N : Nat} {D : am_D} {v1 : Int32} {v2 : Int32} {v3 : Int32} {r : UInt64 × am_D} (h : m129 N D v1 v2 v3 = some r) : am_Y xs L 129 6 0 0 [.ref 106, .int v1, .int v2, .int v3] D (.inl (some (.double r.1))) r.2 := am_Yof (mi := am_m129) (lc := [.ref 106, .int v1, .int v2, .int v3]) pg129 (Nat.le_of_ble_eq_true rfl) (am_rc1 (ci := 8) rfl rfl rfl rfl rfl) rfl (fun Q hQ => m129_w (Nat.le_refl _) h hQ)
end XE
