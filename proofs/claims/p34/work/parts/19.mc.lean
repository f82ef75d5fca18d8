/-! walks (by wip/p34/tools/decomp.py): 216 217 218 219 225 227 228 229 249 250 251 252 253 254 255 256 289 259 1 4 7 8 9 16 16 16 17 19 155 157 158 -/
section XE
variable {xs : Nat → Int32} {L : Nat}
theorem r216_0 : am_at 216 0 = some (.aload_n 0, 1, [0]) := by decide +kernel
theorem r216_1 : am_at 216 1 = some (.getfield 34, 3, [4, 6, 0, 100]) := by decide +kernel
theorem r216_4 : am_at 216 4 = some (.ifCond .ne (16), 3, [20]) := by decide +kernel
theorem r216_7 : am_at 216 7 = some (.aload_n 0, 1, [0]) := by decide +kernel
theorem r216_8 : am_at 216 8 = some (.invokevirtual 123, 3, [210, 1, 601, 0]) := by decide +kernel
theorem r216_11 : am_at 216 11 = some (.bipush (28), 2, []) := by decide +kernel
theorem r216_13 : am_at 216 13 = some (.if_icmp .ne (7), 3, [20]) := by decide +kernel
theorem r216_16 : am_at 216 16 = some (.iconst (1), 1, []) := by decide +kernel
theorem r216_17 : am_at 216 17 = some (.goto (4), 3, [21]) := by decide +kernel
theorem r216_20 : am_at 216 20 = some (.iconst (0), 1, []) := by decide +kernel
theorem r216_21 : am_at 216 21 = some (.ireturn, 1, []) := by decide +kernel
theorem rt216 : am_rtt 216 = some (some .boolean) := by decide +kernel
set_option maxRecDepth 100000 in
theorem pg216 : am_pg[216]? = some am_m216 := rfl
theorem m216_w {d mc ms : Nat} {N : Nat} {D : am_D} {Q : am_O → am_AH → Prop} (hd : 3 ≤ d) {r : Int32} (h : m216 N D = some r) (hQ : Q (.inl (some (.int r))) (am_mk D)) : am_X xs L 216 d mc ms 0 [.ref 1] [] (am_mk D) 0 0 Q := by
  unfold m216 at h
  refine x_ld (v := .ref 1) r216_0 rfl rfl rfl ?_
  refine y_gf (cd := 0) (v := .int (D.1 1 6)) r216_1 rfl rfl rfl ?_
  rcases am_ifE h with ⟨c1, h⟩ | ⟨c1, h⟩
  · refine x_ifneT r216_4 c1 rfl ?_
    refine x_ld (v := .ref 1) r216_7 rfl rfl rfl ?_
    obtain ⟨q2, h3, h⟩ := Option.bind_eq_some_iff.mp h
    refine x_call1 (as := [.ref 1]) (rest := []) r216_8 rfl rfl rfl (by decide) (Nat.le_of_ble_eq_true rfl) (m210_ok h3) (Nat.le_trans (by decide) hd) (Nat.zero_le _) (Nat.zero_le _) rfl ?_
    refine x_bi (v := 28) r216_11 rfl rfl ?_
    rcases am_ifE h with ⟨c4, h⟩ | ⟨c4, h⟩
    · refine x_icneT r216_13 c4 rfl ?_
      refine x_ic (v := 1) r216_16 rfl rfl ?_
      refine x_goto r216_17 ?_
      cases h
      exact x_ret (ret := some .boolean) (C := narrow .boolean (.int (1 : Int32)) = .int (1 : Int32)) (v := some (.int (1 : Int32))) r216_21 rt216 rfl rfl rfl rfl rfl rfl rfl rfl (by decide) hQ
    · refine x_icneF r216_13 c4 ?_
      refine x_ic (v := 0) r216_20 rfl rfl ?_
      cases h
      exact x_ret (ret := some .boolean) (C := narrow .boolean (.int (0 : Int32)) = .int (0 : Int32)) (v := some (.int (0 : Int32))) r216_21 rt216 rfl rfl rfl rfl rfl rfl rfl rfl (by decide) hQ
  · refine x_ifneF r216_4 c1 ?_
    refine x_ic (v := 0) r216_20 rfl rfl ?_
    cases h
    exact x_ret (ret := some .boolean) (C := narrow .boolean (.int (0 : Int32)) = .int (0 : Int32)) (v := some (.int (0 : Int32))) r216_21 rt216 rfl rfl rfl rfl rfl rfl rfl rfl (by decide) hQ
theorem m216_ok {N : Nat} {D : am_D} {r : Int32} (h : m216 N D = some r) : am_Y xs L 216 3 0 0 [.ref 1] D (.inl (some (.int r))) D := am_Yof (mi := am_m216) (lc := [.ref 1]) pg216 (Nat.le_of_ble_eq_true rfl) (am_rc1 (ci := 4) rfl rfl rfl rfl rfl) rfl (fun Q hQ => m216_w (Nat.le_refl _) h hQ)
theorem r217_0 : am_at 217 0 = some (.aload_n 0, 1, [0]) := by decide +kernel
theorem r217_1 : am_at 217 1 = some (.getfield 22, 3, [4, 2, 3, 91]) := by decide +kernel
theorem r217_4 : am_at 217 4 = some (.aload_n 0, 1, [0]) := by decide +kernel
theorem r217_5 : am_at 217 5 = some (.getfield 47, 3, [4, 10, 0, 109]) := by decide +kernel
theorem r217_8 : am_at 217 8 = some (.invokestatic 127, 3, [183, 2, 586, 0]) := by decide +kernel
theorem r217_11 : am_at 217 11 = some (.aload_n 0, 1, [0]) := by decide +kernel
theorem r217_12 : am_at 217 12 = some (.getfield 25, 3, [4, 3, 3, 93]) := by decide +kernel
theorem r217_15 : am_at 217 15 = some (.iconst (0), 1, []) := by decide +kernel
theorem r217_16 : am_at 217 16 = some (.invokestatic 127, 3, [183, 2, 586, 0]) := by decide +kernel
theorem r217_19 : am_at 217 19 = some (.aload_n 0, 1, [0]) := by decide +kernel
theorem r217_20 : am_at 217 20 = some (.getfield 28, 3, [4, 4, 3, 96]) := by decide +kernel
theorem r217_23 : am_at 217 23 = some (.iconst (0), 1, []) := by decide +kernel
theorem r217_24 : am_at 217 24 = some (.invokestatic 127, 3, [183, 2, 586, 0]) := by decide +kernel
theorem r217_27 : am_at 217 27 = some (.aload_n 0, 1, [0]) := by decide +kernel
theorem r217_28 : am_at 217 28 = some (.iconst (1), 1, []) := by decide +kernel
theorem r217_29 : am_at 217 29 = some (.putfield 34, 3, [4, 6, 0, 100]) := by decide +kernel
theorem r217_32 : am_at 217 32 = some (.aload_n 0, 1, [0]) := by decide +kernel
theorem r217_33 : am_at 217 33 = some (.iload_n 1, 1, [1]) := by decide +kernel
theorem r217_34 : am_at 217 34 = some (.putfield 38, 3, [4, 7, 0, 102]) := by decide +kernel
theorem r217_37 : am_at 217 37 = some (.aload_n 0, 1, [0]) := by decide +kernel
theorem r217_38 : am_at 217 38 = some (.iload_n 1, 1, [1]) := by decide +kernel
theorem r217_39 : am_at 217 39 = some (.invokestatic 131, 3, [185, 1, 610, 0]) := by decide +kernel
theorem r217_42 : am_at 217 42 = some (.putfield 41, 3, [4, 8, 0, 105]) := by decide +kernel
theorem r217_45 : am_at 217 45 = some (.aload_n 0, 1, [0]) := by decide +kernel
theorem r217_46 : am_at 217 46 = some (.iconst (-1), 1, []) := by decide +kernel
theorem r217_47 : am_at 217 47 = some (.putfield 44, 3, [4, 9, 0, 107]) := by decide +kernel
theorem r217_50 : am_at 217 50 = some (.aload_n 0, 1, [0]) := by decide +kernel
theorem r217_51 : am_at 217 51 = some (.iconst (0), 1, []) := by decide +kernel
theorem r217_52 : am_at 217 52 = some (.putfield 60, 3, [4, 11, 0, 111]) := by decide +kernel
theorem r217_55 : am_at 217 55 = some (.aload_n 0, 1, [0]) := by decide +kernel
theorem r217_56 : am_at 217 56 = some (.dup, 1, []) := by decide +kernel
theorem r217_57 : am_at 217 57 = some (.getfield 63, 3, [4, 12, 0, 114]) := by decide +kernel
theorem r217_60 : am_at 217 60 = some (.iconst (1), 1, []) := by decide +kernel
theorem r217_61 : am_at 217 61 = some (.iadd, 1, []) := by decide +kernel
theorem r217_62 : am_at 217 62 = some (.putfield 63, 3, [4, 12, 0, 114]) := by decide +kernel
theorem r217_65 : am_at 217 65 = some (.return_, 1, []) := by decide +kernel
theorem rt217 : am_rtt 217 = some (none) := by decide +kernel
set_option maxRecDepth 100000 in
theorem pg217 : am_pg[217]? = some am_m217 := rfl
theorem m217_w {d mc ms : Nat} {D : am_D} {v1 : Int32} {Q : am_O → am_AH → Prop} (hd : 2 ≤ d) {r : am_D} (h : m217 D v1 = r) (hQ : Q (.inl none) (am_mk r)) : am_X xs L 217 d mc ms 0 [.ref 1, .int v1] [] (am_mk D) 0 0 Q := by
  unfold m217 at h
  refine x_ld (v := .ref 1) r217_0 rfl rfl rfl ?_
  refine y_gf (cd := 10) (v := .ref 8) r217_1 rfl rfl rfl ?_
  refine x_ld (v := .ref 1) r217_4 rfl rfl rfl ?_
  refine y_gf (cd := 0) (v := .int (D.1 1 10)) r217_5 rfl rfl rfl ?_
  obtain ⟨D1, e2, h⟩ := am_ltE h
  refine x_call0 (as := [.ref 8, .int (D.1 1 10)]) (rest := []) r217_8 rfl rfl rfl (by decide) (Nat.le_of_ble_eq_true rfl) (am_rows_fill (n := 4) rfl (by decide) e2) (Nat.le_trans (by decide) hd) (Nat.zero_le _) (Nat.zero_le _) rfl ?_
  refine x_ld (v := .ref 1) r217_11 rfl rfl rfl ?_
  refine y_gf (cd := 11) (v := .ref 9) r217_12 rfl rfl rfl ?_
  refine x_ic (v := 0) r217_15 rfl rfl ?_
  obtain ⟨D3, e4, h⟩ := am_ltE h
  refine x_call0 (as := [.ref 9, .int (0 : Int32)]) (rest := []) r217_16 rfl rfl rfl (by decide) (Nat.le_of_ble_eq_true rfl) (am_rows_fill (n := 4) rfl (by decide) e4) (Nat.le_trans (by decide) hd) (Nat.zero_le _) (Nat.zero_le _) rfl ?_
  refine x_ld (v := .ref 1) r217_19 rfl rfl rfl ?_
  refine y_gf (cd := 12) (v := .ref 10) r217_20 rfl rfl rfl ?_
  refine x_ic (v := 0) r217_23 rfl rfl ?_
  obtain ⟨D5, e6, h⟩ := am_ltE h
  refine x_call0 (as := [.ref 10, .int (0 : Int32)]) (rest := []) r217_24 rfl rfl rfl (by decide) (Nat.le_of_ble_eq_true rfl) (am_rows_fill (n := 4) rfl (by decide) e6) (Nat.le_trans (by decide) hd) (Nat.zero_le _) (Nat.zero_le _) rfl ?_
  refine x_ld (v := .ref 1) r217_27 rfl rfl rfl ?_
  refine x_ic (v := 1) r217_28 rfl rfl ?_
  obtain ⟨D7, e8, h⟩ := am_ltE h
  refine y_pf0 r217_29 rfl e8 rfl ?_
  refine x_ld (v := .ref 1) r217_32 rfl rfl rfl ?_
  refine x_ld (v := .int v1) r217_33 rfl rfl rfl ?_
  obtain ⟨D9, e10, h⟩ := am_ltE h
  refine y_pf0 r217_34 rfl e10 rfl ?_
  refine x_ld (v := .ref 1) r217_37 rfl rfl rfl ?_
  refine x_ld (v := .int v1) r217_38 rfl rfl rfl ?_
  refine x_call1 (as := [.int v1]) (rest := [.ref 1]) r217_39 rfl rfl rfl (by decide) (Nat.le_of_ble_eq_true rfl) (m185_ok rfl) (Nat.le_trans (by decide) hd) (Nat.zero_le _) (Nat.zero_le _) rfl ?_
  obtain ⟨D11, e12, h⟩ := am_ltE h
  refine y_pf0 r217_42 rfl e12 rfl ?_
  refine x_ld (v := .ref 1) r217_45 rfl rfl rfl ?_
  refine x_ic (v := -1) r217_46 rfl rfl ?_
  obtain ⟨D13, e14, h⟩ := am_ltE h
  refine y_pf0 r217_47 rfl e14 rfl ?_
  refine x_ld (v := .ref 1) r217_50 rfl rfl rfl ?_
  refine x_ic (v := 0) r217_51 rfl rfl ?_
  obtain ⟨D15, e16, h⟩ := am_ltE h
  refine y_pf0 r217_52 rfl e16 rfl ?_
  refine x_ld (v := .ref 1) r217_55 rfl rfl rfl ?_
  refine x_ar r217_56 rfl trivial rfl ?_
  refine y_gf (cd := 0) (v := .int (D15.1 1 12)) r217_57 rfl rfl rfl ?_
  refine x_ic (v := 1) r217_60 rfl rfl ?_
  refine x_ar r217_61 rfl trivial rfl ?_
  obtain ⟨D17, e18, h⟩ := am_ltE h
  refine y_pf0 r217_62 rfl e18 rfl ?_
  subst h
  exact x_ret (ret := none) (C := True) (v := none) r217_65 rt217 rfl rfl rfl rfl rfl rfl rfl rfl trivial hQ
theorem m217_ok {D : am_D} {v1 : Int32} {r : am_D} (h : m217 D v1 = r) : am_Y xs L 217 2 0 0 [.ref 1, .int v1] D (.inl none) r := am_Yof (mi := am_m217) (lc := [.ref 1, .int v1]) pg217 (Nat.le_of_ble_eq_true rfl) (am_rc1 (ci := 4) rfl rfl rfl rfl rfl) rfl (fun Q hQ => m217_w (Nat.le_refl _) h hQ)
theorem r218_0 : am_at 218 0 = some (.aload_n 0, 1, [0]) := by decide +kernel
theorem r218_1 : am_at 218 1 = some (.iconst (5), 1, []) := by decide +kernel
theorem r218_2 : am_at 218 2 = some (.invokevirtual 103, 3, [204, 2, 585, 0]) := by decide +kernel
theorem r218_5 : am_at 218 5 = some (.istore_n 1, 1, [1]) := by decide +kernel
theorem r218_6 : am_at 218 6 = some (.aload_n 0, 1, [0]) := by decide +kernel
theorem r218_7 : am_at 218 7 = some (.getfield 18, 3, [4, 1, 3, 90]) := by decide +kernel
theorem r218_10 : am_at 218 10 = some (.iconst (5), 1, []) := by decide +kernel
theorem r218_11 : am_at 218 11 = some (.invokestatic 127, 3, [183, 2, 586, 0]) := by decide +kernel
theorem r218_14 : am_at 218 14 = some (.aload_n 0, 1, [0]) := by decide +kernel
theorem r218_15 : am_at 218 15 = some (.getfield 25, 3, [4, 3, 3, 93]) := by decide +kernel
theorem r218_18 : am_at 218 18 = some (.iconst (0), 1, []) := by decide +kernel
theorem r218_19 : am_at 218 19 = some (.invokestatic 127, 3, [183, 2, 586, 0]) := by decide +kernel
theorem r218_22 : am_at 218 22 = some (.aload_n 0, 1, [0]) := by decide +kernel
theorem r218_23 : am_at 218 23 = some (.getfield 12, 3, [4, 0, 3, 87]) := by decide +kernel
theorem r218_26 : am_at 218 26 = some (.invokevirtual 136, 3, [153, 1, 589, 0]) := by decide +kernel
theorem r218_29 : am_at 218 29 = some (.aload_n 0, 1, [0]) := by decide +kernel
theorem r218_30 : am_at 218 30 = some (.iconst (0), 1, []) := by decide +kernel
theorem r218_31 : am_at 218 31 = some (.putfield 34, 3, [4, 6, 0, 100]) := by decide +kernel
theorem r218_34 : am_at 218 34 = some (.aload_n 0, 1, [0]) := by decide +kernel
theorem r218_35 : am_at 218 35 = some (.iconst (-1), 1, []) := by decide +kernel
theorem r218_36 : am_at 218 36 = some (.putfield 44, 3, [4, 9, 0, 107]) := by decide +kernel
theorem r218_39 : am_at 218 39 = some (.bipush (28), 2, []) := by decide +kernel
theorem r218_41 : am_at 218 41 = some (.iload_n 1, 1, [1]) := by decide +kernel
theorem r218_42 : am_at 218 42 = some (.isub, 1, []) := by decide +kernel
theorem r218_43 : am_at 218 43 = some (.ireturn, 1, []) := by decide +kernel
theorem rt218 : am_rtt 218 = some (some .int) := by decide +kernel
set_option maxRecDepth 100000 in
theorem pg218 : am_pg[218]? = some am_m218 := rfl
theorem m218_w {d mc ms : Nat} {N : Nat} {D : am_D} {Q : am_O → am_AH → Prop} (hd : 2 ≤ d) {r : Int32 × am_D} (h : m218 N D = some r) (hQ : Q (.inl (some (.int r.1))) (am_mk r.2)) : am_X xs L 218 d mc ms 0 [.ref 1, am_dead] [] (am_mk D) 0 0 Q := by
  unfold m218 at h
  refine x_ld (v := .ref 1) r218_0 rfl rfl rfl ?_
  refine x_ic (v := 5) r218_1 rfl rfl ?_
  obtain ⟨q1, h2, h⟩ := Option.bind_eq_some_iff.mp h
  refine x_call1 (as := [.ref 1, .int (5 : Int32)]) (rest := []) r218_2 rfl rfl rfl (by decide) (Nat.le_of_ble_eq_true rfl) (m204_ok h2) (Nat.le_trans (by decide) hd) (Nat.zero_le _) (Nat.zero_le _) rfl ?_
  refine x_sto (lc' := [.ref 1, .int q1]) r218_5 rfl rfl rfl rfl ?_
  refine x_ld (v := .ref 1) r218_6 rfl rfl rfl ?_
  refine y_gf (cd := 9) (v := .ref 7) r218_7 rfl rfl rfl ?_
  refine x_ic (v := 5) r218_10 rfl rfl ?_
  obtain ⟨D3, e4, h⟩ := am_ltE h
  refine x_call0 (as := [.ref 7, .int (5 : Int32)]) (rest := []) r218_11 rfl rfl rfl (by decide) (Nat.le_of_ble_eq_true rfl) (am_rows_fill (n := 28) rfl (by decide) e4) (Nat.le_trans (by decide) hd) (Nat.zero_le _) (Nat.zero_le _) rfl ?_
  refine x_ld (v := .ref 1) r218_14 rfl rfl rfl ?_
  refine y_gf (cd := 11) (v := .ref 9) r218_15 rfl rfl rfl ?_
  refine x_ic (v := 0) r218_18 rfl rfl ?_
  obtain ⟨D5, e6, h⟩ := am_ltE h
  refine x_call0 (as := [.ref 9, .int (0 : Int32)]) (rest := []) r218_19 rfl rfl rfl (by decide) (Nat.le_of_ble_eq_true rfl) (am_rows_fill (n := 4) rfl (by decide) e6) (Nat.le_trans (by decide) hd) (Nat.zero_le _) (Nat.zero_le _) rfl ?_
  refine x_ld (v := .ref 1) r218_22 rfl rfl rfl ?_
  refine y_gf (cd := 4) (v := .ref 2) r218_23 rfl rfl rfl ?_
  obtain ⟨q7, h8, h⟩ := am_ltE h
  replace h8 := h8.symm
  refine x_call0 (as := [.ref 2]) (rest := []) r218_26 rfl rfl rfl (by decide) (Nat.le_of_ble_eq_true rfl) (m153_ok h8) (Nat.le_trans (by decide) hd) (Nat.zero_le _) (Nat.zero_le _) rfl ?_
  refine x_ld (v := .ref 1) r218_29 rfl rfl rfl ?_
  refine x_ic (v := 0) r218_30 rfl rfl ?_
  obtain ⟨D9, e10, h⟩ := am_ltE h
  refine y_pf0 r218_31 rfl e10 rfl ?_
  refine x_ld (v := .ref 1) r218_34 rfl rfl rfl ?_
  refine x_ic (v := -1) r218_35 rfl rfl ?_
  obtain ⟨D11, e12, h⟩ := am_ltE h
  refine y_pf0 r218_36 rfl e12 rfl ?_
  refine x_bi (v := 28) r218_39 rfl rfl ?_
  refine x_ld (v := .int q1) r218_41 rfl rfl rfl ?_
  refine x_ar r218_42 rfl trivial rfl ?_
  cases h
  exact x_ret (ret := some .int) (C := True) (v := some (.int _)) r218_43 rt218 rfl rfl rfl rfl rfl rfl rfl rfl trivial hQ
theorem m218_ok {N : Nat} {D : am_D} {r : Int32 × am_D} (h : m218 N D = some r) : am_Y xs L 218 2 0 0 [.ref 1] D (.inl (some (.int r.1))) r.2 := am_Yof (mi := am_m218) (lc := [.ref 1, am_dead]) pg218 (Nat.le_of_ble_eq_true rfl) (am_rc1 (ci := 4) rfl rfl rfl rfl rfl) rfl (fun Q hQ => m218_w (Nat.le_refl _) h hQ)
theorem r219_0 : am_at 219 0 = some (.aload_n 0, 1, [0]) := by decide +kernel
theorem r219_1 : am_at 219 1 = some (.getfield 34, 3, [4, 6, 0, 100]) := by decide +kernel
theorem r219_4 : am_at 219 4 = some (.iconst (1), 1, []) := by decide +kernel
theorem r219_5 : am_at 219 5 = some (.if_icmp .ne (29), 3, [34]) := by decide +kernel
theorem r219_8 : am_at 219 8 = some (.aload_n 0, 1, [0]) := by decide +kernel
theorem r219_9 : am_at 219 9 = some (.getfield 41, 3, [4, 8, 0, 105]) := by decide +kernel
theorem r219_12 : am_at 219 12 = some (.aload_n 0, 1, [0]) := by decide +kernel
theorem r219_13 : am_at 219 13 = some (.getfield 38, 3, [4, 7, 0, 102]) := by decide +kernel
theorem r219_16 : am_at 219 16 = some (.if_icmp .eq (18), 3, [34]) := by decide +kernel
theorem r219_19 : am_at 219 19 = some (.aload_n 0, 1, [0]) := by decide +kernel
theorem r219_20 : am_at 219 20 = some (.getfield 41, 3, [4, 8, 0, 105]) := by decide +kernel
theorem r219_23 : am_at 219 23 = some (.aload_n 0, 1, [0]) := by decide +kernel
theorem r219_24 : am_at 219 24 = some (.getfield 44, 3, [4, 9, 0, 107]) := by decide +kernel
theorem r219_27 : am_at 219 27 = some (.if_icmp .eq (7), 3, [34]) := by decide +kernel
theorem r219_30 : am_at 219 30 = some (.iconst (1), 1, []) := by decide +kernel
theorem r219_31 : am_at 219 31 = some (.goto (4), 3, [35]) := by decide +kernel
theorem r219_34 : am_at 219 34 = some (.iconst (0), 1, []) := by decide +kernel
theorem r219_35 : am_at 219 35 = some (.ireturn, 1, []) := by decide +kernel
theorem rt219 : am_rtt 219 = some (some .boolean) := by decide +kernel
set_option maxRecDepth 100000 in
theorem pg219 : am_pg[219]? = some am_m219 := rfl
theorem m219_w {d mc ms : Nat} {D : am_D} {Q : am_O → am_AH → Prop} (hd : 1 ≤ d) {r : Int32} (h : m219 D = r) (hQ : Q (.inl (some (.int r))) (am_mk D)) : am_X xs L 219 d mc ms 0 [.ref 1] [] (am_mk D) 0 0 Q := by
  unfold m219 at h
  refine x_ld (v := .ref 1) r219_0 rfl rfl rfl ?_
  refine y_gf (cd := 0) (v := .int (D.1 1 6)) r219_1 rfl rfl rfl ?_
  refine x_ic (v := 1) r219_4 rfl rfl ?_
  rcases am_ifE h with ⟨c1, h⟩ | ⟨c1, h⟩
  · refine x_icneT r219_5 c1 rfl ?_
    refine x_ld (v := .ref 1) r219_8 rfl rfl rfl ?_
    refine y_gf (cd := 0) (v := .int (D.1 1 8)) r219_9 rfl rfl rfl ?_
    refine x_ld (v := .ref 1) r219_12 rfl rfl rfl ?_
    refine y_gf (cd := 0) (v := .int (D.1 1 7)) r219_13 rfl rfl rfl ?_
    rcases am_ifE h with ⟨c2, h⟩ | ⟨c2, h⟩
    · refine x_iceqT r219_16 c2 ?_
      refine x_ic (v := 0) r219_34 rfl rfl ?_
      subst h
      exact x_ret (ret := some .boolean) (C := narrow .boolean (.int (0 : Int32)) = .int (0 : Int32)) (v := some (.int (0 : Int32))) r219_35 rt219 rfl rfl rfl rfl rfl rfl rfl rfl (by decide) hQ
    · refine x_iceqF r219_16 c2 rfl ?_
      refine x_ld (v := .ref 1) r219_19 rfl rfl rfl ?_
      refine y_gf (cd := 0) (v := .int (D.1 1 8)) r219_20 rfl rfl rfl ?_
      refine x_ld (v := .ref 1) r219_23 rfl rfl rfl ?_
      refine y_gf (cd := 0) (v := .int (D.1 1 9)) r219_24 rfl rfl rfl ?_
      rcases am_ifE h with ⟨c3, h⟩ | ⟨c3, h⟩
      · refine x_iceqT r219_27 c3 ?_
        refine x_ic (v := 0) r219_34 rfl rfl ?_
        subst h
        exact x_ret (ret := some .boolean) (C := narrow .boolean (.int (0 : Int32)) = .int (0 : Int32)) (v := some (.int (0 : Int32))) r219_35 rt219 rfl rfl rfl rfl rfl rfl rfl rfl (by decide) hQ
      · refine x_iceqF r219_27 c3 rfl ?_
        refine x_ic (v := 1) r219_30 rfl rfl ?_
        refine x_goto r219_31 ?_
        subst h
        exact x_ret (ret := some .boolean) (C := narrow .boolean (.int (1 : Int32)) = .int (1 : Int32)) (v := some (.int (1 : Int32))) r219_35 rt219 rfl rfl rfl rfl rfl rfl rfl rfl (by decide) hQ
  · refine x_icneF r219_5 c1 ?_
    refine x_ic (v := 0) r219_34 rfl rfl ?_
    subst h
    exact x_ret (ret := some .boolean) (C := narrow .boolean (.int (0 : Int32)) = .int (0 : Int32)) (v := some (.int (0 : Int32))) r219_35 rt219 rfl rfl rfl rfl rfl rfl rfl rfl (by decide) hQ
theorem m219_ok {D : am_D} {r : Int32} (h : m219 D = r) : am_Y xs L 219 1 0 0 [.ref 1] D (.inl (some (.int r))) D := am_Yof (mi := am_m219) (lc := [.ref 1]) pg219 (Nat.le_of_ble_eq_true rfl) (am_rc1 (ci := 4) rfl rfl rfl rfl rfl) rfl (fun Q hQ => m219_w (Nat.le_refl _) h hQ)
theorem m219_b (D : am_D) : m219 D &&& 1 = m219 D := by
  unfold m219
  (repeat' split) <;> rfl
theorem r225_0 : am_at 225 0 = some (.iload_n 0, 1, [0]) := by decide +kernel
theorem r225_1 : am_at 225 1 = some (.ifCond .lt (15), 3, [16]) := by decide +kernel
theorem r225_4 : am_at 225 4 = some (.iload_n 0, 1, [0]) := by decide +kernel
theorem r225_5 : am_at 225 5 = some (.bipush (7), 2, []) := by decide +kernel
theorem r225_7 : am_at 225 7 = some (.if_icmp .ge (9), 3, [16]) := by decide +kernel
theorem r225_10 : am_at 225 10 = some (.iconst (1), 1, []) := by decide +kernel
theorem r225_11 : am_at 225 11 = some (.iload_n 0, 1, [0]) := by decide +kernel
theorem r225_12 : am_at 225 12 = some (.ishl, 1, []) := by decide +kernel
theorem r225_13 : am_at 225 13 = some (.goto (4), 3, [17]) := by decide +kernel
theorem r225_16 : am_at 225 16 = some (.iconst (0), 1, []) := by decide +kernel
theorem r225_17 : am_at 225 17 = some (.ireturn, 1, []) := by decide +kernel
theorem rt225 : am_rtt 225 = some (some .int) := by decide +kernel
set_option maxRecDepth 100000 in
theorem pg225 : am_pg[225]? = some am_m225 := rfl
theorem m225_w {d mc ms : Nat} {D : am_D} {v0 : Int32} {Q : am_O → am_AH → Prop} (hd : 1 ≤ d) {r : Int32} (h : m225 v0 = r) (hQ : Q (.inl (some (.int r))) (am_mk D)) : am_X xs L 225 d mc ms 0 [.int v0] [] (am_mk D) 0 0 Q := by
  unfold m225 at h
  refine x_ld (v := .int v0) r225_0 rfl rfl rfl ?_
  rcases am_ifE h with ⟨c1, h⟩ | ⟨c1, h⟩
  · refine x_ifltT r225_1 c1 ?_
    refine x_ic (v := 0) r225_16 rfl rfl ?_
    subst h
    exact x_ret (ret := some .int) (C := True) (v := some (.int _)) r225_17 rt225 rfl rfl rfl rfl rfl rfl rfl rfl trivial hQ
  · refine x_ifltF r225_1 c1 rfl ?_
    refine x_ld (v := .int v0) r225_4 rfl rfl rfl ?_
    refine x_bi (v := 7) r225_5 rfl rfl ?_
    rcases am_ifE h with ⟨c2, h⟩ | ⟨c2, h⟩
    · refine x_icgeT r225_7 c2 ?_
      refine x_ic (v := 0) r225_16 rfl rfl ?_
      subst h
      exact x_ret (ret := some .int) (C := True) (v := some (.int _)) r225_17 rt225 rfl rfl rfl rfl rfl rfl rfl rfl trivial hQ
    · refine x_icgeF r225_7 c2 rfl ?_
      refine x_ic (v := 1) r225_10 rfl rfl ?_
      refine x_ld (v := .int v0) r225_11 rfl rfl rfl ?_
      refine x_ar r225_12 rfl trivial rfl ?_
      refine x_goto r225_13 ?_
      subst h
      exact x_ret (ret := some .int) (C := True) (v := some (.int _)) r225_17 rt225 rfl rfl rfl rfl rfl rfl rfl rfl trivial hQ
theorem m225_ok {D : am_D} {v0 : Int32} {r : Int32} (h : m225 v0 = r) : am_Y xs L 225 1 0 0 [.int v0] D (.inl (some (.int r))) D := am_Yof (mi := am_m225) (lc := [.int v0]) pg225 (Nat.le_of_ble_eq_true rfl) (am_rc0 rfl) rfl (fun Q hQ => m225_w (Nat.le_refl _) h hQ)
theorem r227_0 : am_at 227 0 = some (.aload_n 0, 1, [0]) := by decide +kernel
theorem r227_1 : am_at 227 1 = some (.iconst (2), 1, []) := by decide +kernel
theorem r227_2 : am_at 227 2 = some (.putfield 34, 3, [4, 6, 0, 100]) := by decide +kernel
theorem r227_5 : am_at 227 5 = some (.aload_n 0, 1, [0]) := by decide +kernel
theorem r227_6 : am_at 227 6 = some (.iconst (-1), 1, []) := by decide +kernel
theorem r227_7 : am_at 227 7 = some (.putfield 38, 3, [4, 7, 0, 102]) := by decide +kernel
theorem r227_10 : am_at 227 10 = some (.return_, 1, []) := by decide +kernel
theorem rt227 : am_rtt 227 = some (none) := by decide +kernel
set_option maxRecDepth 100000 in
theorem pg227 : am_pg[227]? = some am_m227 := rfl
theorem m227_w {d mc ms : Nat} {D : am_D} {Q : am_O → am_AH → Prop} (hd : 1 ≤ d) {r : am_D} (h : m227 D = r) (hQ : Q (.inl none) (am_mk r)) : am_X xs L 227 d mc ms 0 [.ref 1] [] (am_mk D) 0 0 Q := by
  unfold m227 at h
  refine x_ld (v := .ref 1) r227_0 rfl rfl rfl ?_
  refine x_ic (v := 2) r227_1 rfl rfl ?_
  obtain ⟨D1, e2, h⟩ := am_ltE h
  refine y_pf0 r227_2 rfl e2 rfl ?_
  refine x_ld (v := .ref 1) r227_5 rfl rfl rfl ?_
  refine x_ic (v := -1) r227_6 rfl rfl ?_
  obtain ⟨D3, e4, h⟩ := am_ltE h
  refine y_pf0 r227_7 rfl e4 rfl ?_
  subst h
  exact x_ret (ret := none) (C := True) (v := none) r227_10 rt227 rfl rfl rfl rfl rfl rfl rfl rfl trivial hQ
theorem m227_ok {D : am_D} {r : am_D} (h : m227 D = r) : am_Y xs L 227 1 0 0 [.ref 1] D (.inl none) r := am_Yof (mi := am_m227) (lc := [.ref 1]) pg227 (Nat.le_of_ble_eq_true rfl) (am_rc1 (ci := 4) rfl rfl rfl rfl rfl) rfl (fun Q hQ => m227_w (Nat.le_refl _) h hQ)
theorem r228_0 : am_at 228 0 = some (.aload_n 0, 1, [0]) := by decide +kernel
theorem r228_1 : am_at 228 1 = some (.iload_n 1, 1, [1]) := by decide +kernel
theorem r228_2 : am_at 228 2 = some (.iconst (1), 1, []) := by decide +kernel
theorem r228_3 : am_at 228 3 = some (.if_icmp .ne (13), 3, [16]) := by decide +kernel
theorem r228_6 : am_at 228 6 = some (.aload_n 0, 1, [0]) := by decide +kernel
theorem r228_7 : am_at 228 7 = some (.getfield 41, 3, [4, 8, 0, 105]) := by decide +kernel
theorem r228_10 : am_at 228 10 = some (.invokestatic 131, 3, [185, 1, 610, 0]) := by decide +kernel
theorem r228_13 : am_at 228 13 = some (.goto (10), 3, [23]) := by decide +kernel
theorem r228_16 : am_at 228 16 = some (.aload_n 0, 1, [0]) := by decide +kernel
theorem r228_17 : am_at 228 17 = some (.getfield 41, 3, [4, 8, 0, 105]) := by decide +kernel
theorem r228_20 : am_at 228 20 = some (.invokestatic 183, 3, [186, 1, 721, 0]) := by decide +kernel
theorem r228_23 : am_at 228 23 = some (.putfield 41, 3, [4, 8, 0, 105]) := by decide +kernel
theorem r228_26 : am_at 228 26 = some (.aload_n 0, 1, [0]) := by decide +kernel
theorem r228_27 : am_at 228 27 = some (.dup, 1, []) := by decide +kernel
theorem r228_28 : am_at 228 28 = some (.getfield 72, 3, [4, 15, 0, 120]) := by decide +kernel
theorem r228_31 : am_at 228 31 = some (.iconst (1), 1, []) := by decide +kernel
theorem r228_32 : am_at 228 32 = some (.iadd, 1, []) := by decide +kernel
theorem r228_33 : am_at 228 33 = some (.putfield 72, 3, [4, 15, 0, 120]) := by decide +kernel
theorem r228_36 : am_at 228 36 = some (.aload_n 0, 1, [0]) := by decide +kernel
theorem r228_37 : am_at 228 37 = some (.getfield 41, 3, [4, 8, 0, 105]) := by decide +kernel
theorem r228_40 : am_at 228 40 = some (.ireturn, 1, []) := by decide +kernel
theorem rt228 : am_rtt 228 = some (some .int) := by decide +kernel
set_option maxRecDepth 100000 in
theorem pg228 : am_pg[228]? = some am_m228 := rfl
theorem m228_w {d mc ms : Nat} {D : am_D} {v1 : Int32} {Q : am_O → am_AH → Prop} (hd : 2 ≤ d) {r : Int32 × am_D} (h : m228 D v1 = r) (hQ : Q (.inl (some (.int r.1))) (am_mk r.2)) : am_X xs L 228 d mc ms 0 [.ref 1, .int v1] [] (am_mk D) 0 0 Q := by
  unfold m228 at h
  refine x_ld (v := .ref 1) r228_0 rfl rfl rfl ?_
  refine x_ld (v := .int v1) r228_1 rfl rfl rfl ?_
  refine x_ic (v := 1) r228_2 rfl rfl ?_
  obtain ⟨q1, h3, h⟩ := am_ltE h
  replace h3 := h3.symm
  have kj2 : am_X xs L 228 d mc ms 23 [.ref 1, .int v1] [.int q1, .ref 1] (am_mk D) 0 0 Q := by
    obtain ⟨D5, e6, h⟩ := am_ltE h
    refine y_pf0 r228_23 rfl e6 rfl ?_
    refine x_ld (v := .ref 1) r228_26 rfl rfl rfl ?_
    refine x_ar r228_27 rfl trivial rfl ?_
    refine y_gf (cd := 0) (v := .int (D5.1 1 15)) r228_28 rfl rfl rfl ?_
    refine x_ic (v := 1) r228_31 rfl rfl ?_
    refine x_ar r228_32 rfl trivial rfl ?_
    obtain ⟨D7, e8, h⟩ := am_ltE h
    refine y_pf0 r228_33 rfl e8 rfl ?_
    refine x_ld (v := .ref 1) r228_36 rfl rfl rfl ?_
    refine y_gf (cd := 0) (v := .int (D7.1 1 8)) r228_37 rfl rfl rfl ?_
    subst h
    exact x_ret (ret := some .int) (C := True) (v := some (.int _)) r228_40 rt228 rfl rfl rfl rfl rfl rfl rfl rfl trivial hQ
  rcases am_ifE h3 with ⟨c4, h3⟩ | ⟨c4, h3⟩
  · refine x_icneT r228_3 c4 rfl ?_
    refine x_ld (v := .ref 1) r228_6 rfl rfl rfl ?_
    refine y_gf (cd := 0) (v := .int (D.1 1 8)) r228_7 rfl rfl rfl ?_
    refine x_call1 (as := [.int (D.1 1 8)]) (rest := [.ref 1]) r228_10 rfl rfl rfl (by decide) (Nat.le_of_ble_eq_true rfl) (m185_ok rfl) (Nat.le_trans (by decide) hd) (Nat.zero_le _) (Nat.zero_le _) rfl ?_
    refine x_goto r228_13 ?_
    subst h3
    exact kj2
  · refine x_icneF r228_3 c4 ?_
    refine x_ld (v := .ref 1) r228_16 rfl rfl rfl ?_
    refine y_gf (cd := 0) (v := .int (D.1 1 8)) r228_17 rfl rfl rfl ?_
    refine x_call1 (as := [.int (D.1 1 8)]) (rest := [.ref 1]) r228_20 rfl rfl rfl (by decide) (Nat.le_of_ble_eq_true rfl) (m186_ok rfl) (Nat.le_trans (by decide) hd) (Nat.zero_le _) (Nat.zero_le _) rfl ?_
    subst h3
    exact kj2
theorem m228_ok {D : am_D} {v1 : Int32} {r : Int32 × am_D} (h : m228 D v1 = r) : am_Y xs L 228 2 0 0 [.ref 1, .int v1] D (.inl (some (.int r.1))) r.2 := am_Yof (mi := am_m228) (lc := [.ref 1, .int v1]) pg228 (Nat.le_of_ble_eq_true rfl) (am_rc1 (ci := 4) rfl rfl rfl rfl rfl) rfl (fun Q hQ => m228_w (Nat.le_refl _) h hQ)
theorem r229_0 : am_at 229 0 = some (.iconst (0), 1, []) := by decide +kernel
theorem r229_1 : am_at 229 1 = some (.aload_n 0, 1, [0]) := by decide +kernel
theorem r229_2 : am_at 229 2 = some (.getfield 22, 3, [4, 2, 3, 91]) := by decide +kernel
theorem r229_5 : am_at 229 5 = some (.aload_n 0, 1, [0]) := by decide +kernel
theorem r229_6 : am_at 229 6 = some (.getfield 38, 3, [4, 7, 0, 102]) := by decide +kernel
theorem r229_9 : am_at 229 9 = some (.invokestatic 75, 3, [180, 2, 488, 0]) := by decide +kernel
theorem r229_12 : am_at 229 12 = some (.iload_n 1, 1, [1]) := by decide +kernel
theorem r229_13 : am_at 229 13 = some (.isub, 1, []) := by decide +kernel
theorem r229_14 : am_at 229 14 = some (.invokestatic 186, 3, [1000, 0, 706]) := by decide +kernel
theorem r229_17 : am_at 229 17 = some (.istore_n 2, 1, [2]) := by decide +kernel
theorem r229_18 : am_at 229 18 = some (.aload_n 0, 1, [0]) := by decide +kernel
theorem r229_19 : am_at 229 19 = some (.getfield 22, 3, [4, 2, 3, 91]) := by decide +kernel
theorem r229_22 : am_at 229 22 = some (.aload_n 0, 1, [0]) := by decide +kernel
theorem r229_23 : am_at 229 23 = some (.getfield 38, 3, [4, 7, 0, 102]) := by decide +kernel
theorem r229_26 : am_at 229 26 = some (.iload_n 2, 1, [2]) := by decide +kernel
theorem r229_27 : am_at 229 27 = some (.invokestatic 112, 3, [181, 3, 628, 0]) := by decide +kernel
theorem r229_30 : am_at 229 30 = some (.iload_n 2, 1, [2]) := by decide +kernel
theorem r229_31 : am_at 229 31 = some (.ireturn, 1, []) := by decide +kernel
theorem rt229 : am_rtt 229 = some (some .int) := by decide +kernel
set_option maxRecDepth 100000 in
theorem pg229 : am_pg[229]? = some am_m229 := rfl
theorem m229_w {d mc ms : Nat} {D : am_D} {v1 : Int32} {Q : am_O → am_AH → Prop} (hd : 2 ≤ d) {r : Int32 × am_D} (h : m229 D v1 = r) (hQ : Q (.inl (some (.int r.1))) (am_mk r.2)) : am_X xs L 229 d mc ms 0 [.ref 1, .int v1, am_dead] [] (am_mk D) 0 0 Q := by
  unfold m229 at h
  refine x_ic (v := 0) r229_0 rfl rfl ?_
  refine x_ld (v := .ref 1) r229_1 rfl rfl rfl ?_
  refine y_gf (cd := 10) (v := .ref 8) r229_2 rfl rfl rfl ?_
  refine x_ld (v := .ref 1) r229_5 rfl rfl rfl ?_
  refine y_gf (cd := 0) (v := .int (D.1 1 7)) r229_6 rfl rfl rfl ?_
  refine x_call1 (as := [.ref 8, .int (D.1 1 7)]) (rest := [.int (0 : Int32)]) r229_9 rfl rfl rfl (by decide) (Nat.le_of_ble_eq_true rfl) (am_rows_at (n := 4) rfl (by decide)) (Nat.le_trans (by decide) hd) (Nat.zero_le _) (Nat.zero_le _) rfl ?_
  refine x_ld (v := .int v1) r229_12 rfl rfl rfl ?_
  refine x_ar r229_13 rfl trivial rfl ?_
  refine x_sp r229_14 rfl rfl rfl rfl rfl rfl trivial rfl ?_
  obtain ⟨x1, e2, h⟩ := am_ltE h
  refine am_topI e2 ?_
  refine x_sto (lc' := [.ref 1, .int v1, .int x1]) r229_17 rfl rfl rfl rfl ?_
  refine x_ld (v := .ref 1) r229_18 rfl rfl rfl ?_
  refine y_gf (cd := 10) (v := .ref 8) r229_19 rfl rfl rfl ?_
  refine x_ld (v := .ref 1) r229_22 rfl rfl rfl ?_
  refine y_gf (cd := 0) (v := .int (D.1 1 7)) r229_23 rfl rfl rfl ?_
  refine x_ld (v := .int x1) r229_26 rfl rfl rfl ?_
  obtain ⟨D3, e4, h⟩ := am_ltE h
  refine x_call0 (as := [.ref 8, .int (D.1 1 7), .int x1]) (rest := []) r229_27 rfl rfl rfl (by decide) (Nat.le_of_ble_eq_true rfl) (am_rows_put (n := 4) rfl (by decide) e4) (Nat.le_trans (by decide) hd) (Nat.zero_le _) (Nat.zero_le _) rfl ?_
  refine x_ld (v := .int x1) r229_30 rfl rfl rfl ?_
  subst h
  exact x_ret (ret := some .int) (C := True) (v := some (.int _)) r229_31 rt229 rfl rfl rfl rfl rfl rfl rfl rfl trivial hQ
theorem m229_ok {D : am_D} {v1 : Int32} {r : Int32 × am_D} (h : m229 D v1 = r) : am_Y xs L 229 2 0 0 [.ref 1, .int v1] D (.inl (some (.int r.1))) r.2 := am_Yof (mi := am_m229) (lc := [.ref 1, .int v1, am_dead]) pg229 (Nat.le_of_ble_eq_true rfl) (am_rc1 (ci := 4) rfl rfl rfl rfl rfl) rfl (fun Q hQ => m229_w (Nat.le_refl _) h hQ)
theorem r249_0 : am_at 249 0 = some (.iload_n 0, 1, [0]) := by decide +kernel
theorem r249_1 : am_at 249 1 = some (.ifCond .lt (19), 3, [20]) := by decide +kernel
theorem r249_4 : am_at 249 4 = some (.iload_n 0, 1, [0]) := by decide +kernel
theorem r249_5 : am_at 249 5 = some (.getstatic 9, 3, [1000000, 411]) := by decide +kernel
theorem r249_8 : am_at 249 8 = some (.arraylength, 1, []) := by decide +kernel
theorem r249_9 : am_at 249 9 = some (.if_icmp .ge (11), 3, [20]) := by decide +kernel
theorem r249_12 : am_at 249 12 = some (.getstatic 9, 3, [1000000, 411]) := by decide +kernel
theorem r249_15 : am_at 249 15 = some (.iload_n 0, 1, [0]) := by decide +kernel
theorem r249_16 : am_at 249 16 = some (.iaload, 1, []) := by decide +kernel
theorem r249_17 : am_at 249 17 = some (.goto (4), 3, [21]) := by decide +kernel
theorem r249_20 : am_at 249 20 = some (.iconst (0), 1, []) := by decide +kernel
theorem r249_21 : am_at 249 21 = some (.ireturn, 1, []) := by decide +kernel
theorem rt249 : am_rtt 249 = some (some .int) := by decide +kernel
set_option maxRecDepth 100000 in
theorem pg249 : am_pg[249]? = some am_m249 := rfl
theorem m249_w {d mc ms : Nat} {D : am_D} {v0 : Int32} {Q : am_O → am_AH → Prop} (hd : 1 ≤ d) {r : Int32} (h : m249 v0 = r) (hQ : Q (.inl (some (.int r))) (am_mk D)) : am_X xs L 249 d mc ms 0 [.int v0] [] (am_mk D) 0 0 Q := by
  unfold m249 at h
  refine x_ld (v := .int v0) r249_0 rfl rfl rfl ?_
  rcases am_ifE h with ⟨c1, h⟩ | ⟨c1, h⟩
  · refine x_ifltT r249_1 c1 ?_
    refine x_ic (v := 0) r249_20 rfl rfl ?_
    subst h
    exact x_ret (ret := some .int) (C := True) (v := some (.int _)) r249_21 rt249 rfl rfl rfl rfl rfl rfl rfl rfl trivial hQ
  · refine x_ifltF r249_1 c1 rfl ?_
    refine x_ld (v := .int v0) r249_4 rfl rfl rfl ?_
    refine y_gs r249_5 (by decide) rfl ?_
    refine y_alenS r249_8 (by decide) rfl ?_
    rcases am_ifE h with ⟨c2, h⟩ | ⟨c2, h⟩
    · refine x_icgeT r249_9 c2 ?_
      refine x_ic (v := 0) r249_20 rfl rfl ?_
      subst h
      exact x_ret (ret := some .int) (C := True) (v := some (.int _)) r249_21 rt249 rfl rfl rfl rfl rfl rfl rfl rfl trivial hQ
    · refine x_icgeF r249_9 c2 rfl ?_
      refine y_gs r249_12 (by decide) rfl ?_
      refine x_ld (v := .int v0) r249_15 rfl rfl rfl ?_
      refine y_ialL r249_16 ⟨(Int32.not_lt.mp c1), (Int32.not_le.mp c2)⟩ rfl rfl ?_
      refine x_goto r249_17 ?_
      subst h
      exact x_ret (ret := some .int) (C := True) (v := some (.int _)) r249_21 rt249 rfl rfl rfl rfl rfl rfl rfl rfl trivial hQ
theorem m249_ok {D : am_D} {v0 : Int32} {r : Int32} (h : m249 v0 = r) : am_Y xs L 249 1 0 0 [.int v0] D (.inl (some (.int r))) D := am_Yof (mi := am_m249) (lc := [.int v0]) pg249 (Nat.le_of_ble_eq_true rfl) (am_rc0 rfl) rfl (fun Q hQ => m249_w (Nat.le_refl _) h hQ)
theorem r250_0 : am_at 250 0 = some (.iload_n 0, 1, [0]) := by decide +kernel
theorem r250_1 : am_at 250 1 = some (.ifCond .lt (19), 3, [20]) := by decide +kernel
theorem r250_4 : am_at 250 4 = some (.iload_n 0, 1, [0]) := by decide +kernel
theorem r250_5 : am_at 250 5 = some (.getstatic 15, 3, [1000001, 416]) := by decide +kernel
theorem r250_8 : am_at 250 8 = some (.arraylength, 1, []) := by decide +kernel
theorem r250_9 : am_at 250 9 = some (.if_icmp .ge (11), 3, [20]) := by decide +kernel
theorem r250_12 : am_at 250 12 = some (.getstatic 15, 3, [1000001, 416]) := by decide +kernel
theorem r250_15 : am_at 250 15 = some (.iload_n 0, 1, [0]) := by decide +kernel
theorem r250_16 : am_at 250 16 = some (.iaload, 1, []) := by decide +kernel
theorem r250_17 : am_at 250 17 = some (.goto (4), 3, [21]) := by decide +kernel
theorem r250_20 : am_at 250 20 = some (.iconst (0), 1, []) := by decide +kernel
theorem r250_21 : am_at 250 21 = some (.ireturn, 1, []) := by decide +kernel
theorem rt250 : am_rtt 250 = some (some .int) := by decide +kernel
set_option maxRecDepth 100000 in
theorem pg250 : am_pg[250]? = some am_m250 := rfl
theorem m250_w {d mc ms : Nat} {D : am_D} {v0 : Int32} {Q : am_O → am_AH → Prop} (hd : 1 ≤ d) {r : Int32} (h : m250 v0 = r) (hQ : Q (.inl (some (.int r))) (am_mk D)) : am_X xs L 250 d mc ms 0 [.int v0] [] (am_mk D) 0 0 Q := by
  unfold m250 at h
  refine x_ld (v := .int v0) r250_0 rfl rfl rfl ?_
  rcases am_ifE h with ⟨c1, h⟩ | ⟨c1, h⟩
  · refine x_ifltT r250_1 c1 ?_
    refine x_ic (v := 0) r250_20 rfl rfl ?_
    subst h
    exact x_ret (ret := some .int) (C := True) (v := some (.int _)) r250_21 rt250 rfl rfl rfl rfl rfl rfl rfl rfl trivial hQ
  · refine x_ifltF r250_1 c1 rfl ?_
    refine x_ld (v := .int v0) r250_4 rfl rfl rfl ?_
    refine y_gs r250_5 (by decide) rfl ?_
    refine y_alenS r250_8 (by decide) rfl ?_
    rcases am_ifE h with ⟨c2, h⟩ | ⟨c2, h⟩
    · refine x_icgeT r250_9 c2 ?_
      refine x_ic (v := 0) r250_20 rfl rfl ?_
      subst h
      exact x_ret (ret := some .int) (C := True) (v := some (.int _)) r250_21 rt250 rfl rfl rfl rfl rfl rfl rfl rfl trivial hQ
    · refine x_icgeF r250_9 c2 rfl ?_
      refine y_gs r250_12 (by decide) rfl ?_
      refine x_ld (v := .int v0) r250_15 rfl rfl rfl ?_
      refine y_ialH r250_16 ⟨(Int32.not_lt.mp c1), (Int32.not_le.mp c2)⟩ rfl rfl ?_
      refine x_goto r250_17 ?_
      subst h
      exact x_ret (ret := some .int) (C := True) (v := some (.int _)) r250_21 rt250 rfl rfl rfl rfl rfl rfl rfl rfl trivial hQ
theorem m250_ok {D : am_D} {v0 : Int32} {r : Int32} (h : m250 v0 = r) : am_Y xs L 250 1 0 0 [.int v0] D (.inl (some (.int r))) D := am_Yof (mi := am_m250) (lc := [.int v0]) pg250 (Nat.le_of_ble_eq_true rfl) (am_rc0 rfl) rfl (fun Q hQ => m250_w (Nat.le_refl _) h hQ)
theorem r251_0 : am_at 251 0 = some (.iload_n 0, 1, [0]) := by decide +kernel
theorem r251_1 : am_at 251 1 = some (.ifCond .lt (33), 3, [34]) := by decide +kernel
theorem r251_4 : am_at 251 4 = some (.iload_n 0, 1, [0]) := by decide +kernel
theorem r251_5 : am_at 251 5 = some (.getstatic 9, 3, [1000000, 411]) := by decide +kernel
theorem r251_8 : am_at 251 8 = some (.arraylength, 1, []) := by decide +kernel
theorem r251_9 : am_at 251 9 = some (.if_icmp .ge (25), 3, [34]) := by decide +kernel
theorem r251_12 : am_at 251 12 = some (.iload_n 0, 1, [0]) := by decide +kernel
theorem r251_13 : am_at 251 13 = some (.getstatic 15, 3, [1000001, 416]) := by decide +kernel
theorem r251_16 : am_at 251 16 = some (.arraylength, 1, []) := by decide +kernel
theorem r251_17 : am_at 251 17 = some (.if_icmp .ge (17), 3, [34]) := by decide +kernel
theorem r251_20 : am_at 251 20 = some (.getstatic 9, 3, [1000000, 411]) := by decide +kernel
theorem r251_23 : am_at 251 23 = some (.iload_n 0, 1, [0]) := by decide +kernel
theorem r251_24 : am_at 251 24 = some (.iaload, 1, []) := by decide +kernel
theorem r251_25 : am_at 251 25 = some (.getstatic 15, 3, [1000001, 416]) := by decide +kernel
theorem r251_28 : am_at 251 28 = some (.iload_n 0, 1, [0]) := by decide +kernel
theorem r251_29 : am_at 251 29 = some (.iaload, 1, []) := by decide +kernel
theorem r251_30 : am_at 251 30 = some (.iadd, 1, []) := by decide +kernel
theorem r251_31 : am_at 251 31 = some (.goto (4), 3, [35]) := by decide +kernel
theorem r251_34 : am_at 251 34 = some (.iconst (0), 1, []) := by decide +kernel
theorem r251_35 : am_at 251 35 = some (.ireturn, 1, []) := by decide +kernel
theorem rt251 : am_rtt 251 = some (some .int) := by decide +kernel
set_option maxRecDepth 100000 in
theorem pg251 : am_pg[251]? = some am_m251 := rfl
theorem m251_w {d mc ms : Nat} {D : am_D} {v0 : Int32} {Q : am_O → am_AH → Prop} (hd : 1 ≤ d) {r : Int32} (h : m251 v0 = r) (hQ : Q (.inl (some (.int r))) (am_mk D)) : am_X xs L 251 d mc ms 0 [.int v0] [] (am_mk D) 0 0 Q := by
  unfold m251 at h
  refine x_ld (v := .int v0) r251_0 rfl rfl rfl ?_
  rcases am_ifE h with ⟨c1, h⟩ | ⟨c1, h⟩
  · refine x_ifltT r251_1 c1 ?_
    refine x_ic (v := 0) r251_34 rfl rfl ?_
    subst h
    exact x_ret (ret := some .int) (C := True) (v := some (.int _)) r251_35 rt251 rfl rfl rfl rfl rfl rfl rfl rfl trivial hQ
  · refine x_ifltF r251_1 c1 rfl ?_
    refine x_ld (v := .int v0) r251_4 rfl rfl rfl ?_
    refine y_gs r251_5 (by decide) rfl ?_
    refine y_alenS r251_8 (by decide) rfl ?_
    rcases am_ifE h with ⟨c2, h⟩ | ⟨c2, h⟩
    · refine x_icgeT r251_9 c2 ?_
      refine x_ic (v := 0) r251_34 rfl rfl ?_
      subst h
      exact x_ret (ret := some .int) (C := True) (v := some (.int _)) r251_35 rt251 rfl rfl rfl rfl rfl rfl rfl rfl trivial hQ
    · refine x_icgeF r251_9 c2 rfl ?_
      refine x_ld (v := .int v0) r251_12 rfl rfl rfl ?_
      refine y_gs r251_13 (by decide) rfl ?_
      refine y_alenS r251_16 (by decide) rfl ?_
      rcases am_ifE h with ⟨c3, h⟩ | ⟨c3, h⟩
      · refine x_icgeT r251_17 c3 ?_
        refine x_ic (v := 0) r251_34 rfl rfl ?_
        subst h
        exact x_ret (ret := some .int) (C := True) (v := some (.int _)) r251_35 rt251 rfl rfl rfl rfl rfl rfl rfl rfl trivial hQ
      · refine x_icgeF r251_17 c3 rfl ?_
        refine y_gs r251_20 (by decide) rfl ?_
        refine x_ld (v := .int v0) r251_23 rfl rfl rfl ?_
        refine y_ialL r251_24 ⟨(Int32.not_lt.mp c1), (Int32.not_le.mp c3)⟩ rfl rfl ?_
        refine y_gs r251_25 (by decide) rfl ?_
        refine x_ld (v := .int v0) r251_28 rfl rfl rfl ?_
        refine y_ialH r251_29 ⟨(Int32.not_lt.mp c1), (Int32.not_le.mp c3)⟩ rfl rfl ?_
        refine x_ar r251_30 rfl trivial rfl ?_
        refine x_goto r251_31 ?_
        subst h
        exact x_ret (ret := some .int) (C := True) (v := some (.int _)) r251_35 rt251 rfl rfl rfl rfl rfl rfl rfl rfl trivial hQ
theorem m251_ok {D : am_D} {v0 : Int32} {r : Int32} (h : m251 v0 = r) : am_Y xs L 251 1 0 0 [.int v0] D (.inl (some (.int r))) D := am_Yof (mi := am_m251) (lc := [.int v0]) pg251 (Nat.le_of_ble_eq_true rfl) (am_rc0 rfl) rfl (fun Q hQ => m251_w (Nat.le_refl _) h hQ)
theorem r252_0 : am_at 252 0 = some (.iload_n 0, 1, [0]) := by decide +kernel
theorem r252_1 : am_at 252 1 = some (.invokestatic 18, 3, [249, 1, 408, 0]) := by decide +kernel
theorem r252_4 : am_at 252 4 = some (.iload_n 0, 1, [0]) := by decide +kernel
theorem r252_5 : am_at 252 5 = some (.invokestatic 22, 3, [250, 1, 413, 0]) := by decide +kernel
theorem r252_8 : am_at 252 8 = some (.if_icmp .ne (7), 3, [15]) := by decide +kernel
theorem r252_11 : am_at 252 11 = some (.iconst (1), 1, []) := by decide +kernel
theorem r252_12 : am_at 252 12 = some (.goto (4), 3, [16]) := by decide +kernel
theorem r252_15 : am_at 252 15 = some (.iconst (0), 1, []) := by decide +kernel
theorem r252_16 : am_at 252 16 = some (.ireturn, 1, []) := by decide +kernel
theorem rt252 : am_rtt 252 = some (some .boolean) := by decide +kernel
set_option maxRecDepth 100000 in
theorem pg252 : am_pg[252]? = some am_m252 := rfl
theorem m252_w {d mc ms : Nat} {D : am_D} {v0 : Int32} {Q : am_O → am_AH → Prop} (hd : 2 ≤ d) {r : Int32} (h : m252 v0 = r) (hQ : Q (.inl (some (.int r))) (am_mk D)) : am_X xs L 252 d mc ms 0 [.int v0] [] (am_mk D) 0 0 Q := by
  unfold m252 at h
  refine x_ld (v := .int v0) r252_0 rfl rfl rfl ?_
  refine x_call1 (as := [.int v0]) (rest := []) r252_1 rfl rfl rfl (by decide) (Nat.le_of_ble_eq_true rfl) (m249_ok rfl) (Nat.le_trans (by decide) hd) (Nat.zero_le _) (Nat.zero_le _) rfl ?_
  refine x_ld (v := .int v0) r252_4 rfl rfl rfl ?_
  refine x_call1 (as := [.int v0]) (rest := [.int (m249 v0)]) r252_5 rfl rfl rfl (by decide) (Nat.le_of_ble_eq_true rfl) (m250_ok rfl) (Nat.le_trans (by decide) hd) (Nat.zero_le _) (Nat.zero_le _) rfl ?_
  rcases am_ifE h with ⟨c1, h⟩ | ⟨c1, h⟩
  · refine x_icneT r252_8 c1 rfl ?_
    refine x_ic (v := 1) r252_11 rfl rfl ?_
    refine x_goto r252_12 ?_
    subst h
    exact x_ret (ret := some .boolean) (C := narrow .boolean (.int (1 : Int32)) = .int (1 : Int32)) (v := some (.int (1 : Int32))) r252_16 rt252 rfl rfl rfl rfl rfl rfl rfl rfl (by decide) hQ
  · refine x_icneF r252_8 c1 ?_
    refine x_ic (v := 0) r252_15 rfl rfl ?_
    subst h
    exact x_ret (ret := some .boolean) (C := narrow .boolean (.int (0 : Int32)) = .int (0 : Int32)) (v := some (.int (0 : Int32))) r252_16 rt252 rfl rfl rfl rfl rfl rfl rfl rfl (by decide) hQ
theorem m252_ok {D : am_D} {v0 : Int32} {r : Int32} (h : m252 v0 = r) : am_Y xs L 252 2 0 0 [.int v0] D (.inl (some (.int r))) D := am_Yof (mi := am_m252) (lc := [.int v0]) pg252 (Nat.le_of_ble_eq_true rfl) (am_rc0 rfl) rfl (fun Q hQ => m252_w (Nat.le_refl _) h hQ)
theorem m252_b (v0 : Int32) : m252 v0 &&& 1 = m252 v0 := by
  unfold m252
  (repeat' split) <;> rfl
theorem r253_0 : am_at 253 0 = some (.iload_n 0, 1, [0]) := by decide +kernel
theorem r253_1 : am_at 253 1 = some (.invokestatic 18, 3, [249, 1, 408, 0]) := by decide +kernel
theorem r253_4 : am_at 253 4 = some (.iload_n 1, 1, [1]) := by decide +kernel
theorem r253_5 : am_at 253 5 = some (.if_icmp .eq (11), 3, [16]) := by decide +kernel
theorem r253_8 : am_at 253 8 = some (.iload_n 0, 1, [0]) := by decide +kernel
theorem r253_9 : am_at 253 9 = some (.invokestatic 22, 3, [250, 1, 413, 0]) := by decide +kernel
theorem r253_12 : am_at 253 12 = some (.iload_n 1, 1, [1]) := by decide +kernel
theorem r253_13 : am_at 253 13 = some (.if_icmp .ne (7), 3, [20]) := by decide +kernel
theorem r253_16 : am_at 253 16 = some (.iconst (1), 1, []) := by decide +kernel
theorem r253_17 : am_at 253 17 = some (.goto (4), 3, [21]) := by decide +kernel
theorem r253_20 : am_at 253 20 = some (.iconst (0), 1, []) := by decide +kernel
theorem r253_21 : am_at 253 21 = some (.ireturn, 1, []) := by decide +kernel
theorem rt253 : am_rtt 253 = some (some .boolean) := by decide +kernel
set_option maxRecDepth 100000 in
theorem pg253 : am_pg[253]? = some am_m253 := rfl
theorem m253_w {d mc ms : Nat} {D : am_D} {v0 : Int32} {v1 : Int32} {Q : am_O → am_AH → Prop} (hd : 2 ≤ d) {r : Int32} (h : m253 v0 v1 = r) (hQ : Q (.inl (some (.int r))) (am_mk D)) : am_X xs L 253 d mc ms 0 [.int v0, .int v1] [] (am_mk D) 0 0 Q := by
  unfold m253 at h
  refine x_ld (v := .int v0) r253_0 rfl rfl rfl ?_
  refine x_call1 (as := [.int v0]) (rest := []) r253_1 rfl rfl rfl (by decide) (Nat.le_of_ble_eq_true rfl) (m249_ok rfl) (Nat.le_trans (by decide) hd) (Nat.zero_le _) (Nat.zero_le _) rfl ?_
  refine x_ld (v := .int v1) r253_4 rfl rfl rfl ?_
  rcases am_ifE h with ⟨c1, h⟩ | ⟨c1, h⟩
  · refine x_iceqT r253_5 c1 ?_
    refine x_ic (v := 1) r253_16 rfl rfl ?_
    refine x_goto r253_17 ?_
    subst h
    exact x_ret (ret := some .boolean) (C := narrow .boolean (.int (1 : Int32)) = .int (1 : Int32)) (v := some (.int (1 : Int32))) r253_21 rt253 rfl rfl rfl rfl rfl rfl rfl rfl (by decide) hQ
  · refine x_iceqF r253_5 c1 rfl ?_
    refine x_ld (v := .int v0) r253_8 rfl rfl rfl ?_
    refine x_call1 (as := [.int v0]) (rest := []) r253_9 rfl rfl rfl (by decide) (Nat.le_of_ble_eq_true rfl) (m250_ok rfl) (Nat.le_trans (by decide) hd) (Nat.zero_le _) (Nat.zero_le _) rfl ?_
    refine x_ld (v := .int v1) r253_12 rfl rfl rfl ?_
    rcases am_ifE h with ⟨c2, h⟩ | ⟨c2, h⟩
    · refine x_icneT r253_13 c2 rfl ?_
      refine x_ic (v := 1) r253_16 rfl rfl ?_
      refine x_goto r253_17 ?_
      subst h
      exact x_ret (ret := some .boolean) (C := narrow .boolean (.int (1 : Int32)) = .int (1 : Int32)) (v := some (.int (1 : Int32))) r253_21 rt253 rfl rfl rfl rfl rfl rfl rfl rfl (by decide) hQ
    · refine x_icneF r253_13 c2 ?_
      refine x_ic (v := 0) r253_20 rfl rfl ?_
      subst h
      exact x_ret (ret := some .boolean) (C := narrow .boolean (.int (0 : Int32)) = .int (0 : Int32)) (v := some (.int (0 : Int32))) r253_21 rt253 rfl rfl rfl rfl rfl rfl rfl rfl (by decide) hQ
theorem m253_ok {D : am_D} {v0 : Int32} {v1 : Int32} {r : Int32} (h : m253 v0 v1 = r) : am_Y xs L 253 2 0 0 [.int v0, .int v1] D (.inl (some (.int r))) D := am_Yof (mi := am_m253) (lc := [.int v0, .int v1]) pg253 (Nat.le_of_ble_eq_true rfl) (am_rc0 rfl) rfl (fun Q hQ => m253_w (Nat.le_refl _) h hQ)
theorem m253_b (v0 : Int32) (v1 : Int32) : m253 v0 v1 &&& 1 = m253 v0 v1 := by
  unfold m253
  (repeat' split) <;> rfl
theorem r254_0 : am_at 254 0 = some (.iload_n 0, 1, [0]) := by decide +kernel
theorem r254_1 : am_at 254 1 = some (.iload_n 1, 1, [1]) := by decide +kernel
theorem r254_2 : am_at 254 2 = some (.invokestatic 25, 3, [1001, 0, 792]) := by decide +kernel
theorem r254_5 : am_at 254 5 = some (.istore_n 2, 1, [2]) := by decide +kernel
theorem r254_6 : am_at 254 6 = some (.iload_n 0, 1, [0]) := by decide +kernel
theorem r254_7 : am_at 254 7 = some (.iload_n 1, 1, [1]) := by decide +kernel
theorem r254_8 : am_at 254 8 = some (.invokestatic 31, 3, [1000, 0, 793]) := by decide +kernel
theorem r254_11 : am_at 254 11 = some (.istore_n 3, 1, [3]) := by decide +kernel
theorem r254_12 : am_at 254 12 = some (.iload_n 2, 1, [2]) := by decide +kernel
theorem r254_13 : am_at 254 13 = some (.bipush (15), 2, []) := by decide +kernel
theorem r254_15 : am_at 254 15 = some (.iload_n 2, 1, [2]) := by decide +kernel
theorem r254_16 : am_at 254 16 = some (.isub, 1, []) := by decide +kernel
theorem r254_17 : am_at 254 17 = some (.imul, 1, []) := by decide +kernel
theorem r254_18 : am_at 254 18 = some (.iconst (2), 1, []) := by decide +kernel
theorem r254_19 : am_at 254 19 = some (.idiv, 1, []) := by decide +kernel
theorem r254_20 : am_at 254 20 = some (.iload_n 3, 1, [3]) := by decide +kernel
theorem r254_21 : am_at 254 21 = some (.iadd, 1, []) := by decide +kernel
theorem r254_22 : am_at 254 22 = some (.iload_n 2, 1, [2]) := by decide +kernel
theorem r254_23 : am_at 254 23 = some (.isub, 1, []) := by decide +kernel
theorem r254_24 : am_at 254 24 = some (.ireturn, 1, []) := by decide +kernel
theorem rt254 : am_rtt 254 = some (some .int) := by decide +kernel
set_option maxRecDepth 100000 in
theorem pg254 : am_pg[254]? = some am_m254 := rfl
theorem m254_w {d mc ms : Nat} {D : am_D} {v0 : Int32} {v1 : Int32} {Q : am_O → am_AH → Prop} (hd : 1 ≤ d) {r : Int32} (h : m254 v0 v1 = r) (hQ : Q (.inl (some (.int r))) (am_mk D)) : am_X xs L 254 d mc ms 0 [.int v0, .int v1, am_dead, am_dead] [] (am_mk D) 0 0 Q := by
  unfold m254 at h
  refine x_ld (v := .int v0) r254_0 rfl rfl rfl ?_
  refine x_ld (v := .int v1) r254_1 rfl rfl rfl ?_
  refine x_sp r254_2 rfl rfl rfl rfl rfl rfl trivial rfl ?_
  obtain ⟨x1, e2, h⟩ := am_ltE h
  refine am_topI e2 ?_
  refine x_sto (lc' := [.int v0, .int v1, .int x1, am_dead]) r254_5 rfl rfl rfl rfl ?_
  refine x_ld (v := .int v0) r254_6 rfl rfl rfl ?_
  refine x_ld (v := .int v1) r254_7 rfl rfl rfl ?_
  refine x_sp r254_8 rfl rfl rfl rfl rfl rfl trivial rfl ?_
  obtain ⟨x3, e4, h⟩ := am_ltE h
  refine am_topI e4 ?_
  refine x_sto (lc' := [.int v0, .int v1, .int x1, .int x3]) r254_11 rfl rfl rfl rfl ?_
  refine x_ld (v := .int x1) r254_12 rfl rfl rfl ?_
  refine x_bi (v := 15) r254_13 rfl rfl ?_
  refine x_ld (v := .int x1) r254_15 rfl rfl rfl ?_
  refine x_ar r254_16 rfl trivial rfl ?_
  refine x_ar r254_17 rfl trivial rfl ?_
  refine x_ic (v := 2) r254_18 rfl rfl ?_
  refine x_ar r254_19 rfl (by decide) rfl ?_
  refine x_ld (v := .int x3) r254_20 rfl rfl rfl ?_
  refine x_ar r254_21 rfl trivial rfl ?_
  refine x_ld (v := .int x1) r254_22 rfl rfl rfl ?_
  refine x_ar r254_23 rfl trivial rfl ?_
  subst h
  exact x_ret (ret := some .int) (C := True) (v := some (.int _)) r254_24 rt254 rfl rfl rfl rfl rfl rfl rfl rfl trivial hQ
theorem m254_ok {D : am_D} {v0 : Int32} {v1 : Int32} {r : Int32} (h : m254 v0 v1 = r) : am_Y xs L 254 1 0 0 [.int v0, .int v1] D (.inl (some (.int r))) D := am_Yof (mi := am_m254) (lc := [.int v0, .int v1, am_dead, am_dead]) pg254 (Nat.le_of_ble_eq_true rfl) (am_rc0 rfl) rfl (fun Q hQ => m254_w (Nat.le_refl _) h hQ)
theorem r255_0 : am_at 255 0 = some (.iload_n 0, 1, [0]) := by decide +kernel
theorem r255_1 : am_at 255 1 = some (.invokestatic 18, 3, [249, 1, 408, 0]) := by decide +kernel
theorem r255_4 : am_at 255 4 = some (.iload_n 0, 1, [0]) := by decide +kernel
theorem r255_5 : am_at 255 5 = some (.invokestatic 22, 3, [250, 1, 413, 0]) := by decide +kernel
theorem r255_8 : am_at 255 8 = some (.if_icmp .ne (9), 3, [17]) := by decide +kernel
theorem r255_11 : am_at 255 11 = some (.iconst (2), 1, []) := by decide +kernel
theorem r255_12 : am_at 255 12 = some (.iload_n 1, 1, [1]) := by decide +kernel
theorem r255_13 : am_at 255 13 = some (.imul, 1, []) := by decide +kernel
theorem r255_14 : am_at 255 14 = some (.goto (4), 3, [18]) := by decide +kernel
theorem r255_17 : am_at 255 17 = some (.iload_n 1, 1, [1]) := by decide +kernel
theorem r255_18 : am_at 255 18 = some (.ireturn, 1, []) := by decide +kernel
theorem rt255 : am_rtt 255 = some (some .int) := by decide +kernel
set_option maxRecDepth 100000 in
theorem pg255 : am_pg[255]? = some am_m255 := rfl
theorem m255_w {d mc ms : Nat} {D : am_D} {v0 : Int32} {v1 : Int32} {Q : am_O → am_AH → Prop} (hd : 2 ≤ d) {r : Int32} (h : m255 v0 v1 = r) (hQ : Q (.inl (some (.int r))) (am_mk D)) : am_X xs L 255 d mc ms 0 [.int v0, .int v1] [] (am_mk D) 0 0 Q := by
  unfold m255 at h
  refine x_ld (v := .int v0) r255_0 rfl rfl rfl ?_
  refine x_call1 (as := [.int v0]) (rest := []) r255_1 rfl rfl rfl (by decide) (Nat.le_of_ble_eq_true rfl) (m249_ok rfl) (Nat.le_trans (by decide) hd) (Nat.zero_le _) (Nat.zero_le _) rfl ?_
  refine x_ld (v := .int v0) r255_4 rfl rfl rfl ?_
  refine x_call1 (as := [.int v0]) (rest := [.int (m249 v0)]) r255_5 rfl rfl rfl (by decide) (Nat.le_of_ble_eq_true rfl) (m250_ok rfl) (Nat.le_trans (by decide) hd) (Nat.zero_le _) (Nat.zero_le _) rfl ?_
  rcases am_ifE h with ⟨c1, h⟩ | ⟨c1, h⟩
  · refine x_icneT r255_8 c1 rfl ?_
    refine x_ic (v := 2) r255_11 rfl rfl ?_
    refine x_ld (v := .int v1) r255_12 rfl rfl rfl ?_
    refine x_ar r255_13 rfl trivial rfl ?_
    refine x_goto r255_14 ?_
    subst h
    exact x_ret (ret := some .int) (C := True) (v := some (.int _)) r255_18 rt255 rfl rfl rfl rfl rfl rfl rfl rfl trivial hQ
  · refine x_icneF r255_8 c1 ?_
    refine x_ld (v := .int v1) r255_17 rfl rfl rfl ?_
    subst h
    exact x_ret (ret := some .int) (C := True) (v := some (.int _)) r255_18 rt255 rfl rfl rfl rfl rfl rfl rfl rfl trivial hQ
theorem m255_ok {D : am_D} {v0 : Int32} {v1 : Int32} {r : Int32} (h : m255 v0 v1 = r) : am_Y xs L 255 2 0 0 [.int v0, .int v1] D (.inl (some (.int r))) D := am_Yof (mi := am_m255) (lc := [.int v0, .int v1]) pg255 (Nat.le_of_ble_eq_true rfl) (am_rc0 rfl) rfl (fun Q hQ => m255_w (Nat.le_refl _) h hQ)
theorem r256_0 : am_at 256 0 = some (.iload_n 0, 1, [0]) := by decide +kernel
theorem r256_1 : am_at 256 1 = some (.ifCond .le (15), 3, [16]) := by decide +kernel
theorem r256_4 : am_at 256 4 = some (.iload_n 0, 1, [0]) := by decide +kernel
theorem r256_5 : am_at 256 5 = some (.iconst (5), 1, []) := by decide +kernel
theorem r256_6 : am_at 256 6 = some (.irem, 1, []) := by decide +kernel
theorem r256_7 : am_at 256 7 = some (.ifCond .ne (9), 3, [16]) := by decide +kernel
theorem r256_10 : am_at 256 10 = some (.iload_n 0, 1, [0]) := by decide +kernel
theorem r256_11 : am_at 256 11 = some (.iconst (5), 1, []) := by decide +kernel
theorem r256_12 : am_at 256 12 = some (.idiv, 1, []) := by decide +kernel
theorem r256_13 : am_at 256 13 = some (.goto (4), 3, [17]) := by decide +kernel
theorem r256_16 : am_at 256 16 = some (.iconst (0), 1, []) := by decide +kernel
theorem r256_17 : am_at 256 17 = some (.ireturn, 1, []) := by decide +kernel
theorem rt256 : am_rtt 256 = some (some .int) := by decide +kernel
set_option maxRecDepth 100000 in
theorem pg256 : am_pg[256]? = some am_m256 := rfl
theorem m256_w {d mc ms : Nat} {D : am_D} {v0 : Int32} {Q : am_O → am_AH → Prop} (hd : 1 ≤ d) {r : Int32} (h : m256 v0 = r) (hQ : Q (.inl (some (.int r))) (am_mk D)) : am_X xs L 256 d mc ms 0 [.int v0] [] (am_mk D) 0 0 Q := by
  unfold m256 at h
  refine x_ld (v := .int v0) r256_0 rfl rfl rfl ?_
  rcases am_ifE h with ⟨c1, h⟩ | ⟨c1, h⟩
  · refine x_ifleT r256_1 c1 ?_
    refine x_ic (v := 0) r256_16 rfl rfl ?_
    subst h
    exact x_ret (ret := some .int) (C := True) (v := some (.int _)) r256_17 rt256 rfl rfl rfl rfl rfl rfl rfl rfl trivial hQ
  · refine x_ifleF r256_1 c1 rfl ?_
    refine x_ld (v := .int v0) r256_4 rfl rfl rfl ?_
    refine x_ic (v := 5) r256_5 rfl rfl ?_
    refine x_ar r256_6 rfl (by decide) rfl ?_
    rcases am_ifE h with ⟨c2, h⟩ | ⟨c2, h⟩
    · refine x_ifneT r256_7 c2 rfl ?_
      refine x_ld (v := .int v0) r256_10 rfl rfl rfl ?_
      refine x_ic (v := 5) r256_11 rfl rfl ?_
      refine x_ar r256_12 rfl (by decide) rfl ?_
      refine x_goto r256_13 ?_
      subst h
      exact x_ret (ret := some .int) (C := True) (v := some (.int _)) r256_17 rt256 rfl rfl rfl rfl rfl rfl rfl rfl trivial hQ
    · refine x_ifneF r256_7 c2 ?_
      refine x_ic (v := 0) r256_16 rfl rfl ?_
      subst h
      exact x_ret (ret := some .int) (C := True) (v := some (.int _)) r256_17 rt256 rfl rfl rfl rfl rfl rfl rfl rfl trivial hQ
theorem m256_ok {D : am_D} {v0 : Int32} {r : Int32} (h : m256 v0 = r) : am_Y xs L 256 1 0 0 [.int v0] D (.inl (some (.int r))) D := am_Yof (mi := am_m256) (lc := [.int v0]) pg256 (Nat.le_of_ble_eq_true rfl) (am_rc0 rfl) rfl (fun Q hQ => m256_w (Nat.le_refl _) h hQ)
theorem r289_0 : am_at 289 0 = some (.iload_n 0, 1, [0]) := by decide +kernel
theorem r289_1 : am_at 289 1 = some (.ldc 8, 2, [3, 450, 2147483647]) := by decide +kernel
theorem r289_3 : am_at 289 3 = some (.iand, 1, []) := by decide +kernel
theorem r289_4 : am_at 289 4 = some (.iload_n 1, 1, [1]) := by decide +kernel
theorem r289_5 : am_at 289 5 = some (.irem, 1, []) := by decide +kernel
theorem r289_6 : am_at 289 6 = some (.ireturn, 1, []) := by decide +kernel
theorem rt289 : am_rtt 289 = some (some .int) := by decide +kernel
set_option maxRecDepth 100000 in
theorem pg289 : am_pg[289]? = some am_m289 := rfl
theorem m289_w {d mc ms : Nat} {D : am_D} {v0 : Int32} {v1 : Int32} {Q : am_O → am_AH → Prop} (hd : 1 ≤ d) {r : Int32} (h : m289 v0 v1 = some r) (hQ : Q (.inl (some (.int r))) (am_mk D)) : am_X xs L 289 d mc ms 0 [.int v0, .int v1] [] (am_mk D) 0 0 Q := by
  unfold m289 at h
  refine x_ld (v := .int v0) r289_0 rfl rfl rfl ?_
  refine x_sp r289_1 rfl rfl rfl rfl rfl rfl trivial rfl ?_
  refine x_ar r289_3 rfl trivial rfl ?_
  refine x_ld (v := .int v1) r289_4 rfl rfl rfl ?_
  obtain ⟨g1, h⟩ := am_gdE h
  refine x_ar r289_5 rfl g1 rfl ?_
  cases h
  exact x_ret (ret := some .int) (C := True) (v := some (.int _)) r289_6 rt289 rfl rfl rfl rfl rfl rfl rfl rfl trivial hQ
theorem m289_ok {D : am_D} {v0 : Int32} {v1 : Int32} {r : Int32} (h : m289 v0 v1 = some r) : am_Y xs L 289 1 0 0 [.int v0, .int v1] D (.inl (some (.int r))) D := am_Yof (mi := am_m289) (lc := [.int v0, .int v1]) pg289 (Nat.le_of_ble_eq_true rfl) (am_rc0 rfl) rfl (fun Q hQ => m289_w (Nat.le_refl _) h hQ)
theorem r259_0 : am_at 259 0 = some (.iconst (0), 1, []) := by decide +kernel
theorem r259_1 : am_at 259 1 = some (.istore 4, 2, [4]) := by decide +kernel
theorem r259_3 : am_at 259 3 = some (.iconst (0), 1, []) := by decide +kernel
theorem r259_4 : am_at 259 4 = some (.istore 5, 2, [5]) := by decide +kernel
theorem r259_6 : am_at 259 6 = some (.iload 5, 2, [5]) := by decide +kernel
theorem r259_8 : am_at 259 8 = some (.aload_n 0, 1, [0]) := by decide +kernel
theorem r259_9 : am_at 259 9 = some (.arraylength, 1, []) := by decide +kernel
theorem r259_10 : am_at 259 10 = some (.if_icmp .ge (76), 3, [86]) := by decide +kernel
theorem r259_13 : am_at 259 13 = some (.iload 4, 2, [4]) := by decide +kernel
theorem r259_15 : am_at 259 15 = some (.iload_n 3, 1, [3]) := by decide +kernel
theorem r259_16 : am_at 259 16 = some (.if_icmp .ge (70), 3, [86]) := by decide +kernel
theorem r259_19 : am_at 259 19 = some (.aload_n 0, 1, [0]) := by decide +kernel
theorem r259_20 : am_at 259 20 = some (.iload 5, 2, [5]) := by decide +kernel
theorem r259_22 : am_at 259 22 = some (.invokestatic 37, 3, [180, 2, 557, 0]) := by decide +kernel
theorem r259_25 : am_at 259 25 = some (.istore 6, 2, [6]) := by decide +kernel
theorem r259_27 : am_at 259 27 = some (.iload_n 2, 1, [2]) := by decide +kernel
theorem r259_28 : am_at 259 28 = some (.iload 5, 2, [5]) := by decide +kernel
theorem r259_30 : am_at 259 30 = some (.ishr, 1, []) := by decide +kernel
theorem r259_31 : am_at 259 31 = some (.iconst (1), 1, []) := by decide +kernel
theorem r259_32 : am_at 259 32 = some (.iand, 1, []) := by decide +kernel
theorem r259_33 : am_at 259 33 = some (.ifCond .eq (47), 3, [80]) := by decide +kernel
theorem r259_36 : am_at 259 36 = some (.iload 6, 2, [6]) := by decide +kernel
theorem r259_38 : am_at 259 38 = some (.iload_n 1, 1, [1]) := by decide +kernel
theorem r259_39 : am_at 259 39 = some (.invokestatic 41, 3, [253, 2, 558, 0]) := by decide +kernel
theorem r259_42 : am_at 259 42 = some (.ifCond .eq (38), 3, [80]) := by decide +kernel
theorem r259_45 : am_at 259 45 = some (.iload_n 2, 1, [2]) := by decide +kernel
theorem r259_46 : am_at 259 46 = some (.iconst (1), 1, []) := by decide +kernel
theorem r259_47 : am_at 259 47 = some (.iload 5, 2, [5]) := by decide +kernel
theorem r259_49 : am_at 259 49 = some (.ishl, 1, []) := by decide +kernel
theorem r259_50 : am_at 259 50 = some (.iconst (-1), 1, []) := by decide +kernel
theorem r259_51 : am_at 259 51 = some (.ixor, 1, []) := by decide +kernel
theorem r259_52 : am_at 259 52 = some (.iand, 1, []) := by decide +kernel
theorem r259_53 : am_at 259 53 = some (.istore 7, 2, [7]) := by decide +kernel
theorem r259_55 : am_at 259 55 = some (.iload 4, 2, [4]) := by decide +kernel
theorem r259_57 : am_at 259 57 = some (.iconst (1), 1, []) := by decide +kernel
theorem r259_58 : am_at 259 58 = some (.aload_n 0, 1, [0]) := by decide +kernel
theorem r259_59 : am_at 259 59 = some (.iload 6, 2, [6]) := by decide +kernel
theorem r259_61 : am_at 259 61 = some (.invokestatic 47, 3, [251, 1, 559, 0]) := by decide +kernel
theorem r259_64 : am_at 259 64 = some (.iload_n 1, 1, [1]) := by decide +kernel
theorem r259_65 : am_at 259 65 = some (.isub, 1, []) := by decide +kernel
theorem r259_66 : am_at 259 66 = some (.iload 7, 2, [7]) := by decide +kernel
theorem r259_68 : am_at 259 68 = some (.iload_n 3, 1, [3]) := by decide +kernel
theorem r259_69 : am_at 259 69 = some (.iconst (1), 1, []) := by decide +kernel
theorem r259_70 : am_at 259 70 = some (.isub, 1, []) := by decide +kernel
theorem r259_71 : am_at 259 71 = some (.invokestatic 27, 3, [259, 4, 554, 0]) := by decide +kernel
theorem r259_74 : am_at 259 74 = some (.iadd, 1, []) := by decide +kernel
theorem r259_75 : am_at 259 75 = some (.invokestatic 31, 3, [1000, 0, 560]) := by decide +kernel
theorem r259_78 : am_at 259 78 = some (.istore 4, 2, [4]) := by decide +kernel
theorem r259_80 : am_at 259 80 = some (.iinc 5 (1), 3, [5]) := by decide +kernel
theorem r259_83 : am_at 259 83 = some (.goto (-77), 3, [6]) := by decide +kernel
theorem r259_86 : am_at 259 86 = some (.iload 4, 2, [4]) := by decide +kernel
theorem r259_88 : am_at 259 88 = some (.ireturn, 1, []) := by decide +kernel
theorem rt259 : am_rtt 259 = some (some .int) := by decide +kernel
set_option maxRecDepth 100000 in
theorem pg259 : am_pg[259]? = some am_m259 := rfl
theorem m259b_L6_w {d : Nat} {N : Nat} {D : am_D} {v1 : Int32} {v2 : Int32} {v3 : Int32} {mc ms : Nat} {Q : am_O → am_AH → Prop} {rec : Int32 → Int32 → Int32 → Option Int32} {dr : Nat} (hrec : ∀ (v1 v2 v3 r : Int32), rec v1 v2 v3 = some r → am_Y xs L 259 dr 0 0 [.ref 105, .int v1, .int v2, .int v3] D (.inl (some (.int r))) D) (hdr : dr + 1 ≤ d) (hd : 3 ≤ d) : ∀ (n : Nat) (v4 : Int32) (v5 : Int32) {q : Int32} (h : m259b_L6 rec N D v1 v2 v3  n v4 v5 = some q) (k0 : am_X xs L 259 d mc ms 86 [.ref 105, am_dead, am_dead, am_dead, .int q, am_dead, am_dead, am_dead] [] (am_mk D) 0 0 Q), am_X xs L 259 d mc ms 6 [.ref 105, .int v1, .int v2, .int v3, .int v4, .int v5, am_dead, am_dead] [] (am_mk D) 0 0 Q := by
  intro n
  induction n with
  | zero =>
    intro v4 v5 q h k0
    exact (nomatch (show none = some q from h))
  | succ n ih =>
    intro v4 v5 q h k0
    rw [m259b_L6] at h
    refine x_ld (v := .int v5) r259_6 rfl rfl rfl ?_
    refine x_ld (v := .ref 105) r259_8 rfl rfl rfl ?_
    refine y_alen (tag := 0) (n := 7) (v := 7) r259_9 rfl rfl rfl ?_
    rcases am_ifE h with ⟨c1, h⟩ | ⟨c1, h⟩
    · refine x_icgeT r259_10 c1 ?_
      refine x_forget (lc0 := [.ref 105, am_dead, am_dead, am_dead, .int v4, am_dead, am_dead, am_dead]) ⟨Or.inl rfl, Or.inr ⟨rfl, rfl⟩, Or.inr ⟨rfl, rfl⟩, Or.inr ⟨rfl, rfl⟩, Or.inl rfl, Or.inr ⟨rfl, rfl⟩, Or.inl rfl, Or.inl rfl, trivial⟩ ?_
      cases h
      exact k0
    · refine x_icgeF r259_10 c1 rfl ?_
      refine x_ld (v := .int v4) r259_13 rfl rfl rfl ?_
      refine x_ld (v := .int v3) r259_15 rfl rfl rfl ?_
      rcases am_ifE h with ⟨c2, h⟩ | ⟨c2, h⟩
      · refine x_icgeT r259_16 c2 ?_
        refine x_forget (lc0 := [.ref 105, am_dead, am_dead, am_dead, .int v4, am_dead, am_dead, am_dead]) ⟨Or.inl rfl, Or.inr ⟨rfl, rfl⟩, Or.inr ⟨rfl, rfl⟩, Or.inr ⟨rfl, rfl⟩, Or.inl rfl, Or.inr ⟨rfl, rfl⟩, Or.inl rfl, Or.inl rfl, trivial⟩ ?_
        cases h
        exact k0
      · refine x_icgeF r259_16 c2 rfl ?_
        refine x_ld (v := .ref 105) r259_19 rfl rfl rfl ?_
        refine x_ld (v := .int v5) r259_20 rfl rfl rfl ?_
        refine x_call1 (as := [.ref 105, .int v5]) (rest := []) r259_22 rfl rfl rfl (by decide) (Nat.le_of_ble_eq_true rfl) (am_rows_at (n := 7) rfl (by decide)) (Nat.le_trans (by decide) hd) (Nat.zero_le _) (Nat.zero_le _) rfl ?_
        obtain ⟨x3, e4, h⟩ := am_ltE h
        refine am_topI e4 ?_
        refine x_sto (lc' := [.ref 105, .int v1, .int v2, .int v3, .int v4, .int v5, .int x3, am_dead]) r259_25 rfl rfl rfl rfl ?_
        refine x_ld (v := .int v2) r259_27 rfl rfl rfl ?_
        refine x_ld (v := .int v5) r259_28 rfl rfl rfl ?_
        refine x_ar r259_30 rfl trivial rfl ?_
        refine x_ic (v := 1) r259_31 rfl rfl ?_
        refine x_ar r259_32 rfl trivial rfl ?_
        obtain ⟨q5, h7, h⟩ := Option.bind_eq_some_iff.mp h
        have kj6 : am_X xs L 259 d mc ms 80 [.ref 105, .int v1, .int v2, .int v3, .int q5, .int v5, .int x3, am_dead] [] (am_mk D) 0 0 Q := by
          obtain ⟨x16, e17, h⟩ := am_ltE h
          refine x_sto (lc' := [.ref 105, .int v1, .int v2, .int v3, .int q5, .int x16, .int x3, am_dead]) r259_80 rfl rfl (by subst e17; rfl) rfl ?_
          refine x_goto r259_83 ?_
          exact x_forget (lc0 := [.ref 105, .int v1, .int v2, .int v3, .int q5, .int x16, am_dead, am_dead]) ⟨Or.inl rfl, Or.inl rfl, Or.inl rfl, Or.inl rfl, Or.inl rfl, Or.inl rfl, Or.inr ⟨rfl, rfl⟩, Or.inl rfl, trivial⟩ (ih q5 x16 h k0)
        rcases am_ifE h7 with ⟨c8, h7⟩ | ⟨c8, h7⟩
        · refine x_ifeqT r259_33 c8 ?_
          cases h7
          exact kj6
        · refine x_ifeqF r259_33 c8 rfl ?_
          refine x_ld (v := .int x3) r259_36 rfl rfl rfl ?_
          refine x_ld (v := .int v1) r259_38 rfl rfl rfl ?_
          refine x_call1 (as := [.int x3, .int v1]) (rest := []) r259_39 rfl rfl rfl (by decide) (Nat.le_of_ble_eq_true rfl) (m253_ok rfl) (Nat.le_trans (by decide) hd) (Nat.zero_le _) (Nat.zero_le _) rfl ?_
          rcases am_ifE h7 with ⟨c9, h7⟩ | ⟨c9, h7⟩
          · refine x_ifeqT r259_42 c9 ?_
            cases h7
            exact kj6
          · refine x_ifeqF r259_42 c9 rfl ?_
            refine x_ld (v := .int v2) r259_45 rfl rfl rfl ?_
            refine x_ic (v := 1) r259_46 rfl rfl ?_
            refine x_ld (v := .int v5) r259_47 rfl rfl rfl ?_
            refine x_ar r259_49 rfl trivial rfl ?_
            refine x_ic (v := -1) r259_50 rfl rfl ?_
            refine x_ar r259_51 rfl trivial rfl ?_
            refine x_ar r259_52 rfl trivial rfl ?_
            obtain ⟨x10, e11, h7⟩ := am_ltE h7
            refine am_topI e11 ?_
            refine x_sto (lc' := [.ref 105, .int v1, .int v2, .int v3, .int v4, .int v5, .int x3, .int x10]) r259_53 rfl rfl rfl rfl ?_
            refine x_ld (v := .int v4) r259_55 rfl rfl rfl ?_
            refine x_ic (v := 1) r259_57 rfl rfl ?_
            refine x_ld (v := .ref 105) r259_58 rfl rfl rfl ?_
            refine x_ld (v := .int x3) r259_59 rfl rfl rfl ?_
            refine x_call1 (as := [.int x3]) (rest := [.ref 105, .int (1 : Int32), .int v4]) r259_61 rfl rfl rfl (by decide) (Nat.le_of_ble_eq_true rfl) (m251_ok rfl) (Nat.le_trans (by decide) hd) (Nat.zero_le _) (Nat.zero_le _) rfl ?_
            refine x_ld (v := .int v1) r259_64 rfl rfl rfl ?_
            refine x_ar r259_65 rfl trivial rfl ?_
            refine x_ld (v := .int x10) r259_66 rfl rfl rfl ?_
            refine x_ld (v := .int v3) r259_68 rfl rfl rfl ?_
            refine x_ic (v := 1) r259_69 rfl rfl ?_
            refine x_ar r259_70 rfl trivial rfl ?_
            obtain ⟨q12, h13, h7⟩ := Option.bind_eq_some_iff.mp h7
            refine x_call1 (as := [.ref 105, .int ((m251 x3) - v1), .int x10, .int (v3 - (1 : Int32))]) (rest := [.int (1 : Int32), .int v4]) r259_71 rfl rfl rfl (by decide) (Nat.le_of_ble_eq_true rfl) (hrec _ _ _ _ h13) hdr (Nat.zero_le _) (Nat.zero_le _) rfl ?_
            refine x_ar r259_74 rfl trivial rfl ?_
            refine x_sp r259_75 rfl rfl rfl rfl rfl rfl trivial rfl ?_
            obtain ⟨x14, e15, h7⟩ := am_ltE h7
            refine am_topI e15 ?_
            refine x_sto (lc' := [.ref 105, .int v1, .int v2, .int v3, .int x14, .int v5, .int x3, .int x10]) r259_78 rfl rfl rfl rfl ?_
            refine x_forget (lc0 := [.ref 105, .int v1, .int v2, .int v3, .int x14, .int v5, .int x3, am_dead]) ⟨Or.inl rfl, Or.inl rfl, Or.inl rfl, Or.inl rfl, Or.inl rfl, Or.inl rfl, Or.inl rfl, Or.inr ⟨rfl, rfl⟩, trivial⟩ ?_
            cases h7
            exact kj6
theorem m259b_w {d mc ms : Nat} {N : Nat} {D : am_D} {v1 : Int32} {v2 : Int32} {v3 : Int32} {rec : Int32 → Int32 → Int32 → Option Int32} {dr : Nat} (hrec : ∀ (v1 v2 v3 r : Int32), rec v1 v2 v3 = some r → am_Y xs L 259 dr 0 0 [.ref 105, .int v1, .int v2, .int v3] D (.inl (some (.int r))) D) (hdr : dr + 1 ≤ d) {Q : am_O → am_AH → Prop} (hd : 3 ≤ d) {r : Int32} (h : m259b rec N D v1 v2 v3 = some r) (hQ : Q (.inl (some (.int r))) (am_mk D)) : am_X xs L 259 d mc ms 0 [.ref 105, .int v1, .int v2, .int v3, am_dead, am_dead, am_dead, am_dead] [] (am_mk D) 0 0 Q := by
  unfold m259b at h
  refine x_ic (v := 0) r259_0 rfl rfl ?_
  refine x_sto (lc' := [.ref 105, .int v1, .int v2, .int v3, .int (0 : Int32), am_dead, am_dead, am_dead]) r259_1 rfl rfl rfl rfl ?_
  refine x_ic (v := 0) r259_3 rfl rfl ?_
  refine x_sto (lc' := [.ref 105, .int v1, .int v2, .int v3, .int (0 : Int32), .int (0 : Int32), am_dead, am_dead]) r259_4 rfl rfl rfl rfl ?_
  obtain ⟨q18, h19, h⟩ := Option.bind_eq_some_iff.mp h
  refine x_forget (lc0 := [.ref 105, .int v1, .int v2, .int v3, .int (0 : Int32), .int (0 : Int32), am_dead, am_dead]) ⟨Or.inl rfl, Or.inl rfl, Or.inl rfl, Or.inl rfl, Or.inl rfl, Or.inl rfl, Or.inl rfl, Or.inl rfl, trivial⟩ (m259b_L6_w hrec hdr hd N (0 : Int32) (0 : Int32) h19 ?_)
  refine x_ld (v := .int q18) r259_86 rfl rfl rfl ?_
  cases h
  exact x_ret (ret := some .int) (C := True) (v := some (.int _)) r259_88 rt259 rfl rfl rfl rfl rfl rfl rfl rfl trivial hQ
theorem m259b_ok {d : Nat} {N : Nat} {D : am_D} {v1 : Int32} {v2 : Int32} {v3 : Int32} {rec : Int32 → Int32 → Int32 → Option Int32} {dr : Nat} (hrec : ∀ (v1 v2 v3 r : Int32), rec v1 v2 v3 = some r → am_Y xs L 259 dr 0 0 [.ref 105, .int v1, .int v2, .int v3] D (.inl (some (.int r))) D) (hdr : dr + 1 ≤ d) (hd : 3 ≤ d) {r : Int32} (h : m259b rec N D v1 v2 v3 = some r) : am_Y xs L 259 d 0 0 [.ref 105, .int v1, .int v2, .int v3] D (.inl (some (.int r))) D := am_Yof (mi := am_m259) (lc := [.ref 105, .int v1, .int v2, .int v3, am_dead, am_dead, am_dead, am_dead]) pg259 (Nat.le_of_ble_eq_true rfl) (am_rc0 rfl) rfl (fun Q hQ => m259b_w hrec hdr hd h hQ)
theorem m259r_ok {N : Nat} {D : am_D} : ∀ (n : Nat) (v1 v2 v3 r : Int32), m259r N D n v1 v2 v3 = some r → am_Y xs L 259 (3 + n) 0 0 [.ref 105, .int v1, .int v2, .int v3] D (.inl (some (.int r))) D
  | 0, v1, v2, v3, r, h => nomatch (show none = some r from h)
  | n + 1, v1, v2, v3, r, h => m259b_ok (dr := 3 + n) (m259r_ok n) (by omega) (by omega) (show m259b (m259r N D n) N D v1 v2 v3 = some r from h)
theorem m259_ok {N : Nat} {D : am_D} {v1 v2 v3 r : Int32} (h : m259 N D v1 v2 v3 = some r) : am_Y xs L 259 13 0 0 [.ref 105, .int v1, .int v2, .int v3] D (.inl (some (.int r))) D := m259r_ok 10 v1 v2 v3 r h
theorem r1_0 : am_at 1 0 = some (.iload_n 1, 1, [1]) := by decide +kernel
theorem r1_1 : am_at 1 1 = some (.invokestatic 58, 3, [40, 1, 516, 0]) := by decide +kernel
theorem r1_4 : am_at 1 4 = some (.ifCond .eq (10), 3, [14]) := by decide +kernel
theorem r1_7 : am_at 1 7 = some (.iload_n 2, 1, [2]) := by decide +kernel
theorem r1_8 : am_at 1 8 = some (.invokestatic 62, 3, [41, 1, 460, 0]) := by decide +kernel
theorem r1_11 : am_at 1 11 = some (.ifCond .ne (13), 3, [24]) := by decide +kernel
theorem r1_14 : am_at 1 14 = some (.new 65, 3, [9, 1, 0, 67, 69, 463, 34, 11, 473]) := by decide +kernel
theorem r1_24 : am_at 1 24 = some (.aload_n 0, 1, [0]) := by decide +kernel
theorem r1_25 : am_at 1 25 = some (.getfield 10, 3, [7, 0, 3, 257]) := by decide +kernel
theorem r1_28 : am_at 1 28 = some (.iload_n 1, 1, [1]) := by decide +kernel
theorem r1_29 : am_at 1 29 = some (.iload_n 2, 1, [2]) := by decide +kernel
theorem r1_30 : am_at 1 30 = some (.invokevirtual 72, 3, [212, 3, 618, 0]) := by decide +kernel
theorem r1_33 : am_at 1 33 = some (.ifCond .ne (13), 3, [46]) := by decide +kernel
theorem r1_36 : am_at 1 36 = some (.new 76, 3, [9, 3, 0, 78, 80, 308, 38, 12, 350]) := by decide +kernel
theorem r1_46 : am_at 1 46 = some (.aload_n 0, 1, [0]) := by decide +kernel
theorem r1_47 : am_at 1 47 = some (.getfield 22, 3, [7, 2, 3, 259]) := by decide +kernel
theorem r1_50 : am_at 1 50 = some (.aload_n 0, 1, [0]) := by decide +kernel
theorem r1_51 : am_at 1 51 = some (.getfield 10, 3, [7, 0, 3, 257]) := by decide +kernel
theorem r1_54 : am_at 1 54 = some (.invokevirtual 81, 3, [168, 2, 572, 0]) := by decide +kernel
theorem r1_57 : am_at 1 57 = some (.aload_n 0, 1, [0]) := by decide +kernel
theorem r1_58 : am_at 1 58 = some (.getfield 10, 3, [7, 0, 3, 257]) := by decide +kernel
theorem r1_61 : am_at 1 61 = some (.iload_n 1, 1, [1]) := by decide +kernel
theorem r1_62 : am_at 1 62 = some (.iload_n 2, 1, [2]) := by decide +kernel
theorem r1_63 : am_at 1 63 = some (.invokevirtual 85, 3, [213, 3, 624, 0]) := by decide +kernel
theorem r1_66 : am_at 1 66 = some (.aload_n 0, 1, [0]) := by decide +kernel
theorem r1_67 : am_at 1 67 = some (.getfield 10, 3, [7, 0, 3, 257]) := by decide +kernel
theorem r1_70 : am_at 1 70 = some (.iload_n 1, 1, [1]) := by decide +kernel
theorem r1_71 : am_at 1 71 = some (.invokevirtual 89, 3, [204, 2, 419, 0]) := by decide +kernel
theorem r1_74 : am_at 1 74 = some (.ireturn, 1, []) := by decide +kernel
theorem rt1 : am_rtt 1 = some (some .int) := by decide +kernel
set_option maxRecDepth 100000 in
theorem pg1 : am_pg[1]? = some am_m1 := rfl
theorem m1_w {d mc ms : Nat} {N : Nat} {D : am_D} {v1 : Int32} {v2 : Int32} {Q : am_O → am_AH → Prop} (hd : 5 ≤ d) {r : (Int32 ⊕ Nat) × am_D} (h : m1 N D v1 v2 = some r) (hE : ∀ E, r.1 = .inr E → 0 + 1 ≤ mc ∧ 0 + 6 ≤ ms) (hQ : Q (am_oI r.1) (am_mk r.2)) : am_X xs L 1 d mc ms 0 [.ref 0, .int v1, .int v2] [] (am_mk D) 0 0 Q := by
  unfold m1 at h
  refine x_ld (v := .int v1) r1_0 rfl rfl rfl ?_
  refine x_call1 (as := [.int v1]) (rest := []) r1_1 rfl rfl rfl (by decide) (Nat.le_of_ble_eq_true rfl) (m40_ok rfl) (Nat.le_trans (by decide) hd) (Nat.zero_le _) (Nat.zero_le _) rfl ?_
  rcases am_ifE h with ⟨c1, h⟩ | ⟨c1, h⟩
  · refine x_ifeqT r1_4 c1 ?_
    cases h
    exact x_thr r1_14 (hE _ rfl).1 (hE _ rfl).2 (Nat.le_of_ble_eq_true rfl) hQ
  · refine x_ifeqF r1_4 c1 rfl ?_
    refine x_ld (v := .int v2) r1_7 rfl rfl rfl ?_
    refine x_call1 (as := [.int v2]) (rest := []) r1_8 rfl rfl rfl (by decide) (Nat.le_of_ble_eq_true rfl) (m41_ok rfl) (Nat.le_trans (by decide) hd) (Nat.zero_le _) (Nat.zero_le _) rfl ?_
    rcases am_ifE h with ⟨c2, h⟩ | ⟨c2, h⟩
    · refine x_ifneT r1_11 c2 rfl ?_
      cases h
      exact x_thr r1_14 (hE _ rfl).1 (hE _ rfl).2 (Nat.le_of_ble_eq_true rfl) hQ
    · refine x_ifneF r1_11 c2 ?_
      refine x_ld (v := .ref 0) r1_24 rfl rfl rfl ?_
      refine y_gf (cd := 3) (v := .ref 1) r1_25 rfl rfl rfl ?_
      refine x_ld (v := .int v1) r1_28 rfl rfl rfl ?_
      refine x_ld (v := .int v2) r1_29 rfl rfl rfl ?_
      obtain ⟨q3, h4, h⟩ := Option.bind_eq_some_iff.mp h
      refine x_call1 (as := [.ref 1, .int v1, .int v2]) (rest := []) r1_30 rfl rfl rfl (by decide) (Nat.le_of_ble_eq_true rfl) (m212_ok h4) (Nat.le_trans (by decide) hd) (Nat.zero_le _) (Nat.zero_le _) rfl ?_
      rcases am_ifE h with ⟨c5, h⟩ | ⟨c5, h⟩
      · refine x_ifneT r1_33 c5 rfl ?_
        cases h
        exact x_thr r1_36 (hE _ rfl).1 (hE _ rfl).2 (Nat.le_of_ble_eq_true rfl) hQ
      · refine x_ifneF r1_33 c5 ?_
        refine x_ld (v := .ref 0) r1_46 rfl rfl rfl ?_
        refine y_gf (cd := 25) (v := .ref 23) r1_47 rfl rfl rfl ?_
        refine x_ld (v := .ref 0) r1_50 rfl rfl rfl ?_
        refine y_gf (cd := 3) (v := .ref 1) r1_51 rfl rfl rfl ?_
        obtain ⟨q6, h7, h⟩ := Option.bind_eq_some_iff.mp h
        refine x_call0 (as := [.ref 23, .ref 1]) (rest := []) r1_54 rfl rfl rfl (by decide) (Nat.le_of_ble_eq_true rfl) (m168_ok h7) (Nat.le_trans (by decide) hd) (Nat.zero_le _) (Nat.zero_le _) rfl ?_
        refine x_ld (v := .ref 0) r1_57 rfl rfl rfl ?_
        refine y_gf (cd := 3) (v := .ref 1) r1_58 rfl rfl rfl ?_
        refine x_ld (v := .int v1) r1_61 rfl rfl rfl ?_
        refine x_ld (v := .int v2) r1_62 rfl rfl rfl ?_
        obtain ⟨q8, h9, h⟩ := am_ltE h
        replace h9 := h9.symm
        refine x_call0 (as := [.ref 1, .int v1, .int v2]) (rest := []) r1_63 rfl rfl rfl (by decide) (Nat.le_of_ble_eq_true rfl) (m213_ok h9) (Nat.le_trans (by decide) hd) (Nat.zero_le _) (Nat.zero_le _) rfl ?_
        refine x_ld (v := .ref 0) r1_66 rfl rfl rfl ?_
        refine y_gf (cd := 3) (v := .ref 1) r1_67 rfl rfl rfl ?_
        refine x_ld (v := .int v1) r1_70 rfl rfl rfl ?_
        obtain ⟨q10, h11, h⟩ := Option.bind_eq_some_iff.mp h
        refine x_call1 (as := [.ref 1, .int v1]) (rest := []) r1_71 rfl rfl rfl (by decide) (Nat.le_of_ble_eq_true rfl) (m204_ok h11) (Nat.le_trans (by decide) hd) (Nat.zero_le _) (Nat.zero_le _) rfl ?_
        cases h
        exact x_ret (ret := some .int) (C := True) (v := some (.int _)) r1_74 rt1 rfl rfl rfl rfl rfl rfl rfl rfl trivial hQ
theorem m1_okv {N : Nat} {D : am_D} {v1 : Int32} {v2 : Int32} {r : (Int32 ⊕ Nat) × am_D} {v : Int32} (h : m1 N D v1 v2 = some r) (hv : am_inl r.1 = some v) : am_Y xs L 1 5 0 0 [.ref 0, .int v1, .int v2] D (.inl (some (.int v))) r.2 := am_Yof (mi := am_m1) (lc := [.ref 0, .int v1, .int v2]) pg1 (Nat.le_of_ble_eq_true rfl) (am_rc1 (ci := 7) rfl rfl rfl rfl rfl) rfl (fun Q hQ => m1_w (Nat.le_refl _) h (fun E e => by rw [e] at hv; cases hv) (by rw [am_inlE hv]; exact hQ))
theorem m1_exv {N : Nat} {D : am_D} {v1 : Int32} {v2 : Int32} {r : (Int32 ⊕ Nat) × am_D} {E : Nat} (h : m1 N D v1 v2 = some r) (hv : r.1 = .inr E) : am_Y xs L 1 5 1 6 [.ref 0, .int v1, .int v2] D (.inr E) r.2 := am_Yof (mi := am_m1) (lc := [.ref 0, .int v1, .int v2]) pg1 (Nat.le_of_ble_eq_true rfl) (am_rc1 (ci := 7) rfl rfl rfl rfl rfl) rfl (fun Q hQ => m1_w (Nat.le_refl _) h (fun E e => ⟨Nat.le_refl _, Nat.le_refl _⟩) (by rw [hv]; exact hQ))
theorem r4_0 : am_at 4 0 = some (.aload_n 0, 1, [0]) := by decide +kernel
theorem r4_1 : am_at 4 1 = some (.getfield 10, 3, [7, 0, 3, 257]) := by decide +kernel
theorem r4_4 : am_at 4 4 = some (.getfield 98, 3, [4, 6, 0, 101]) := by decide +kernel
theorem r4_7 : am_at 4 7 = some (.iconst (1), 1, []) := by decide +kernel
theorem r4_8 : am_at 4 8 = some (.if_icmp .ne (13), 3, [21]) := by decide +kernel
theorem r4_11 : am_at 4 11 = some (.new 76, 3, [9, 3, 0, 122, 80, 308, 38, 9, 350]) := by decide +kernel
theorem r4_21 : am_at 4 21 = some (.aload_n 0, 1, [0]) := by decide +kernel
theorem r4_22 : am_at 4 22 = some (.getfield 22, 3, [7, 2, 3, 259]) := by decide +kernel
theorem r4_25 : am_at 4 25 = some (.aload_n 0, 1, [0]) := by decide +kernel
theorem r4_26 : am_at 4 26 = some (.getfield 10, 3, [7, 0, 3, 257]) := by decide +kernel
theorem r4_29 : am_at 4 29 = some (.invokevirtual 81, 3, [168, 2, 572, 0]) := by decide +kernel
theorem r4_32 : am_at 4 32 = some (.aload_n 0, 1, [0]) := by decide +kernel
theorem r4_33 : am_at 4 33 = some (.getfield 10, 3, [7, 0, 3, 257]) := by decide +kernel
theorem r4_36 : am_at 4 36 = some (.invokevirtual 124, 3, [218, 1, 581, 0]) := by decide +kernel
theorem r4_39 : am_at 4 39 = some (.ireturn, 1, []) := by decide +kernel
theorem rt4 : am_rtt 4 = some (some .int) := by decide +kernel
set_option maxRecDepth 100000 in
theorem pg4 : am_pg[4]? = some am_m4 := rfl
theorem m4_w {d mc ms : Nat} {N : Nat} {D : am_D} {Q : am_O → am_AH → Prop} (hd : 5 ≤ d) {r : (Int32 ⊕ Nat) × am_D} (h : m4 N D = some r) (hE : ∀ E, r.1 = .inr E → 0 + 1 ≤ mc ∧ 0 + 6 ≤ ms) (hQ : Q (am_oI r.1) (am_mk r.2)) : am_X xs L 4 d mc ms 0 [.ref 0] [] (am_mk D) 0 0 Q := by
  unfold m4 at h
  refine x_ld (v := .ref 0) r4_0 rfl rfl rfl ?_
  refine y_gf (cd := 3) (v := .ref 1) r4_1 rfl rfl rfl ?_
  refine y_gf (cd := 0) (v := .int (D.1 1 6)) r4_4 rfl rfl rfl ?_
  refine x_ic (v := 1) r4_7 rfl rfl ?_
  rcases am_ifE h with ⟨c1, h⟩ | ⟨c1, h⟩
  · refine x_icneT r4_8 c1 rfl ?_
    cases h
    exact x_thr r4_11 (hE _ rfl).1 (hE _ rfl).2 (Nat.le_of_ble_eq_true rfl) hQ
  · refine x_icneF r4_8 c1 ?_
    refine x_ld (v := .ref 0) r4_21 rfl rfl rfl ?_
    refine y_gf (cd := 25) (v := .ref 23) r4_22 rfl rfl rfl ?_
    refine x_ld (v := .ref 0) r4_25 rfl rfl rfl ?_
    refine y_gf (cd := 3) (v := .ref 1) r4_26 rfl rfl rfl ?_
    obtain ⟨q2, h3, h⟩ := Option.bind_eq_some_iff.mp h
    refine x_call0 (as := [.ref 23, .ref 1]) (rest := []) r4_29 rfl rfl rfl (by decide) (Nat.le_of_ble_eq_true rfl) (m168_ok h3) (Nat.le_trans (by decide) hd) (Nat.zero_le _) (Nat.zero_le _) rfl ?_
    refine x_ld (v := .ref 0) r4_32 rfl rfl rfl ?_
    refine y_gf (cd := 3) (v := .ref 1) r4_33 rfl rfl rfl ?_
    obtain ⟨q4, h5, h⟩ := Option.bind_eq_some_iff.mp h
    refine x_call1 (as := [.ref 1]) (rest := []) r4_36 rfl rfl rfl (by decide) (Nat.le_of_ble_eq_true rfl) (m218_ok h5) (Nat.le_trans (by decide) hd) (Nat.zero_le _) (Nat.zero_le _) rfl ?_
    cases h
    exact x_ret (ret := some .int) (C := True) (v := some (.int _)) r4_39 rt4 rfl rfl rfl rfl rfl rfl rfl rfl trivial hQ
theorem m4_okv {N : Nat} {D : am_D} {r : (Int32 ⊕ Nat) × am_D} {v : Int32} (h : m4 N D = some r) (hv : am_inl r.1 = some v) : am_Y xs L 4 5 0 0 [.ref 0] D (.inl (some (.int v))) r.2 := am_Yof (mi := am_m4) (lc := [.ref 0]) pg4 (Nat.le_of_ble_eq_true rfl) (am_rc1 (ci := 7) rfl rfl rfl rfl rfl) rfl (fun Q hQ => m4_w (Nat.le_refl _) h (fun E e => by rw [e] at hv; cases hv) (by rw [am_inlE hv]; exact hQ))
theorem m4_exv {N : Nat} {D : am_D} {r : (Int32 ⊕ Nat) × am_D} {E : Nat} (h : m4 N D = some r) (hv : r.1 = .inr E) : am_Y xs L 4 5 1 6 [.ref 0] D (.inr E) r.2 := am_Yof (mi := am_m4) (lc := [.ref 0]) pg4 (Nat.le_of_ble_eq_true rfl) (am_rc1 (ci := 7) rfl rfl rfl rfl rfl) rfl (fun Q hQ => m4_w (Nat.le_refl _) h (fun E e => ⟨Nat.le_refl _, Nat.le_refl _⟩) (by rw [hv]; exact hQ))
theorem r7_0 : am_at 7 0 = some (.iload_n 1, 1, [1]) := by decide +kernel
theorem r7_1 : am_at 7 1 = some (.invokestatic 128, 3, [43, 1, 651, 0]) := by decide +kernel
theorem r7_4 : am_at 7 4 = some (.ifCond .ne (13), 3, [17]) := by decide +kernel
theorem r7_7 : am_at 7 7 = some (.new 93, 3, [9, 2, 0, 150, 97, 427, 36, 19, 437]) := by decide +kernel
theorem r7_17 : am_at 7 17 = some (.aload_n 0, 1, [0]) := by decide +kernel
theorem r7_18 : am_at 7 18 = some (.getfield 10, 3, [7, 0, 3, 257]) := by decide +kernel
theorem r7_21 : am_at 7 21 = some (.getfield 98, 3, [4, 6, 0, 101]) := by decide +kernel
theorem r7_24 : am_at 7 24 = some (.iconst (1), 1, []) := by decide +kernel
theorem r7_25 : am_at 7 25 = some (.if_icmp .eq (13), 3, [38]) := by decide +kernel
theorem r7_28 : am_at 7 28 = some (.new 76, 3, [9, 3, 0, 152, 80, 308, 38, 17, 350]) := by decide +kernel
theorem r7_38 : am_at 7 38 = some (.aload_n 0, 1, [0]) := by decide +kernel
theorem r7_39 : am_at 7 39 = some (.getfield 22, 3, [7, 2, 3, 259]) := by decide +kernel
theorem r7_42 : am_at 7 42 = some (.aload_n 0, 1, [0]) := by decide +kernel
theorem r7_43 : am_at 7 43 = some (.getfield 10, 3, [7, 0, 3, 257]) := by decide +kernel
theorem r7_46 : am_at 7 46 = some (.invokevirtual 81, 3, [168, 2, 572, 0]) := by decide +kernel
theorem r7_49 : am_at 7 49 = some (.aload_n 0, 1, [0]) := by decide +kernel
theorem r7_50 : am_at 7 50 = some (.getfield 10, 3, [7, 0, 3, 257]) := by decide +kernel
theorem r7_53 : am_at 7 53 = some (.iload_n 1, 1, [1]) := by decide +kernel
theorem r7_54 : am_at 7 54 = some (.invokevirtual 154, 3, [228, 2, 717, 0]) := by decide +kernel
theorem r7_57 : am_at 7 57 = some (.ireturn, 1, []) := by decide +kernel
theorem rt7 : am_rtt 7 = some (some .int) := by decide +kernel
set_option maxRecDepth 100000 in
theorem pg7 : am_pg[7]? = some am_m7 := rfl
theorem m7_w {d mc ms : Nat} {D : am_D} {v1 : Int32} {Q : am_O → am_AH → Prop} (hd : 5 ≤ d) {r : (Int32 ⊕ Nat) × am_D} (h : m7 D v1 = some r) (hE : ∀ E, r.1 = .inr E → 0 + 1 ≤ mc ∧ 0 + 6 ≤ ms) (hQ : Q (am_oI r.1) (am_mk r.2)) : am_X xs L 7 d mc ms 0 [.ref 0, .int v1] [] (am_mk D) 0 0 Q := by
  unfold m7 at h
  refine x_ld (v := .int v1) r7_0 rfl rfl rfl ?_
  refine x_call1 (as := [.int v1]) (rest := []) r7_1 rfl rfl rfl (by decide) (Nat.le_of_ble_eq_true rfl) (m43_ok rfl) (Nat.le_trans (by decide) hd) (Nat.zero_le _) (Nat.zero_le _) rfl ?_
  rcases am_ifE h with ⟨c1, h⟩ | ⟨c1, h⟩
  · refine x_ifneT r7_4 c1 rfl ?_
    cases h
    exact x_thr r7_7 (hE _ rfl).1 (hE _ rfl).2 (Nat.le_of_ble_eq_true rfl) hQ
  · refine x_ifneF r7_4 c1 ?_
    refine x_ld (v := .ref 0) r7_17 rfl rfl rfl ?_
    refine y_gf (cd := 3) (v := .ref 1) r7_18 rfl rfl rfl ?_
    refine y_gf (cd := 0) (v := .int (D.1 1 6)) r7_21 rfl rfl rfl ?_
    refine x_ic (v := 1) r7_24 rfl rfl ?_
    rcases am_ifE h with ⟨c2, h⟩ | ⟨c2, h⟩
    · refine x_iceqT r7_25 c2 ?_
      refine x_ld (v := .ref 0) r7_38 rfl rfl rfl ?_
      refine y_gf (cd := 25) (v := .ref 23) r7_39 rfl rfl rfl ?_
      refine x_ld (v := .ref 0) r7_42 rfl rfl rfl ?_
      refine y_gf (cd := 3) (v := .ref 1) r7_43 rfl rfl rfl ?_
      obtain ⟨q3, h4, h⟩ := Option.bind_eq_some_iff.mp h
      refine x_call0 (as := [.ref 23, .ref 1]) (rest := []) r7_46 rfl rfl rfl (by decide) (Nat.le_of_ble_eq_true rfl) (m168_ok h4) (Nat.le_trans (by decide) hd) (Nat.zero_le _) (Nat.zero_le _) rfl ?_
      refine x_ld (v := .ref 0) r7_49 rfl rfl rfl ?_
      refine y_gf (cd := 3) (v := .ref 1) r7_50 rfl rfl rfl ?_
      refine x_ld (v := .int v1) r7_53 rfl rfl rfl ?_
      obtain ⟨q5, h6, h⟩ := am_ltE h
      replace h6 := h6.symm
      refine x_call1 (as := [.ref 1, .int v1]) (rest := []) r7_54 rfl rfl rfl (by decide) (Nat.le_of_ble_eq_true rfl) (m228_ok h6) (Nat.le_trans (by decide) hd) (Nat.zero_le _) (Nat.zero_le _) rfl ?_
      cases h
      exact x_ret (ret := some .int) (C := True) (v := some (.int _)) r7_57 rt7 rfl rfl rfl rfl rfl rfl rfl rfl trivial hQ
    · refine x_iceqF r7_25 c2 rfl ?_
      cases h
      exact x_thr r7_28 (hE _ rfl).1 (hE _ rfl).2 (Nat.le_of_ble_eq_true rfl) hQ
theorem m7_okv {D : am_D} {v1 : Int32} {r : (Int32 ⊕ Nat) × am_D} {v : Int32} (h : m7 D v1 = some r) (hv : am_inl r.1 = some v) : am_Y xs L 7 5 0 0 [.ref 0, .int v1] D (.inl (some (.int v))) r.2 := am_Yof (mi := am_m7) (lc := [.ref 0, .int v1]) pg7 (Nat.le_of_ble_eq_true rfl) (am_rc1 (ci := 7) rfl rfl rfl rfl rfl) rfl (fun Q hQ => m7_w (Nat.le_refl _) h (fun E e => by rw [e] at hv; cases hv) (by rw [am_inlE hv]; exact hQ))
theorem m7_exv {D : am_D} {v1 : Int32} {r : (Int32 ⊕ Nat) × am_D} {E : Nat} (h : m7 D v1 = some r) (hv : r.1 = .inr E) : am_Y xs L 7 5 1 6 [.ref 0, .int v1] D (.inr E) r.2 := am_Yof (mi := am_m7) (lc := [.ref 0, .int v1]) pg7 (Nat.le_of_ble_eq_true rfl) (am_rc1 (ci := 7) rfl rfl rfl rfl rfl) rfl (fun Q hQ => m7_w (Nat.le_refl _) h (fun E e => ⟨Nat.le_refl _, Nat.le_refl _⟩) (by rw [hv]; exact hQ))
theorem r8_0 : am_at 8 0 = some (.iload_n 1, 1, [1]) := by decide +kernel
theorem r8_1 : am_at 8 1 = some (.iconst (1), 1, []) := by decide +kernel
theorem r8_2 : am_at 8 2 = some (.if_icmp .lt (9), 3, [11]) := by decide +kernel
theorem r8_5 : am_at 8 5 = some (.iload_n 1, 1, [1]) := by decide +kernel
theorem r8_6 : am_at 8 6 = some (.bipush (99), 2, []) := by decide +kernel
theorem r8_8 : am_at 8 8 = some (.if_icmp .le (13), 3, [21]) := by decide +kernel
theorem r8_11 : am_at 8 11 = some (.new 93, 3, [9, 2, 0, 157, 97, 427, 36, 16, 437]) := by decide +kernel
theorem r8_21 : am_at 8 21 = some (.aload_n 0, 1, [0]) := by decide +kernel
theorem r8_22 : am_at 8 22 = some (.getfield 10, 3, [7, 0, 3, 257]) := by decide +kernel
theorem r8_25 : am_at 8 25 = some (.getfield 98, 3, [4, 6, 0, 101]) := by decide +kernel
theorem r8_28 : am_at 8 28 = some (.iconst (1), 1, []) := by decide +kernel
theorem r8_29 : am_at 8 29 = some (.if_icmp .eq (13), 3, [42]) := by decide +kernel
theorem r8_32 : am_at 8 32 = some (.new 76, 3, [9, 3, 0, 152, 80, 308, 38, 17, 350]) := by decide +kernel
theorem r8_42 : am_at 8 42 = some (.aload_n 0, 1, [0]) := by decide +kernel
theorem r8_43 : am_at 8 43 = some (.getfield 22, 3, [7, 2, 3, 259]) := by decide +kernel
theorem r8_46 : am_at 8 46 = some (.aload_n 0, 1, [0]) := by decide +kernel
theorem r8_47 : am_at 8 47 = some (.getfield 10, 3, [7, 0, 3, 257]) := by decide +kernel
theorem r8_50 : am_at 8 50 = some (.invokevirtual 81, 3, [168, 2, 572, 0]) := by decide +kernel
theorem r8_53 : am_at 8 53 = some (.aload_n 0, 1, [0]) := by decide +kernel
theorem r8_54 : am_at 8 54 = some (.getfield 10, 3, [7, 0, 3, 257]) := by decide +kernel
theorem r8_57 : am_at 8 57 = some (.iload_n 1, 1, [1]) := by decide +kernel
theorem r8_58 : am_at 8 58 = some (.invokevirtual 159, 3, [229, 2, 702, 0]) := by decide +kernel
theorem r8_61 : am_at 8 61 = some (.ireturn, 1, []) := by decide +kernel
theorem rt8 : am_rtt 8 = some (some .int) := by decide +kernel
set_option maxRecDepth 100000 in
theorem pg8 : am_pg[8]? = some am_m8 := rfl
theorem m8_w {d mc ms : Nat} {D : am_D} {v1 : Int32} {Q : am_O → am_AH → Prop} (hd : 5 ≤ d) {r : (Int32 ⊕ Nat) × am_D} (h : m8 D v1 = some r) (hE : ∀ E, r.1 = .inr E → 0 + 1 ≤ mc ∧ 0 + 6 ≤ ms) (hQ : Q (am_oI r.1) (am_mk r.2)) : am_X xs L 8 d mc ms 0 [.ref 0, .int v1] [] (am_mk D) 0 0 Q := by
  unfold m8 at h
  refine x_ld (v := .int v1) r8_0 rfl rfl rfl ?_
  refine x_ic (v := 1) r8_1 rfl rfl ?_
  rcases am_ifE h with ⟨c1, h⟩ | ⟨c1, h⟩
  · refine x_icltT r8_2 c1 ?_
    cases h
    exact x_thr r8_11 (hE _ rfl).1 (hE _ rfl).2 (Nat.le_of_ble_eq_true rfl) hQ
  · refine x_icltF r8_2 c1 rfl ?_
    refine x_ld (v := .int v1) r8_5 rfl rfl rfl ?_
    refine x_bi (v := 99) r8_6 rfl rfl ?_
    rcases am_ifE h with ⟨c2, h⟩ | ⟨c2, h⟩
    · refine x_icleT r8_8 c2 ?_
      refine x_ld (v := .ref 0) r8_21 rfl rfl rfl ?_
      refine y_gf (cd := 3) (v := .ref 1) r8_22 rfl rfl rfl ?_
      refine y_gf (cd := 0) (v := .int (D.1 1 6)) r8_25 rfl rfl rfl ?_
      refine x_ic (v := 1) r8_28 rfl rfl ?_
      rcases am_ifE h with ⟨c3, h⟩ | ⟨c3, h⟩
      · refine x_iceqT r8_29 c3 ?_
        refine x_ld (v := .ref 0) r8_42 rfl rfl rfl ?_
        refine y_gf (cd := 25) (v := .ref 23) r8_43 rfl rfl rfl ?_
        refine x_ld (v := .ref 0) r8_46 rfl rfl rfl ?_
        refine y_gf (cd := 3) (v := .ref 1) r8_47 rfl rfl rfl ?_
        obtain ⟨q4, h5, h⟩ := Option.bind_eq_some_iff.mp h
        refine x_call0 (as := [.ref 23, .ref 1]) (rest := []) r8_50 rfl rfl rfl (by decide) (Nat.le_of_ble_eq_true rfl) (m168_ok h5) (Nat.le_trans (by decide) hd) (Nat.zero_le _) (Nat.zero_le _) rfl ?_
        refine x_ld (v := .ref 0) r8_53 rfl rfl rfl ?_
        refine y_gf (cd := 3) (v := .ref 1) r8_54 rfl rfl rfl ?_
        refine x_ld (v := .int v1) r8_57 rfl rfl rfl ?_
        obtain ⟨q6, h7, h⟩ := am_ltE h
        replace h7 := h7.symm
        refine x_call1 (as := [.ref 1, .int v1]) (rest := []) r8_58 rfl rfl rfl (by decide) (Nat.le_of_ble_eq_true rfl) (m229_ok h7) (Nat.le_trans (by decide) hd) (Nat.zero_le _) (Nat.zero_le _) rfl ?_
        cases h
        exact x_ret (ret := some .int) (C := True) (v := some (.int _)) r8_61 rt8 rfl rfl rfl rfl rfl rfl rfl rfl trivial hQ
      · refine x_iceqF r8_29 c3 rfl ?_
        cases h
        exact x_thr r8_32 (hE _ rfl).1 (hE _ rfl).2 (Nat.le_of_ble_eq_true rfl) hQ
    · refine x_icleF r8_8 c2 rfl ?_
      cases h
      exact x_thr r8_11 (hE _ rfl).1 (hE _ rfl).2 (Nat.le_of_ble_eq_true rfl) hQ
theorem m8_okv {D : am_D} {v1 : Int32} {r : (Int32 ⊕ Nat) × am_D} {v : Int32} (h : m8 D v1 = some r) (hv : am_inl r.1 = some v) : am_Y xs L 8 5 0 0 [.ref 0, .int v1] D (.inl (some (.int v))) r.2 := am_Yof (mi := am_m8) (lc := [.ref 0, .int v1]) pg8 (Nat.le_of_ble_eq_true rfl) (am_rc1 (ci := 7) rfl rfl rfl rfl rfl) rfl (fun Q hQ => m8_w (Nat.le_refl _) h (fun E e => by rw [e] at hv; cases hv) (by rw [am_inlE hv]; exact hQ))
theorem m8_exv {D : am_D} {v1 : Int32} {r : (Int32 ⊕ Nat) × am_D} {E : Nat} (h : m8 D v1 = some r) (hv : r.1 = .inr E) : am_Y xs L 8 5 1 6 [.ref 0, .int v1] D (.inr E) r.2 := am_Yof (mi := am_m8) (lc := [.ref 0, .int v1]) pg8 (Nat.le_of_ble_eq_true rfl) (am_rc1 (ci := 7) rfl rfl rfl rfl rfl) rfl (fun Q hQ => m8_w (Nat.le_refl _) h (fun E e => ⟨Nat.le_refl _, Nat.le_refl _⟩) (by rw [hv]; exact hQ))
theorem r9_0 : am_at 9 0 = some (.iload_n 1, 1, [1]) := by decide +kernel
theorem r9_1 : am_at 9 1 = some (.iconst (1), 1, []) := by decide +kernel
theorem r9_2 : am_at 9 2 = some (.if_icmp .lt (9), 3, [11]) := by decide +kernel
theorem r9_5 : am_at 9 5 = some (.iload_n 1, 1, [1]) := by decide +kernel
theorem r9_6 : am_at 9 6 = some (.bipush (60), 2, []) := by decide +kernel
theorem r9_8 : am_at 9 8 = some (.if_icmp .le (13), 3, [21]) := by decide +kernel
theorem r9_11 : am_at 9 11 = some (.new 93, 3, [9, 2, 0, 162, 97, 427, 36, 8, 437]) := by decide +kernel
theorem r9_21 : am_at 9 21 = some (.aload_n 0, 1, [0]) := by decide +kernel
theorem r9_22 : am_at 9 22 = some (.getfield 22, 3, [7, 2, 3, 259]) := by decide +kernel
theorem r9_25 : am_at 9 25 = some (.aload_n 0, 1, [0]) := by decide +kernel
theorem r9_26 : am_at 9 26 = some (.getfield 10, 3, [7, 0, 3, 257]) := by decide +kernel
theorem r9_29 : am_at 9 29 = some (.invokevirtual 81, 3, [168, 2, 572, 0]) := by decide +kernel
theorem r9_32 : am_at 9 32 = some (.aload_n 0, 1, [0]) := by decide +kernel
theorem r9_33 : am_at 9 33 = some (.getfield 10, 3, [7, 0, 3, 257]) := by decide +kernel
theorem r9_36 : am_at 9 36 = some (.getfield 164, 3, [4, 10, 0, 110]) := by decide +kernel
theorem r9_39 : am_at 9 39 = some (.istore_n 2, 1, [2]) := by decide +kernel
theorem r9_40 : am_at 9 40 = some (.aload_n 0, 1, [0]) := by decide +kernel
theorem r9_41 : am_at 9 41 = some (.getfield 10, 3, [7, 0, 3, 257]) := by decide +kernel
theorem r9_44 : am_at 9 44 = some (.iload_n 1, 1, [1]) := by decide +kernel
theorem r9_45 : am_at 9 45 = some (.putfield 164, 3, [4, 10, 0, 110]) := by decide +kernel
theorem r9_48 : am_at 9 48 = some (.iload_n 2, 1, [2]) := by decide +kernel
theorem r9_49 : am_at 9 49 = some (.ireturn, 1, []) := by decide +kernel
theorem rt9 : am_rtt 9 = some (some .int) := by decide +kernel
set_option maxRecDepth 100000 in
theorem pg9 : am_pg[9]? = some am_m9 := rfl
theorem m9_w {d mc ms : Nat} {D : am_D} {v1 : Int32} {Q : am_O → am_AH → Prop} (hd : 5 ≤ d) {r : (Int32 ⊕ Nat) × am_D} (h : m9 D v1 = some r) (hE : ∀ E, r.1 = .inr E → 0 + 1 ≤ mc ∧ 0 + 6 ≤ ms) (hQ : Q (am_oI r.1) (am_mk r.2)) : am_X xs L 9 d mc ms 0 [.ref 0, .int v1, am_dead] [] (am_mk D) 0 0 Q := by
  unfold m9 at h
  refine x_ld (v := .int v1) r9_0 rfl rfl rfl ?_
  refine x_ic (v := 1) r9_1 rfl rfl ?_
  rcases am_ifE h with ⟨c1, h⟩ | ⟨c1, h⟩
  · refine x_icltT r9_2 c1 ?_
    cases h
    exact x_thr r9_11 (hE _ rfl).1 (hE _ rfl).2 (Nat.le_of_ble_eq_true rfl) hQ
  · refine x_icltF r9_2 c1 rfl ?_
    refine x_ld (v := .int v1) r9_5 rfl rfl rfl ?_
    refine x_bi (v := 60) r9_6 rfl rfl ?_
    rcases am_ifE h with ⟨c2, h⟩ | ⟨c2, h⟩
    · refine x_icleT r9_8 c2 ?_
      refine x_ld (v := .ref 0) r9_21 rfl rfl rfl ?_
      refine y_gf (cd := 25) (v := .ref 23) r9_22 rfl rfl rfl ?_
      refine x_ld (v := .ref 0) r9_25 rfl rfl rfl ?_
      refine y_gf (cd := 3) (v := .ref 1) r9_26 rfl rfl rfl ?_
      obtain ⟨q3, h4, h⟩ := Option.bind_eq_some_iff.mp h
      refine x_call0 (as := [.ref 23, .ref 1]) (rest := []) r9_29 rfl rfl rfl (by decide) (Nat.le_of_ble_eq_true rfl) (m168_ok h4) (Nat.le_trans (by decide) hd) (Nat.zero_le _) (Nat.zero_le _) rfl ?_
      refine x_ld (v := .ref 0) r9_32 rfl rfl rfl ?_
      refine y_gf (cd := 3) (v := .ref 1) r9_33 rfl rfl rfl ?_
      refine y_gf (cd := 0) (v := .int (q3.1 1 10)) r9_36 rfl rfl rfl ?_
      obtain ⟨x5, e6, h⟩ := am_ltE h
      refine am_topI e6 ?_
      refine x_sto (lc' := [.ref 0, .int v1, .int x5]) r9_39 rfl rfl rfl rfl ?_
      refine x_ld (v := .ref 0) r9_40 rfl rfl rfl ?_
      refine y_gf (cd := 3) (v := .ref 1) r9_41 rfl rfl rfl ?_
      refine x_ld (v := .int v1) r9_44 rfl rfl rfl ?_
      obtain ⟨D7, e8, h⟩ := am_ltE h
      refine y_pf0 r9_45 rfl e8 rfl ?_
      refine x_ld (v := .int x5) r9_48 rfl rfl rfl ?_
      cases h
      exact x_ret (ret := some .int) (C := True) (v := some (.int _)) r9_49 rt9 rfl rfl rfl rfl rfl rfl rfl rfl trivial hQ
    · refine x_icleF r9_8 c2 rfl ?_
      cases h
      exact x_thr r9_11 (hE _ rfl).1 (hE _ rfl).2 (Nat.le_of_ble_eq_true rfl) hQ
theorem m9_okv {D : am_D} {v1 : Int32} {r : (Int32 ⊕ Nat) × am_D} {v : Int32} (h : m9 D v1 = some r) (hv : am_inl r.1 = some v) : am_Y xs L 9 5 0 0 [.ref 0, .int v1] D (.inl (some (.int v))) r.2 := am_Yof (mi := am_m9) (lc := [.ref 0, .int v1, am_dead]) pg9 (Nat.le_of_ble_eq_true rfl) (am_rc1 (ci := 7) rfl rfl rfl rfl rfl) rfl (fun Q hQ => m9_w (Nat.le_refl _) h (fun E e => by rw [e] at hv; cases hv) (by rw [am_inlE hv]; exact hQ))
theorem m9_exv {D : am_D} {v1 : Int32} {r : (Int32 ⊕ Nat) × am_D} {E : Nat} (h : m9 D v1 = some r) (hv : r.1 = .inr E) : am_Y xs L 9 5 1 6 [.ref 0, .int v1] D (.inr E) r.2 := am_Yof (mi := am_m9) (lc := [.ref 0, .int v1, am_dead]) pg9 (Nat.le_of_ble_eq_true rfl) (am_rc1 (ci := 7) rfl rfl rfl rfl rfl) rfl (fun Q hQ => m9_w (Nat.le_refl _) h (fun E e => ⟨Nat.le_refl _, Nat.le_refl _⟩) (by rw [hv]; exact hQ))
theorem m152_2_13_w {d mc ms : Nat} {D : am_D} {Q : am_O → am_AH → Prop} (hd : 2 ≤ d) {r : am_D} (h : m152_2_13 D = r) (hQ : Q (.inl none) (am_mk r)) : am_X xs L 152 d mc ms 0 [.ref 2, .ref 13] [] (am_mk D) 0 0 Q := by
  unfold m152_2_13 at h
  refine x_ld (v := .ref 13) r152_0 rfl rfl rfl ?_
  refine y_gf (cd := 16) (v := .ref 14) r152_1 rfl rfl rfl ?_
  refine x_ld (v := .ref 2) r152_4 rfl rfl rfl ?_
  refine y_gf (cd := 5) (v := .ref 3) r152_5 rfl rfl rfl ?_
  obtain ⟨D1, e2, h⟩ := am_ltE h
  refine x_call0 (as := [.ref 14, .ref 3]) (rest := []) r152_8 rfl rfl rfl (by decide) (Nat.le_of_ble_eq_true rfl) (am_rows_copy (n := 28) (m := 28) rfl rfl (by decide) (by decide) e2) (Nat.le_trans (by decide) hd) (Nat.zero_le _) (Nat.zero_le _) rfl ?_
  refine x_ld (v := .ref 13) r152_11 rfl rfl rfl ?_
  refine y_gf (cd := 17) (v := .ref 15) r152_12 rfl rfl rfl ?_
  refine x_ld (v := .ref 2) r152_15 rfl rfl rfl ?_
  refine y_gf (cd := 6) (v := .ref 4) r152_16 rfl rfl rfl ?_
  obtain ⟨D3, e4, h⟩ := am_ltE h
  refine x_call0 (as := [.ref 15, .ref 4]) (rest := []) r152_19 rfl rfl rfl (by decide) (Nat.le_of_ble_eq_true rfl) (am_rows_copy (n := 28) (m := 28) rfl rfl (by decide) (by decide) e4) (Nat.le_trans (by decide) hd) (Nat.zero_le _) (Nat.zero_le _) rfl ?_
  refine x_ld (v := .ref 13) r152_22 rfl rfl rfl ?_
  refine y_gf (cd := 18) (v := .ref 16) r152_23 rfl rfl rfl ?_
  refine x_ld (v := .ref 2) r152_26 rfl rfl rfl ?_
  refine y_gf (cd := 7) (v := .ref 5) r152_27 rfl rfl rfl ?_
  obtain ⟨D5, e6, h⟩ := am_ltE h
  refine x_call0 (as := [.ref 16, .ref 5]) (rest := []) r152_30 rfl rfl rfl (by decide) (Nat.le_of_ble_eq_true rfl) (am_rows_copy (n := 28) (m := 28) rfl rfl (by decide) (by decide) e6) (Nat.le_trans (by decide) hd) (Nat.zero_le _) (Nat.zero_le _) rfl ?_
  refine x_ld (v := .ref 13) r152_33 rfl rfl rfl ?_
  refine y_gf (cd := 19) (v := .ref 17) r152_34 rfl rfl rfl ?_
  refine x_ld (v := .ref 2) r152_37 rfl rfl rfl ?_
  refine y_gf (cd := 8) (v := .ref 6) r152_38 rfl rfl rfl ?_
  obtain ⟨D7, e8, h⟩ := am_ltE h
  refine x_call0 (as := [.ref 17, .ref 6]) (rest := []) r152_41 rfl rfl rfl (by decide) (Nat.le_of_ble_eq_true rfl) (am_rows_copy (n := 28) (m := 28) rfl rfl (by decide) (by decide) e8) (Nat.le_trans (by decide) hd) (Nat.zero_le _) (Nat.zero_le _) rfl ?_
  refine x_ld (v := .ref 2) r152_44 rfl rfl rfl ?_
  refine x_ld (v := .ref 13) r152_45 rfl rfl rfl ?_
  refine y_gf (cd := 0) (v := .int (D7.1 13 4)) r152_46 rfl rfl rfl ?_
  obtain ⟨D9, e10, h⟩ := am_ltE h
  refine y_pf0 r152_49 rfl e10 rfl ?_
  refine x_ld (v := .ref 2) r152_52 rfl rfl rfl ?_
  refine x_ld (v := .ref 13) r152_53 rfl rfl rfl ?_
  refine y_gf (cd := 0) (v := .int (D9.1 13 5)) r152_54 rfl rfl rfl ?_
  obtain ⟨D11, e12, h⟩ := am_ltE h
  refine y_pf0 r152_57 rfl e12 rfl ?_
  refine x_ld (v := .ref 2) r152_60 rfl rfl rfl ?_
  refine x_ld (v := .ref 13) r152_61 rfl rfl rfl ?_
  refine y_gf (cd := 0) (v := .int (D11.1 13 6)) r152_62 rfl rfl rfl ?_
  obtain ⟨D13, e14, h⟩ := am_ltE h
  refine y_pf0 r152_65 rfl e14 rfl ?_
  subst h
  exact x_ret (ret := none) (C := True) (v := none) r152_68 rt152 rfl rfl rfl rfl rfl rfl rfl rfl trivial hQ
theorem m152_2_13_ok {D : am_D} {r : am_D} (h : m152_2_13 D = r) : am_Y xs L 152 2 0 0 [.ref 2, .ref 13] D (.inl none) r := am_Yof (mi := am_m152) (lc := [.ref 2, .ref 13]) pg152 (Nat.le_of_ble_eq_true rfl) (am_rc1 (ci := 0) rfl rfl rfl rfl rfl) rfl (fun Q hQ => m152_2_13_w (Nat.le_refl _) h hQ)
theorem m202_1_12_w {d mc ms : Nat} {D : am_D} {Q : am_O → am_AH → Prop} (hd : 3 ≤ d) {r : am_D} (h : m202_1_12 D = r) (hQ : Q (.inl none) (am_mk r)) : am_X xs L 202 d mc ms 0 [.ref 1, .ref 12] [] (am_mk D) 0 0 Q := by
  unfold m202_1_12 at h
  refine x_ld (v := .ref 1) r202_0 rfl rfl rfl ?_
  refine y_gf (cd := 4) (v := .ref 2) r202_1 rfl rfl rfl ?_
  refine x_ld (v := .ref 12) r202_4 rfl rfl rfl ?_
  refine y_gf (cd := 15) (v := .ref 13) r202_5 rfl rfl rfl ?_
  obtain ⟨q1, h2, h⟩ := am_ltE h
  replace h2 := h2.symm
  refine x_call0 (as := [.ref 2, .ref 13]) (rest := []) r202_8 rfl rfl rfl (by decide) (Nat.le_of_ble_eq_true rfl) (m152_2_13_ok h2) (Nat.le_trans (by decide) hd) (Nat.zero_le _) (Nat.zero_le _) rfl ?_
  refine x_ld (v := .ref 12) r202_11 rfl rfl rfl ?_
  refine y_gf (cd := 20) (v := .ref 18) r202_12 rfl rfl rfl ?_
  refine x_ld (v := .ref 1) r202_15 rfl rfl rfl ?_
  refine y_gf (cd := 9) (v := .ref 7) r202_16 rfl rfl rfl ?_
  obtain ⟨D3, e4, h⟩ := am_ltE h
  refine x_call0 (as := [.ref 18, .ref 7]) (rest := []) r202_19 rfl rfl rfl (by decide) (Nat.le_of_ble_eq_true rfl) (am_rows_copy (n := 28) (m := 28) rfl rfl (by decide) (by decide) e4) (Nat.le_trans (by decide) hd) (Nat.zero_le _) (Nat.zero_le _) rfl ?_
  refine x_ld (v := .ref 12) r202_22 rfl rfl rfl ?_
  refine y_gf (cd := 21) (v := .ref 19) r202_23 rfl rfl rfl ?_
  refine x_ld (v := .ref 1) r202_26 rfl rfl rfl ?_
  refine y_gf (cd := 10) (v := .ref 8) r202_27 rfl rfl rfl ?_
  obtain ⟨D5, e6, h⟩ := am_ltE h
  refine x_call0 (as := [.ref 19, .ref 8]) (rest := []) r202_30 rfl rfl rfl (by decide) (Nat.le_of_ble_eq_true rfl) (am_rows_copy (n := 4) (m := 4) rfl rfl (by decide) (by decide) e6) (Nat.le_trans (by decide) hd) (Nat.zero_le _) (Nat.zero_le _) rfl ?_
  refine x_ld (v := .ref 12) r202_33 rfl rfl rfl ?_
  refine y_gf (cd := 22) (v := .ref 20) r202_34 rfl rfl rfl ?_
  refine x_ld (v := .ref 1) r202_37 rfl rfl rfl ?_
  refine y_gf (cd := 11) (v := .ref 9) r202_38 rfl rfl rfl ?_
  obtain ⟨D7, e8, h⟩ := am_ltE h
  refine x_call0 (as := [.ref 20, .ref 9]) (rest := []) r202_41 rfl rfl rfl (by decide) (Nat.le_of_ble_eq_true rfl) (am_rows_copy (n := 4) (m := 4) rfl rfl (by decide) (by decide) e8) (Nat.le_trans (by decide) hd) (Nat.zero_le _) (Nat.zero_le _) rfl ?_
  refine x_ld (v := .ref 12) r202_44 rfl rfl rfl ?_
  refine y_gf (cd := 23) (v := .ref 21) r202_45 rfl rfl rfl ?_
  refine x_ld (v := .ref 1) r202_48 rfl rfl rfl ?_
  refine y_gf (cd := 12) (v := .ref 10) r202_49 rfl rfl rfl ?_
  obtain ⟨D9, e10, h⟩ := am_ltE h
  refine x_call0 (as := [.ref 21, .ref 10]) (rest := []) r202_52 rfl rfl rfl (by decide) (Nat.le_of_ble_eq_true rfl) (am_rows_copy (n := 4) (m := 4) rfl rfl (by decide) (by decide) e10) (Nat.le_trans (by decide) hd) (Nat.zero_le _) (Nat.zero_le _) rfl ?_
  refine x_ld (v := .ref 12) r202_55 rfl rfl rfl ?_
  refine y_gf (cd := 24) (v := .ref 22) r202_56 rfl rfl rfl ?_
  refine x_ld (v := .ref 1) r202_59 rfl rfl rfl ?_
  refine y_gf (cd := 13) (v := .ref 11) r202_60 rfl rfl rfl ?_
  obtain ⟨D11, e12, h⟩ := am_ltE h
  refine x_call0 (as := [.ref 22, .ref 11]) (rest := []) r202_63 rfl rfl rfl (by decide) (Nat.le_of_ble_eq_true rfl) (am_rows_copy (n := 2) (m := 2) rfl rfl (by decide) (by decide) e12) (Nat.le_trans (by decide) hd) (Nat.zero_le _) (Nat.zero_le _) rfl ?_
  refine x_ld (v := .ref 1) r202_66 rfl rfl rfl ?_
  refine x_ld (v := .ref 12) r202_67 rfl rfl rfl ?_
  refine y_gf (cd := 0) (v := .int (D11.1 12 6)) r202_68 rfl rfl rfl ?_
  obtain ⟨D13, e14, h⟩ := am_ltE h
  refine y_pf0 r202_71 rfl e14 rfl ?_
  refine x_ld (v := .ref 1) r202_74 rfl rfl rfl ?_
  refine x_ld (v := .ref 12) r202_75 rfl rfl rfl ?_
  refine y_gf (cd := 0) (v := .int (D13.1 12 7)) r202_76 rfl rfl rfl ?_
  obtain ⟨D15, e16, h⟩ := am_ltE h
  refine y_pf0 r202_79 rfl e16 rfl ?_
  refine x_ld (v := .ref 1) r202_82 rfl rfl rfl ?_
  refine x_ld (v := .ref 12) r202_83 rfl rfl rfl ?_
  refine y_gf (cd := 0) (v := .int (D15.1 12 8)) r202_84 rfl rfl rfl ?_
  obtain ⟨D17, e18, h⟩ := am_ltE h
  refine y_pf0 r202_87 rfl e18 rfl ?_
  refine x_ld (v := .ref 1) r202_90 rfl rfl rfl ?_
  refine x_ld (v := .ref 12) r202_91 rfl rfl rfl ?_
  refine y_gf (cd := 0) (v := .int (D17.1 12 9)) r202_92 rfl rfl rfl ?_
  obtain ⟨D19, e20, h⟩ := am_ltE h
  refine y_pf0 r202_95 rfl e20 rfl ?_
  refine x_ld (v := .ref 1) r202_98 rfl rfl rfl ?_
  refine x_ld (v := .ref 12) r202_99 rfl rfl rfl ?_
  refine y_gf (cd := 0) (v := .int (D19.1 12 10)) r202_100 rfl rfl rfl ?_
  obtain ⟨D21, e22, h⟩ := am_ltE h
  refine y_pf0 r202_103 rfl e22 rfl ?_
  refine x_ld (v := .ref 1) r202_106 rfl rfl rfl ?_
  refine x_ld (v := .ref 12) r202_107 rfl rfl rfl ?_
  refine y_gf (cd := 0) (v := .int (D21.1 12 11)) r202_108 rfl rfl rfl ?_
  obtain ⟨D23, e24, h⟩ := am_ltE h
  refine y_pf0 r202_111 rfl e24 rfl ?_
  refine x_ld (v := .ref 1) r202_114 rfl rfl rfl ?_
  refine x_ld (v := .ref 12) r202_115 rfl rfl rfl ?_
  refine y_gf (cd := 0) (v := .int (D23.1 12 12)) r202_116 rfl rfl rfl ?_
  obtain ⟨D25, e26, h⟩ := am_ltE h
  refine y_pf0 r202_119 rfl e26 rfl ?_
  refine x_ld (v := .ref 1) r202_122 rfl rfl rfl ?_
  refine x_ld (v := .ref 12) r202_123 rfl rfl rfl ?_
  refine y_gf (cd := 0) (v := .int (D25.1 12 13)) r202_124 rfl rfl rfl ?_
  obtain ⟨D27, e28, h⟩ := am_ltE h
  refine y_pf0 r202_127 rfl e28 rfl ?_
  refine x_ld (v := .ref 1) r202_130 rfl rfl rfl ?_
  refine x_ld (v := .ref 12) r202_131 rfl rfl rfl ?_
  refine y_gf (cd := 0) (v := .int (D27.1 12 14)) r202_132 rfl rfl rfl ?_
  obtain ⟨D29, e30, h⟩ := am_ltE h
  refine y_pf0 r202_135 rfl e30 rfl ?_
  refine x_ld (v := .ref 1) r202_138 rfl rfl rfl ?_
  refine x_ld (v := .ref 12) r202_139 rfl rfl rfl ?_
  refine y_gf (cd := 0) (v := .int (D29.1 12 15)) r202_140 rfl rfl rfl ?_
  obtain ⟨D31, e32, h⟩ := am_ltE h
  refine y_pf0 r202_143 rfl e32 rfl ?_
  subst h
  exact x_ret (ret := none) (C := True) (v := none) r202_146 rt202 rfl rfl rfl rfl rfl rfl rfl rfl trivial hQ
theorem m202_1_12_ok {D : am_D} {r : am_D} (h : m202_1_12 D = r) : am_Y xs L 202 3 0 0 [.ref 1, .ref 12] D (.inl none) r := am_Yof (mi := am_m202) (lc := [.ref 1, .ref 12]) pg202 (Nat.le_of_ble_eq_true rfl) (am_rc1 (ci := 4) rfl rfl rfl rfl rfl) rfl (fun Q hQ => m202_1_12_w (Nat.le_refl _) h hQ)
theorem r16_0 : am_at 16 0 = some (.aload_n 0, 1, [0]) := by decide +kernel
theorem r16_1 : am_at 16 1 = some (.getfield 54, 3, [7, 7, 2, 264]) := by decide +kernel
theorem r16_4 : am_at 16 4 = some (.ifCond .ne (13), 3, [17]) := by decide +kernel
theorem r16_7 : am_at 16 7 = some (.new 76, 3, [9, 3, 0, 219, 80, 308, 38, 18, 350]) := by decide +kernel
theorem r16_17 : am_at 16 17 = some (.aload_n 0, 1, [0]) := by decide +kernel
theorem r16_18 : am_at 16 18 = some (.getfield 22, 3, [7, 2, 3, 259]) := by decide +kernel
theorem r16_21 : am_at 16 21 = some (.aload_n 0, 1, [0]) := by decide +kernel
theorem r16_22 : am_at 16 22 = some (.getfield 10, 3, [7, 0, 3, 257]) := by decide +kernel
theorem r16_25 : am_at 16 25 = some (.invokevirtual 81, 3, [168, 2, 572, 0]) := by decide +kernel
theorem r16_28 : am_at 16 28 = some (.aload_n 0, 1, [0]) := by decide +kernel
theorem r16_29 : am_at 16 29 = some (.getfield 10, 3, [7, 0, 3, 257]) := by decide +kernel
theorem r16_32 : am_at 16 32 = some (.aload_n 0, 1, [0]) := by decide +kernel
theorem r16_33 : am_at 16 33 = some (.getfield 16, 3, [7, 1, 3, 258]) := by decide +kernel
theorem r16_36 : am_at 16 36 = some (.invokevirtual 207, 3, [202, 2, 286, 0]) := by decide +kernel
theorem r16_39 : am_at 16 39 = some (.aload_n 0, 1, [0]) := by decide +kernel
theorem r16_40 : am_at 16 40 = some (.getfield 10, 3, [7, 0, 3, 257]) := by decide +kernel
theorem r16_43 : am_at 16 43 = some (.getfield 210, 3, [4, 0, 3, 89]) := by decide +kernel
theorem r16_46 : am_at 16 46 = some (.getfield 214, 3, [0, 4, 0, 68]) := by decide +kernel
theorem r16_49 : am_at 16 49 = some (.ireturn, 1, []) := by decide +kernel
theorem rt16 : am_rtt 16 = some (some .int) := by decide +kernel
set_option maxRecDepth 100000 in
theorem pg16 : am_pg[16]? = some am_m16 := rfl
theorem m16_w {d mc ms : Nat} {D : am_D} {Q : am_O → am_AH → Prop} (hd : 5 ≤ d) {r : (Int32 ⊕ Nat) × am_D} (h : m16 D = some r) (hE : ∀ E, r.1 = .inr E → 0 + 1 ≤ mc ∧ 0 + 6 ≤ ms) (hQ : Q (am_oI r.1) (am_mk r.2)) : am_X xs L 16 d mc ms 0 [.ref 0] [] (am_mk D) 0 0 Q := by
  unfold m16 at h
  refine x_ld (v := .ref 0) r16_0 rfl rfl rfl ?_
  refine y_gf (cd := 0) (v := .int (D.1 0 7)) r16_1 rfl rfl rfl ?_
  rcases am_ifE h with ⟨c1, h⟩ | ⟨c1, h⟩
  · refine x_ifneT r16_4 c1 rfl ?_
    cases h
    exact x_thr r16_7 (hE _ rfl).1 (hE _ rfl).2 (Nat.le_of_ble_eq_true rfl) hQ
  · refine x_ifneF r16_4 c1 ?_
    refine x_ld (v := .ref 0) r16_17 rfl rfl rfl ?_
    refine y_gf (cd := 25) (v := .ref 23) r16_18 rfl rfl rfl ?_
    refine x_ld (v := .ref 0) r16_21 rfl rfl rfl ?_
    refine y_gf (cd := 3) (v := .ref 1) r16_22 rfl rfl rfl ?_
    obtain ⟨q2, h3, h⟩ := Option.bind_eq_some_iff.mp h
    refine x_call0 (as := [.ref 23, .ref 1]) (rest := []) r16_25 rfl rfl rfl (by decide) (Nat.le_of_ble_eq_true rfl) (m168_ok h3) (Nat.le_trans (by decide) hd) (Nat.zero_le _) (Nat.zero_le _) rfl ?_
    refine x_ld (v := .ref 0) r16_28 rfl rfl rfl ?_
    refine y_gf (cd := 3) (v := .ref 1) r16_29 rfl rfl rfl ?_
    refine x_ld (v := .ref 0) r16_32 rfl rfl rfl ?_
    refine y_gf (cd := 14) (v := .ref 12) r16_33 rfl rfl rfl ?_
    obtain ⟨q4, h5, h⟩ := am_ltE h
    replace h5 := h5.symm
    refine x_call0 (as := [.ref 1, .ref 12]) (rest := []) r16_36 rfl rfl rfl (by decide) (Nat.le_of_ble_eq_true rfl) (m202_1_12_ok h5) (Nat.le_trans (by decide) hd) (Nat.zero_le _) (Nat.zero_le _) rfl ?_
    refine x_ld (v := .ref 0) r16_39 rfl rfl rfl ?_
    refine y_gf (cd := 3) (v := .ref 1) r16_40 rfl rfl rfl ?_
    refine y_gf (cd := 4) (v := .ref 2) r16_43 rfl rfl rfl ?_
    refine y_gf (cd := 0) (v := .int (q4.1 2 4)) r16_46 rfl rfl rfl ?_
    cases h
    exact x_ret (ret := some .int) (C := True) (v := some (.int _)) r16_49 rt16 rfl rfl rfl rfl rfl rfl rfl rfl trivial hQ
theorem m16_okv {D : am_D} {r : (Int32 ⊕ Nat) × am_D} {v : Int32} (h : m16 D = some r) (hv : am_inl r.1 = some v) : am_Y xs L 16 5 0 0 [.ref 0] D (.inl (some (.int v))) r.2 := am_Yof (mi := am_m16) (lc := [.ref 0]) pg16 (Nat.le_of_ble_eq_true rfl) (am_rc1 (ci := 7) rfl rfl rfl rfl rfl) rfl (fun Q hQ => m16_w (Nat.le_refl _) h (fun E e => by rw [e] at hv; cases hv) (by rw [am_inlE hv]; exact hQ))
theorem m16_exv {D : am_D} {r : (Int32 ⊕ Nat) × am_D} {E : Nat} (h : m16 D = some r) (hv : r.1 = .inr E) : am_Y xs L 16 5 1 6 [.ref 0] D (.inr E) r.2 := am_Yof (mi := am_m16) (lc := [.ref 0]) pg16 (Nat.le_of_ble_eq_true rfl) (am_rc1 (ci := 7) rfl rfl rfl rfl rfl) rfl (fun Q hQ => m16_w (Nat.le_refl _) h (fun E e => ⟨Nat.le_refl _, Nat.le_refl _⟩) (by rw [hv]; exact hQ))
theorem r17_0 : am_at 17 0 = some (.aload_n 0, 1, [0]) := by decide +kernel
theorem r17_1 : am_at 17 1 = some (.getfield 22, 3, [7, 2, 3, 259]) := by decide +kernel
theorem r17_4 : am_at 17 4 = some (.getfield 221, 3, [1, 2, 0, 167]) := by decide +kernel
theorem r17_7 : am_at 17 7 = some (.ifCond .ne (13), 3, [20]) := by decide +kernel
theorem r17_10 : am_at 17 10 = some (.new 76, 3, [9, 3, 0, 224, 80, 308, 38, 0, 350]) := by decide +kernel
theorem r17_20 : am_at 17 20 = some (.aload_n 0, 1, [0]) := by decide +kernel
theorem r17_21 : am_at 17 21 = some (.getfield 22, 3, [7, 2, 3, 259]) := by decide +kernel
theorem r17_24 : am_at 17 24 = some (.aload_n 0, 1, [0]) := by decide +kernel
theorem r17_25 : am_at 17 25 = some (.getfield 10, 3, [7, 0, 3, 257]) := by decide +kernel
theorem r17_28 : am_at 17 28 = some (.invokevirtual 226, 3, [169, 2, 376, 0]) := by decide +kernel
theorem r17_31 : am_at 17 31 = some (.aload_n 0, 1, [0]) := by decide +kernel
theorem r17_32 : am_at 17 32 = some (.getfield 22, 3, [7, 2, 3, 259]) := by decide +kernel
theorem r17_35 : am_at 17 35 = some (.getfield 221, 3, [1, 2, 0, 167]) := by decide +kernel
theorem r17_38 : am_at 17 38 = some (.ireturn, 1, []) := by decide +kernel
theorem rt17 : am_rtt 17 = some (some .int) := by decide +kernel
set_option maxRecDepth 100000 in
theorem pg17 : am_pg[17]? = some am_m17 := rfl
theorem m17_w {d mc ms : Nat} {D : am_D} {Q : am_O → am_AH → Prop} (hd : 5 ≤ d) {r : (Int32 ⊕ Nat) × am_D} (h : m17 D = some r) (hE : ∀ E, r.1 = .inr E → 0 + 1 ≤ mc ∧ 0 + 6 ≤ ms) (hQ : Q (am_oI r.1) (am_mk r.2)) : am_X xs L 17 d mc ms 0 [.ref 0] [] (am_mk D) 0 0 Q := by
  unfold m17 at h
  refine x_ld (v := .ref 0) r17_0 rfl rfl rfl ?_
  refine y_gf (cd := 25) (v := .ref 23) r17_1 rfl rfl rfl ?_
  refine y_gf (cd := 0) (v := .int (D.1 23 2)) r17_4 rfl rfl rfl ?_
  rcases am_ifE h with ⟨c1, h⟩ | ⟨c1, h⟩
  · refine x_ifneT r17_7 c1 rfl ?_
    cases h
    exact x_thr r17_10 (hE _ rfl).1 (hE _ rfl).2 (Nat.le_of_ble_eq_true rfl) hQ
  · refine x_ifneF r17_7 c1 ?_
    refine x_ld (v := .ref 0) r17_20 rfl rfl rfl ?_
    refine y_gf (cd := 25) (v := .ref 23) r17_21 rfl rfl rfl ?_
    refine x_ld (v := .ref 0) r17_24 rfl rfl rfl ?_
    refine y_gf (cd := 3) (v := .ref 1) r17_25 rfl rfl rfl ?_
    obtain ⟨q2, h3, h⟩ := Option.bind_eq_some_iff.mp h
    refine x_call0 (as := [.ref 23, .ref 1]) (rest := []) r17_28 rfl rfl rfl (by decide) (Nat.le_of_ble_eq_true rfl) (m169_ok h3) (Nat.le_trans (by decide) hd) (Nat.zero_le _) (Nat.zero_le _) rfl ?_
    refine x_ld (v := .ref 0) r17_31 rfl rfl rfl ?_
    refine y_gf (cd := 25) (v := .ref 23) r17_32 rfl rfl rfl ?_
    refine y_gf (cd := 0) (v := .int (q2.1 23 2)) r17_35 rfl rfl rfl ?_
    cases h
    exact x_ret (ret := some .int) (C := True) (v := some (.int _)) r17_38 rt17 rfl rfl rfl rfl rfl rfl rfl rfl trivial hQ
theorem m17_okv {D : am_D} {r : (Int32 ⊕ Nat) × am_D} {v : Int32} (h : m17 D = some r) (hv : am_inl r.1 = some v) : am_Y xs L 17 5 0 0 [.ref 0] D (.inl (some (.int v))) r.2 := am_Yof (mi := am_m17) (lc := [.ref 0]) pg17 (Nat.le_of_ble_eq_true rfl) (am_rc1 (ci := 7) rfl rfl rfl rfl rfl) rfl (fun Q hQ => m17_w (Nat.le_refl _) h (fun E e => by rw [e] at hv; cases hv) (by rw [am_inlE hv]; exact hQ))
theorem m17_exv {D : am_D} {r : (Int32 ⊕ Nat) × am_D} {E : Nat} (h : m17 D = some r) (hv : r.1 = .inr E) : am_Y xs L 17 5 1 6 [.ref 0] D (.inr E) r.2 := am_Yof (mi := am_m17) (lc := [.ref 0]) pg17 (Nat.le_of_ble_eq_true rfl) (am_rc1 (ci := 7) rfl rfl rfl rfl rfl) rfl (fun Q hQ => m17_w (Nat.le_refl _) h (fun E e => ⟨Nat.le_refl _, Nat.le_refl _⟩) (by rw [hv]; exact hQ))
theorem r19_0 : am_at 19 0 = some (.iload_n 1, 1, [1]) := by decide +kernel
theorem r19_1 : am_at 19 1 = some (.invokestatic 261, 3, [42, 1, 785, 0]) := by decide +kernel
theorem r19_4 : am_at 19 4 = some (.ifCond .eq (10), 3, [14]) := by decide +kernel
theorem r19_7 : am_at 19 7 = some (.iload_n 2, 1, [2]) := by decide +kernel
theorem r19_8 : am_at 19 8 = some (.invokestatic 261, 3, [42, 1, 785, 0]) := by decide +kernel
theorem r19_11 : am_at 19 11 = some (.ifCond .ne (14), 3, [25]) := by decide +kernel
theorem r19_14 : am_at 19 14 = some (.new 65, 3, [9, 1, 1, 264, 69, 463, 34, 23, 473]) := by decide +kernel
theorem r19_25 : am_at 19 25 = some (.iload_n 1, 1, [1]) := by decide +kernel
theorem r19_26 : am_at 19 26 = some (.iload_n 2, 1, [2]) := by decide +kernel
theorem r19_27 : am_at 19 27 = some (.invokestatic 266, 3, [254, 2, 789, 0]) := by decide +kernel
theorem r19_30 : am_at 19 30 = some (.ireturn, 1, []) := by decide +kernel
theorem rt19 : am_rtt 19 = some (some .int) := by decide +kernel
set_option maxRecDepth 100000 in
theorem pg19 : am_pg[19]? = some am_m19 := rfl
theorem m19_w {d mc ms : Nat} {D : am_D} {v1 : Int32} {v2 : Int32} {Q : am_O → am_AH → Prop} (hd : 2 ≤ d) {r : (Int32 ⊕ Nat)} (h : m19 v1 v2 = r) (hE : ∀ E, r = .inr E → 0 + 1 ≤ mc ∧ 0 + 6 ≤ ms) (hQ : Q (am_oI r) (am_mk D)) : am_X xs L 19 d mc ms 0 [.ref 0, .int v1, .int v2] [] (am_mk D) 0 0 Q := by
  unfold m19 at h
  refine x_ld (v := .int v1) r19_0 rfl rfl rfl ?_
  refine x_call1 (as := [.int v1]) (rest := []) r19_1 rfl rfl rfl (by decide) (Nat.le_of_ble_eq_true rfl) (m42_ok rfl) (Nat.le_trans (by decide) hd) (Nat.zero_le _) (Nat.zero_le _) rfl ?_
  rcases am_ifE h with ⟨c1, h⟩ | ⟨c1, h⟩
  · refine x_ifeqT r19_4 c1 ?_
    subst h
    exact x_thr r19_14 (hE _ rfl).1 (hE _ rfl).2 (Nat.le_of_ble_eq_true rfl) hQ
  · refine x_ifeqF r19_4 c1 rfl ?_
    refine x_ld (v := .int v2) r19_7 rfl rfl rfl ?_
    refine x_call1 (as := [.int v2]) (rest := []) r19_8 rfl rfl rfl (by decide) (Nat.le_of_ble_eq_true rfl) (m42_ok rfl) (Nat.le_trans (by decide) hd) (Nat.zero_le _) (Nat.zero_le _) rfl ?_
    rcases am_ifE h with ⟨c2, h⟩ | ⟨c2, h⟩
    · refine x_ifneT r19_11 c2 rfl ?_
      subst h
      exact x_thr r19_14 (hE _ rfl).1 (hE _ rfl).2 (Nat.le_of_ble_eq_true rfl) hQ
    · refine x_ifneF r19_11 c2 ?_
      refine x_ld (v := .int v1) r19_25 rfl rfl rfl ?_
      refine x_ld (v := .int v2) r19_26 rfl rfl rfl ?_
      refine x_call1 (as := [.int v1, .int v2]) (rest := []) r19_27 rfl rfl rfl (by decide) (Nat.le_of_ble_eq_true rfl) (m254_ok rfl) (Nat.le_trans (by decide) hd) (Nat.zero_le _) (Nat.zero_le _) rfl ?_
      subst h
      exact x_ret (ret := some .int) (C := True) (v := some (.int _)) r19_30 rt19 rfl rfl rfl rfl rfl rfl rfl rfl trivial hQ
theorem m19_okv {D : am_D} {v1 : Int32} {v2 : Int32} {r : (Int32 ⊕ Nat)} {v : Int32} (h : m19 v1 v2 = r) (hv : am_inl r = some v) : am_Y xs L 19 2 0 0 [.ref 0, .int v1, .int v2] D (.inl (some (.int v))) D := am_Yof (mi := am_m19) (lc := [.ref 0, .int v1, .int v2]) pg19 (Nat.le_of_ble_eq_true rfl) (am_rc1 (ci := 7) rfl rfl rfl rfl rfl) rfl (fun Q hQ => m19_w (Nat.le_refl _) h (fun E e => by rw [e] at hv; cases hv) (by rw [am_inlE hv]; exact hQ))
theorem m19_exv {D : am_D} {v1 : Int32} {v2 : Int32} {r : (Int32 ⊕ Nat)} {E : Nat} (h : m19 v1 v2 = r) (hv : r = .inr E) : am_Y xs L 19 2 1 6 [.ref 0, .int v1, .int v2] D (.inr E) D := am_Yof (mi := am_m19) (lc := [.ref 0, .int v1, .int v2]) pg19 (Nat.le_of_ble_eq_true rfl) (am_rc1 (ci := 7) rfl rfl rfl rfl rfl) rfl (fun Q hQ => m19_w (Nat.le_refl _) h (fun E e => ⟨Nat.le_refl _, Nat.le_refl _⟩) (by rw [hv]; exact hQ))
theorem r155_0 : am_at 155 0 = some (.aload_n 0, 1, [0]) := by decide +kernel
theorem r155_1 : am_at 155 1 = some (.getfield 9, 3, [0, 0, 3, 59]) := by decide +kernel
theorem r155_4 : am_at 155 4 = some (.iload_n 1, 1, [1]) := by decide +kernel
theorem r155_5 : am_at 155 5 = some (.invokestatic 40, 3, [180, 2, 401, 0]) := by decide +kernel
theorem r155_8 : am_at 155 8 = some (.invokestatic 44, 3, [251, 1, 511, 0]) := by decide +kernel
theorem r155_11 : am_at 155 11 = some (.aload_n 0, 1, [0]) := by decide +kernel
theorem r155_12 : am_at 155 12 = some (.getfield 15, 3, [0, 1, 3, 61]) := by decide +kernel
theorem r155_15 : am_at 155 15 = some (.iload_n 1, 1, [1]) := by decide +kernel
theorem r155_16 : am_at 155 16 = some (.invokestatic 40, 3, [180, 2, 401, 0]) := by decide +kernel
theorem r155_19 : am_at 155 19 = some (.isub, 1, []) := by decide +kernel
theorem r155_20 : am_at 155 20 = some (.ireturn, 1, []) := by decide +kernel
theorem rt155 : am_rtt 155 = some (some .int) := by decide +kernel
set_option maxRecDepth 100000 in
theorem pg155 : am_pg[155]? = some am_m155 := rfl
theorem m155_w {d mc ms : Nat} {D : am_D} {v1 : Int32} {Q : am_O → am_AH → Prop} (hd : 2 ≤ d) {r : Int32} (h : m155 D v1 = r) (hQ : Q (.inl (some (.int r))) (am_mk D)) : am_X xs L 155 d mc ms 0 [.ref 2, .int v1] [] (am_mk D) 0 0 Q := by
  unfold m155 at h
  refine x_ld (v := .ref 2) r155_0 rfl rfl rfl ?_
  refine y_gf (cd := 5) (v := .ref 3) r155_1 rfl rfl rfl ?_
  refine x_ld (v := .int v1) r155_4 rfl rfl rfl ?_
  refine x_call1 (as := [.ref 3, .int v1]) (rest := []) r155_5 rfl rfl rfl (by decide) (Nat.le_of_ble_eq_true rfl) (am_rows_at (n := 28) rfl (by decide)) (Nat.le_trans (by decide) hd) (Nat.zero_le _) (Nat.zero_le _) rfl ?_
  refine x_call1 (as := [.int (am_rat (D.1 3) 28 v1)]) (rest := []) r155_8 rfl rfl rfl (by decide) (Nat.le_of_ble_eq_true rfl) (m251_ok rfl) (Nat.le_trans (by decide) hd) (Nat.zero_le _) (Nat.zero_le _) rfl ?_
  refine x_ld (v := .ref 2) r155_11 rfl rfl rfl ?_
  refine y_gf (cd := 6) (v := .ref 4) r155_12 rfl rfl rfl ?_
  refine x_ld (v := .int v1) r155_15 rfl rfl rfl ?_
  refine x_call1 (as := [.ref 4, .int v1]) (rest := [.int (m251 (am_rat (D.1 3) 28 v1))]) r155_16 rfl rfl rfl (by decide) (Nat.le_of_ble_eq_true rfl) (am_rows_at (n := 28) rfl (by decide)) (Nat.le_trans (by decide) hd) (Nat.zero_le _) (Nat.zero_le _) rfl ?_
  refine x_ar r155_19 rfl trivial rfl ?_
  subst h
  exact x_ret (ret := some .int) (C := True) (v := some (.int _)) r155_20 rt155 rfl rfl rfl rfl rfl rfl rfl rfl trivial hQ
theorem m155_ok {D : am_D} {v1 : Int32} {r : Int32} (h : m155 D v1 = r) : am_Y xs L 155 2 0 0 [.ref 2, .int v1] D (.inl (some (.int r))) D := am_Yof (mi := am_m155) (lc := [.ref 2, .int v1]) pg155 (Nat.le_of_ble_eq_true rfl) (am_rc1 (ci := 0) rfl rfl rfl rfl rfl) rfl (fun Q hQ => m155_w (Nat.le_refl _) h hQ)
theorem r157_0 : am_at 157 0 = some (.aload_n 0, 1, [0]) := by decide +kernel
theorem r157_1 : am_at 157 1 = some (.getfield 9, 3, [0, 0, 3, 59]) := by decide +kernel
theorem r157_4 : am_at 157 4 = some (.iload_n 1, 1, [1]) := by decide +kernel
theorem r157_5 : am_at 157 5 = some (.ifCond .ne (7), 3, [12]) := by decide +kernel
theorem r157_8 : am_at 157 8 = some (.iconst (0), 1, []) := by decide +kernel
theorem r157_9 : am_at 157 9 = some (.goto (9), 3, [18]) := by decide +kernel
theorem r157_12 : am_at 157 12 = some (.aload_n 0, 1, [0]) := by decide +kernel
theorem r157_13 : am_at 157 13 = some (.getfield 37, 3, [0, 4, 0, 67]) := by decide +kernel
theorem r157_16 : am_at 157 16 = some (.iconst (1), 1, []) := by decide +kernel
theorem r157_17 : am_at 157 17 = some (.isub, 1, []) := by decide +kernel
theorem r157_18 : am_at 157 18 = some (.invokestatic 40, 3, [180, 2, 401, 0]) := by decide +kernel
theorem r157_21 : am_at 157 21 = some (.aload_n 0, 1, [0]) := by decide +kernel
theorem r157_22 : am_at 157 22 = some (.iload_n 1, 1, [1]) := by decide +kernel
theorem r157_23 : am_at 157 23 = some (.invokevirtual 50, 3, [156, 2, 404, 0]) := by decide +kernel
theorem r157_26 : am_at 157 26 = some (.invokestatic 53, 3, [255, 2, 405, 0]) := by decide +kernel
theorem r157_29 : am_at 157 29 = some (.ireturn, 1, []) := by decide +kernel
theorem rt157 : am_rtt 157 = some (some .int) := by decide +kernel
set_option maxRecDepth 100000 in
theorem pg157 : am_pg[157]? = some am_m157 := rfl
theorem m157_w {d mc ms : Nat} {D : am_D} {v1 : Int32} {Q : am_O → am_AH → Prop} (hd : 3 ≤ d) {r : Int32} (h : m157 D v1 = r) (hQ : Q (.inl (some (.int r))) (am_mk D)) : am_X xs L 157 d mc ms 0 [.ref 2, .int v1] [] (am_mk D) 0 0 Q := by
  unfold m157 at h
  refine x_ld (v := .ref 2) r157_0 rfl rfl rfl ?_
  refine y_gf (cd := 5) (v := .ref 3) r157_1 rfl rfl rfl ?_
  refine x_ld (v := .int v1) r157_4 rfl rfl rfl ?_
  obtain ⟨q1, h3, h⟩ := am_ltE h
  replace h3 := h3.symm
  have kj2 : am_X xs L 157 d mc ms 18 [.ref 2, .int v1] [.int q1, .ref 3] (am_mk D) 0 0 Q := by
    refine x_call1 (as := [.ref 3, .int q1]) (rest := []) r157_18 rfl rfl rfl (by decide) (Nat.le_of_ble_eq_true rfl) (am_rows_at (n := 28) rfl (by decide)) (Nat.le_trans (by decide) hd) (Nat.zero_le _) (Nat.zero_le _) rfl ?_
    refine x_ld (v := .ref 2) r157_21 rfl rfl rfl ?_
    refine x_ld (v := .int v1) r157_22 rfl rfl rfl ?_
    refine x_call1 (as := [.ref 2, .int v1]) (rest := [.int (am_rat (D.1 3) 28 q1)]) r157_23 rfl rfl rfl (by decide) (Nat.le_of_ble_eq_true rfl) (m156_ok rfl) (Nat.le_trans (by decide) hd) (Nat.zero_le _) (Nat.zero_le _) rfl ?_
    refine x_call1 (as := [.int (am_rat (D.1 3) 28 q1), .int (m156 D v1)]) (rest := []) r157_26 rfl rfl rfl (by decide) (Nat.le_of_ble_eq_true rfl) (m255_ok rfl) (Nat.le_trans (by decide) hd) (Nat.zero_le _) (Nat.zero_le _) rfl ?_
    subst h
    exact x_ret (ret := some .int) (C := True) (v := some (.int _)) r157_29 rt157 rfl rfl rfl rfl rfl rfl rfl rfl trivial hQ
  rcases am_ifE h3 with ⟨c4, h3⟩ | ⟨c4, h3⟩
  · refine x_ifneT r157_5 c4 rfl ?_
    refine x_ic (v := 0) r157_8 rfl rfl ?_
    refine x_goto r157_9 ?_
    subst h3
    exact kj2
  · refine x_ifneF r157_5 c4 ?_
    refine x_ld (v := .ref 2) r157_12 rfl rfl rfl ?_
    refine y_gf (cd := 0) (v := .int (D.1 2 4)) r157_13 rfl rfl rfl ?_
    refine x_ic (v := 1) r157_16 rfl rfl ?_
    refine x_ar r157_17 rfl trivial rfl ?_
    subst h3
    exact kj2
theorem m157_ok {D : am_D} {v1 : Int32} {r : Int32} (h : m157 D v1 = r) : am_Y xs L 157 3 0 0 [.ref 2, .int v1] D (.inl (some (.int r))) D := am_Yof (mi := am_m157) (lc := [.ref 2, .int v1]) pg157 (Nat.le_of_ble_eq_true rfl) (am_rc1 (ci := 0) rfl rfl rfl rfl rfl) rfl (fun Q hQ => m157_w (Nat.le_refl _) h hQ)
theorem r158_0 : am_at 158 0 = some (.aload_n 0, 1, [0]) := by decide +kernel
theorem r158_1 : am_at 158 1 = some (.getfield 37, 3, [0, 4, 0, 67]) := by decide +kernel
theorem r158_4 : am_at 158 4 = some (.ifCond .eq (15), 3, [19]) := by decide +kernel
theorem r158_7 : am_at 158 7 = some (.iload_n 1, 1, [1]) := by decide +kernel
theorem r158_8 : am_at 158 8 = some (.aload_n 0, 1, [0]) := by decide +kernel
theorem r158_9 : am_at 158 9 = some (.iload_n 2, 1, [2]) := by decide +kernel
theorem r158_10 : am_at 158 10 = some (.invokevirtual 50, 3, [156, 2, 404, 0]) := by decide +kernel
theorem r158_13 : am_at 158 13 = some (.invokestatic 57, 3, [253, 2, 497, 0]) := by decide +kernel
theorem r158_16 : am_at 158 16 = some (.ifCond .eq (7), 3, [23]) := by decide +kernel
theorem r158_19 : am_at 158 19 = some (.iconst (1), 1, []) := by decide +kernel
theorem r158_20 : am_at 158 20 = some (.goto (4), 3, [24]) := by decide +kernel
theorem r158_23 : am_at 158 23 = some (.iconst (0), 1, []) := by decide +kernel
theorem r158_24 : am_at 158 24 = some (.ireturn, 1, []) := by decide +kernel
theorem rt158 : am_rtt 158 = some (some .boolean) := by decide +kernel
set_option maxRecDepth 100000 in
theorem pg158 : am_pg[158]? = some am_m158 := rfl
theorem m158_w {d mc ms : Nat} {D : am_D} {v1 : Int32} {v2 : Int32} {Q : am_O → am_AH → Prop} (hd : 3 ≤ d) {r : Int32} (h : m158 D v1 v2 = r) (hQ : Q (.inl (some (.int r))) (am_mk D)) : am_X xs L 158 d mc ms 0 [.ref 2, .int v1, .int v2] [] (am_mk D) 0 0 Q := by
  unfold m158 at h
  refine x_ld (v := .ref 2) r158_0 rfl rfl rfl ?_
  refine y_gf (cd := 0) (v := .int (D.1 2 4)) r158_1 rfl rfl rfl ?_
  rcases am_ifE h with ⟨c1, h⟩ | ⟨c1, h⟩
  · refine x_ifeqT r158_4 c1 ?_
    refine x_ic (v := 1) r158_19 rfl rfl ?_
    refine x_goto r158_20 ?_
    subst h
    exact x_ret (ret := some .boolean) (C := narrow .boolean (.int (1 : Int32)) = .int (1 : Int32)) (v := some (.int (1 : Int32))) r158_24 rt158 rfl rfl rfl rfl rfl rfl rfl rfl (by decide) hQ
  · refine x_ifeqF r158_4 c1 rfl ?_
    refine x_ld (v := .int v1) r158_7 rfl rfl rfl ?_
    refine x_ld (v := .ref 2) r158_8 rfl rfl rfl ?_
    refine x_ld (v := .int v2) r158_9 rfl rfl rfl ?_
    refine x_call1 (as := [.ref 2, .int v2]) (rest := [.int v1]) r158_10 rfl rfl rfl (by decide) (Nat.le_of_ble_eq_true rfl) (m156_ok rfl) (Nat.le_trans (by decide) hd) (Nat.zero_le _) (Nat.zero_le _) rfl ?_
    refine x_call1 (as := [.int v1, .int (m156 D v2)]) (rest := []) r158_13 rfl rfl rfl (by decide) (Nat.le_of_ble_eq_true rfl) (m253_ok rfl) (Nat.le_trans (by decide) hd) (Nat.zero_le _) (Nat.zero_le _) rfl ?_
    rcases am_ifE h with ⟨c2, h⟩ | ⟨c2, h⟩
    · refine x_ifeqT r158_16 c2 ?_
      refine x_ic (v := 0) r158_23 rfl rfl ?_
      subst h
      exact x_ret (ret := some .boolean) (C := narrow .boolean (.int (0 : Int32)) = .int (0 : Int32)) (v := some (.int (0 : Int32))) r158_24 rt158 rfl rfl rfl rfl rfl rfl rfl rfl (by decide) hQ
    · refine x_ifeqF r158_16 c2 rfl ?_
      refine x_ic (v := 1) r158_19 rfl rfl ?_
      refine x_goto r158_20 ?_
      subst h
      exact x_ret (ret := some .boolean) (C := narrow .boolean (.int (1 : Int32)) = .int (1 : Int32)) (v := some (.int (1 : Int32))) r158_24 rt158 rfl rfl rfl rfl rfl rfl rfl rfl (by decide) hQ
theorem m158_ok {D : am_D} {v1 : Int32} {v2 : Int32} {r : Int32} (h : m158 D v1 v2 = r) : am_Y xs L 158 3 0 0 [.ref 2, .int v1, .int v2] D (.inl (some (.int r))) D := am_Yof (mi := am_m158) (lc := [.ref 2, .int v1, .int v2]) pg158 (Nat.le_of_ble_eq_true rfl) (am_rc1 (ci := 0) rfl rfl rfl rfl rfl) rfl (fun Q hQ => m158_w (Nat.le_refl _) h hQ)
theorem m158_b (D : am_D) (v1 : Int32) (v2 : Int32) : m158 D v1 v2 &&& 1 = m158 D v1 v2 := by
  unfold m158
  (repeat' split) <;> rfl
end XE
