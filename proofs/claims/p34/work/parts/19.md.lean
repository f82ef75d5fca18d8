/-! walks (by wip/p34/tools/decomp.py): 159 160 162 163 164 175 178 179 191 193 197 205 206 208 -/
section XE
variable {xs : Nat → Int32} {L : Nat}
theorem r159_0 : am_at 159 0 = some (.aload_n 0, 1, [0]) := by decide +kernel
theorem r159_1 : am_at 159 1 = some (.getfield 37, 3, [0, 4, 0, 67]) := by decide +kernel
theorem r159_4 : am_at 159 4 = some (.ifCond .eq (25), 3, [29]) := by decide +kernel
theorem r159_7 : am_at 159 7 = some (.iload_n 1, 1, [1]) := by decide +kernel
theorem r159_8 : am_at 159 8 = some (.aload_n 0, 1, [0]) := by decide +kernel
theorem r159_9 : am_at 159 9 = some (.getfield 24, 3, [0, 5, 0, 69]) := by decide +kernel
theorem r159_12 : am_at 159 12 = some (.invokestatic 57, 3, [253, 2, 497, 0]) := by decide +kernel
theorem r159_15 : am_at 159 15 = some (.ifCond .ne (14), 3, [29]) := by decide +kernel
theorem r159_18 : am_at 159 18 = some (.iload_n 1, 1, [1]) := by decide +kernel
theorem r159_19 : am_at 159 19 = some (.aload_n 0, 1, [0]) := by decide +kernel
theorem r159_20 : am_at 159 20 = some (.getfield 28, 3, [0, 6, 0, 70]) := by decide +kernel
theorem r159_23 : am_at 159 23 = some (.invokestatic 57, 3, [253, 2, 497, 0]) := by decide +kernel
theorem r159_26 : am_at 159 26 = some (.ifCond .eq (7), 3, [33]) := by decide +kernel
theorem r159_29 : am_at 159 29 = some (.iconst (1), 1, []) := by decide +kernel
theorem r159_30 : am_at 159 30 = some (.goto (4), 3, [34]) := by decide +kernel
theorem r159_33 : am_at 159 33 = some (.iconst (0), 1, []) := by decide +kernel
theorem r159_34 : am_at 159 34 = some (.ireturn, 1, []) := by decide +kernel
theorem rt159 : am_rtt 159 = some (some .boolean) := by decide +kernel
set_option maxRecDepth 100000 in
theorem pg159 : am_pg[159]? = some am_m159 := rfl
theorem m159_w {d mc ms : Nat} {D : am_D} {v1 : Int32} {Q : am_O → am_AH → Prop} (hd : 3 ≤ d) {r : Int32} (h : m159 D v1 = r) (hQ : Q (.inl (some (.int r))) (am_mk D)) : am_X xs L 159 d mc ms 0 [.ref 2, .int v1] [] (am_mk D) 0 0 Q := by
  unfold m159 at h
  refine x_ld (v := .ref 2) r159_0 rfl rfl rfl ?_
  refine y_gf (cd := 0) (v := .int (D.1 2 4)) r159_1 rfl rfl rfl ?_
  rcases am_ifE h with ⟨c1, h⟩ | ⟨c1, h⟩
  · refine x_ifeqT r159_4 c1 ?_
    refine x_ic (v := 1) r159_29 rfl rfl ?_
    refine x_goto r159_30 ?_
    subst h
    exact x_ret (ret := some .boolean) (C := narrow .boolean (.int (1 : Int32)) = .int (1 : Int32)) (v := some (.int (1 : Int32))) r159_34 rt159 rfl rfl rfl rfl rfl rfl rfl rfl (by decide) hQ
  · refine x_ifeqF r159_4 c1 rfl ?_
    refine x_ld (v := .int v1) r159_7 rfl rfl rfl ?_
    refine x_ld (v := .ref 2) r159_8 rfl rfl rfl ?_
    refine y_gf (cd := 0) (v := .int (D.1 2 5)) r159_9 rfl rfl rfl ?_
    refine x_call1 (as := [.int v1, .int (D.1 2 5)]) (rest := []) r159_12 rfl rfl rfl (by decide) (Nat.le_of_ble_eq_true rfl) (m253_ok rfl) (Nat.le_trans (by decide) hd) (Nat.zero_le _) (Nat.zero_le _) rfl ?_
    rcases am_ifE h with ⟨c2, h⟩ | ⟨c2, h⟩
    · refine x_ifneT r159_15 c2 rfl ?_
      refine x_ld (v := .int v1) r159_18 rfl rfl rfl ?_
      refine x_ld (v := .ref 2) r159_19 rfl rfl rfl ?_
      refine y_gf (cd := 0) (v := .int (D.1 2 6)) r159_20 rfl rfl rfl ?_
      refine x_call1 (as := [.int v1, .int (D.1 2 6)]) (rest := []) r159_23 rfl rfl rfl (by decide) (Nat.le_of_ble_eq_true rfl) (m253_ok rfl) (Nat.le_trans (by decide) hd) (Nat.zero_le _) (Nat.zero_le _) rfl ?_
      rcases am_ifE h with ⟨c3, h⟩ | ⟨c3, h⟩
      · refine x_ifeqT r159_26 c3 ?_
        refine x_ic (v := 0) r159_33 rfl rfl ?_
        subst h
        exact x_ret (ret := some .boolean) (C := narrow .boolean (.int (0 : Int32)) = .int (0 : Int32)) (v := some (.int (0 : Int32))) r159_34 rt159 rfl rfl rfl rfl rfl rfl rfl rfl (by decide) hQ
      · refine x_ifeqF r159_26 c3 rfl ?_
        refine x_ic (v := 1) r159_29 rfl rfl ?_
        refine x_goto r159_30 ?_
        subst h
        exact x_ret (ret := some .boolean) (C := narrow .boolean (.int (1 : Int32)) = .int (1 : Int32)) (v := some (.int (1 : Int32))) r159_34 rt159 rfl rfl rfl rfl rfl rfl rfl rfl (by decide) hQ
    · refine x_ifneF r159_15 c2 ?_
      refine x_ic (v := 1) r159_29 rfl rfl ?_
      refine x_goto r159_30 ?_
      subst h
      exact x_ret (ret := some .boolean) (C := narrow .boolean (.int (1 : Int32)) = .int (1 : Int32)) (v := some (.int (1 : Int32))) r159_34 rt159 rfl rfl rfl rfl rfl rfl rfl rfl (by decide) hQ
theorem m159_ok {D : am_D} {v1 : Int32} {r : Int32} (h : m159 D v1 = r) : am_Y xs L 159 3 0 0 [.ref 2, .int v1] D (.inl (some (.int r))) D := am_Yof (mi := am_m159) (lc := [.ref 2, .int v1]) pg159 (Nat.le_of_ble_eq_true rfl) (am_rc1 (ci := 0) rfl rfl rfl rfl rfl) rfl (fun Q hQ => m159_w (Nat.le_refl _) h hQ)
theorem m159_b (D : am_D) (v1 : Int32) : m159 D v1 &&& 1 = m159 D v1 := by
  unfold m159
  (repeat' split) <;> rfl
theorem r160_0 : am_at 160 0 = some (.aload_n 0, 1, [0]) := by decide +kernel
theorem r160_1 : am_at 160 1 = some (.getfield 37, 3, [0, 4, 0, 67]) := by decide +kernel
theorem r160_4 : am_at 160 4 = some (.ifCond .ne (5), 3, [9]) := by decide +kernel
theorem r160_7 : am_at 160 7 = some (.iconst (0), 1, []) := by decide +kernel
theorem r160_8 : am_at 160 8 = some (.ireturn, 1, []) := by decide +kernel
theorem r160_9 : am_at 160 9 = some (.aload_n 0, 1, [0]) := by decide +kernel
theorem r160_10 : am_at 160 10 = some (.getfield 37, 3, [0, 4, 0, 67]) := by decide +kernel
theorem r160_13 : am_at 160 13 = some (.iconst (1), 1, []) := by decide +kernel
theorem r160_14 : am_at 160 14 = some (.if_icmp .ne (15), 3, [29]) := by decide +kernel
theorem r160_17 : am_at 160 17 = some (.aload_n 0, 1, [0]) := by decide +kernel
theorem r160_18 : am_at 160 18 = some (.getfield 24, 3, [0, 5, 0, 69]) := by decide +kernel
theorem r160_21 : am_at 160 21 = some (.aload_n 0, 1, [0]) := by decide +kernel
theorem r160_22 : am_at 160 22 = some (.getfield 28, 3, [0, 6, 0, 70]) := by decide +kernel
theorem r160_25 : am_at 160 25 = some (.iadd, 1, []) := by decide +kernel
theorem r160_26 : am_at 160 26 = some (.goto (14), 3, [40]) := by decide +kernel
theorem r160_29 : am_at 160 29 = some (.aload_n 0, 1, [0]) := by decide +kernel
theorem r160_30 : am_at 160 30 = some (.iconst (0), 1, []) := by decide +kernel
theorem r160_31 : am_at 160 31 = some (.invokevirtual 61, 3, [157, 2, 397, 0]) := by decide +kernel
theorem r160_34 : am_at 160 34 = some (.aload_n 0, 1, [0]) := by decide +kernel
theorem r160_35 : am_at 160 35 = some (.iconst (1), 1, []) := by decide +kernel
theorem r160_36 : am_at 160 36 = some (.invokevirtual 61, 3, [157, 2, 397, 0]) := by decide +kernel
theorem r160_39 : am_at 160 39 = some (.iadd, 1, []) := by decide +kernel
theorem r160_40 : am_at 160 40 = some (.ireturn, 1, []) := by decide +kernel
theorem rt160 : am_rtt 160 = some (some .int) := by decide +kernel
set_option maxRecDepth 100000 in
theorem pg160 : am_pg[160]? = some am_m160 := rfl
theorem m160_w {d mc ms : Nat} {D : am_D} {Q : am_O → am_AH → Prop} (hd : 4 ≤ d) {r : Int32} (h : m160 D = r) (hQ : Q (.inl (some (.int r))) (am_mk D)) : am_X xs L 160 d mc ms 0 [.ref 2] [] (am_mk D) 0 0 Q := by
  unfold m160 at h
  refine x_ld (v := .ref 2) r160_0 rfl rfl rfl ?_
  refine y_gf (cd := 0) (v := .int (D.1 2 4)) r160_1 rfl rfl rfl ?_
  rcases am_ifE h with ⟨c1, h⟩ | ⟨c1, h⟩
  · refine x_ifneT r160_4 c1 rfl ?_
    refine x_ic (v := 0) r160_7 rfl rfl ?_
    subst h
    exact x_ret (ret := some .int) (C := True) (v := some (.int _)) r160_8 rt160 rfl rfl rfl rfl rfl rfl rfl rfl trivial hQ
  · refine x_ifneF r160_4 c1 ?_
    refine x_ld (v := .ref 2) r160_9 rfl rfl rfl ?_
    refine y_gf (cd := 0) (v := .int (D.1 2 4)) r160_10 rfl rfl rfl ?_
    refine x_ic (v := 1) r160_13 rfl rfl ?_
    rcases am_ifE h with ⟨c2, h⟩ | ⟨c2, h⟩
    · refine x_icneT r160_14 c2 rfl ?_
      refine x_ld (v := .ref 2) r160_17 rfl rfl rfl ?_
      refine y_gf (cd := 0) (v := .int (D.1 2 5)) r160_18 rfl rfl rfl ?_
      refine x_ld (v := .ref 2) r160_21 rfl rfl rfl ?_
      refine y_gf (cd := 0) (v := .int (D.1 2 6)) r160_22 rfl rfl rfl ?_
      refine x_ar r160_25 rfl trivial rfl ?_
      refine x_goto r160_26 ?_
      subst h
      exact x_ret (ret := some .int) (C := True) (v := some (.int _)) r160_40 rt160 rfl rfl rfl rfl rfl rfl rfl rfl trivial hQ
    · refine x_icneF r160_14 c2 ?_
      refine x_ld (v := .ref 2) r160_29 rfl rfl rfl ?_
      refine x_ic (v := 0) r160_30 rfl rfl ?_
      refine x_call1 (as := [.ref 2, .int (0 : Int32)]) (rest := []) r160_31 rfl rfl rfl (by decide) (Nat.le_of_ble_eq_true rfl) (m157_ok rfl) (Nat.le_trans (by decide) hd) (Nat.zero_le _) (Nat.zero_le _) rfl ?_
      refine x_ld (v := .ref 2) r160_34 rfl rfl rfl ?_
      refine x_ic (v := 1) r160_35 rfl rfl ?_
      refine x_call1 (as := [.ref 2, .int (1 : Int32)]) (rest := [.int (m157 D (0 : Int32))]) r160_36 rfl rfl rfl (by decide) (Nat.le_of_ble_eq_true rfl) (m157_ok rfl) (Nat.le_trans (by decide) hd) (Nat.zero_le _) (Nat.zero_le _) rfl ?_
      refine x_ar r160_39 rfl trivial rfl ?_
      subst h
      exact x_ret (ret := some .int) (C := True) (v := some (.int _)) r160_40 rt160 rfl rfl rfl rfl rfl rfl rfl rfl trivial hQ
theorem m160_ok {D : am_D} {r : Int32} (h : m160 D = r) : am_Y xs L 160 4 0 0 [.ref 2] D (.inl (some (.int r))) D := am_Yof (mi := am_m160) (lc := [.ref 2]) pg160 (Nat.le_of_ble_eq_true rfl) (am_rc1 (ci := 0) rfl rfl rfl rfl rfl) rfl (fun Q hQ => m160_w (Nat.le_refl _) h hQ)
theorem r162_0 : am_at 162 0 = some (.aload_n 0, 1, [0]) := by decide +kernel
theorem r162_1 : am_at 162 1 = some (.getfield 37, 3, [0, 4, 0, 67]) := by decide +kernel
theorem r162_4 : am_at 162 4 = some (.ifCond .ne (19), 3, [23]) := by decide +kernel
theorem r162_7 : am_at 162 7 = some (.iload_n 2, 1, [2]) := by decide +kernel
theorem r162_8 : am_at 162 8 = some (.ifCond .ne (10), 3, [18]) := by decide +kernel
theorem r162_11 : am_at 162 11 = some (.iload_n 1, 1, [1]) := by decide +kernel
theorem r162_12 : am_at 162 12 = some (.invokestatic 70, 3, [249, 1, 671, 0]) := by decide +kernel
theorem r162_15 : am_at 162 15 = some (.goto (7), 3, [22]) := by decide +kernel
theorem r162_18 : am_at 162 18 = some (.iload_n 1, 1, [1]) := by decide +kernel
theorem r162_19 : am_at 162 19 = some (.invokestatic 73, 3, [250, 1, 672, 0]) := by decide +kernel
theorem r162_22 : am_at 162 22 = some (.ireturn, 1, []) := by decide +kernel
theorem r162_23 : am_at 162 23 = some (.iload_n 1, 1, [1]) := by decide +kernel
theorem r162_24 : am_at 162 24 = some (.invokestatic 44, 3, [251, 1, 511, 0]) := by decide +kernel
theorem r162_27 : am_at 162 27 = some (.aload_n 0, 1, [0]) := by decide +kernel
theorem r162_28 : am_at 162 28 = some (.iload_n 2, 1, [2]) := by decide +kernel
theorem r162_29 : am_at 162 29 = some (.invokevirtual 50, 3, [156, 2, 404, 0]) := by decide +kernel
theorem r162_32 : am_at 162 32 = some (.isub, 1, []) := by decide +kernel
theorem r162_33 : am_at 162 33 = some (.ireturn, 1, []) := by decide +kernel
theorem rt162 : am_rtt 162 = some (some .int) := by decide +kernel
set_option maxRecDepth 100000 in
theorem pg162 : am_pg[162]? = some am_m162 := rfl
theorem m162_w {d mc ms : Nat} {D : am_D} {v1 : Int32} {v2 : Int32} {Q : am_O → am_AH → Prop} (hd : 2 ≤ d) {r : Int32} (h : m162 D v1 v2 = r) (hQ : Q (.inl (some (.int r))) (am_mk D)) : am_X xs L 162 d mc ms 0 [.ref 2, .int v1, .int v2] [] (am_mk D) 0 0 Q := by
  unfold m162 at h
  refine x_ld (v := .ref 2) r162_0 rfl rfl rfl ?_
  refine y_gf (cd := 0) (v := .int (D.1 2 4)) r162_1 rfl rfl rfl ?_
  rcases am_ifE h with ⟨c1, h⟩ | ⟨c1, h⟩
  · refine x_ifneT r162_4 c1 rfl ?_
    refine x_ld (v := .int v2) r162_7 rfl rfl rfl ?_
    rcases am_ifE h with ⟨c2, h⟩ | ⟨c2, h⟩
    · refine x_ifneT r162_8 c2 rfl ?_
      refine x_ld (v := .int v1) r162_11 rfl rfl rfl ?_
      refine x_call1 (as := [.int v1]) (rest := []) r162_12 rfl rfl rfl (by decide) (Nat.le_of_ble_eq_true rfl) (m249_ok rfl) (Nat.le_trans (by decide) hd) (Nat.zero_le _) (Nat.zero_le _) rfl ?_
      refine x_goto r162_15 ?_
      subst h
      exact x_ret (ret := some .int) (C := True) (v := some (.int _)) r162_22 rt162 rfl rfl rfl rfl rfl rfl rfl rfl trivial hQ
    · refine x_ifneF r162_8 c2 ?_
      refine x_ld (v := .int v1) r162_18 rfl rfl rfl ?_
      refine x_call1 (as := [.int v1]) (rest := []) r162_19 rfl rfl rfl (by decide) (Nat.le_of_ble_eq_true rfl) (m250_ok rfl) (Nat.le_trans (by decide) hd) (Nat.zero_le _) (Nat.zero_le _) rfl ?_
      subst h
      exact x_ret (ret := some .int) (C := True) (v := some (.int _)) r162_22 rt162 rfl rfl rfl rfl rfl rfl rfl rfl trivial hQ
  · refine x_ifneF r162_4 c1 ?_
    refine x_ld (v := .int v1) r162_23 rfl rfl rfl ?_
    refine x_call1 (as := [.int v1]) (rest := []) r162_24 rfl rfl rfl (by decide) (Nat.le_of_ble_eq_true rfl) (m251_ok rfl) (Nat.le_trans (by decide) hd) (Nat.zero_le _) (Nat.zero_le _) rfl ?_
    refine x_ld (v := .ref 2) r162_27 rfl rfl rfl ?_
    refine x_ld (v := .int v2) r162_28 rfl rfl rfl ?_
    refine x_call1 (as := [.ref 2, .int v2]) (rest := [.int (m251 v1)]) r162_29 rfl rfl rfl (by decide) (Nat.le_of_ble_eq_true rfl) (m156_ok rfl) (Nat.le_trans (by decide) hd) (Nat.zero_le _) (Nat.zero_le _) rfl ?_
    refine x_ar r162_32 rfl trivial rfl ?_
    subst h
    exact x_ret (ret := some .int) (C := True) (v := some (.int _)) r162_33 rt162 rfl rfl rfl rfl rfl rfl rfl rfl trivial hQ
theorem m162_ok {D : am_D} {v1 : Int32} {v2 : Int32} {r : Int32} (h : m162 D v1 v2 = r) : am_Y xs L 162 2 0 0 [.ref 2, .int v1, .int v2] D (.inl (some (.int r))) D := am_Yof (mi := am_m162) (lc := [.ref 2, .int v1, .int v2]) pg162 (Nat.le_of_ble_eq_true rfl) (am_rc1 (ci := 0) rfl rfl rfl rfl rfl) rfl (fun Q hQ => m162_w (Nat.le_refl _) h hQ)
theorem r163_0 : am_at 163 0 = some (.aload_n 0, 1, [0]) := by decide +kernel
theorem r163_1 : am_at 163 1 = some (.getfield 37, 3, [0, 4, 0, 67]) := by decide +kernel
theorem r163_4 : am_at 163 4 = some (.ifCond .ne (15), 3, [19]) := by decide +kernel
theorem r163_7 : am_at 163 7 = some (.aload_n 0, 1, [0]) := by decide +kernel
theorem r163_8 : am_at 163 8 = some (.iload_n 1, 1, [1]) := by decide +kernel
theorem r163_9 : am_at 163 9 = some (.iload_n 2, 1, [2]) := by decide +kernel
theorem r163_10 : am_at 163 10 = some (.invokestatic 67, 3, [166, 1, 673, 0]) := by decide +kernel
theorem r163_13 : am_at 163 13 = some (.invokevirtual 64, 3, [162, 3, 667, 0]) := by decide +kernel
theorem r163_16 : am_at 163 16 = some (.goto (11), 3, [27]) := by decide +kernel
theorem r163_19 : am_at 163 19 = some (.aload_n 0, 1, [0]) := by decide +kernel
theorem r163_20 : am_at 163 20 = some (.iload_n 2, 1, [2]) := by decide +kernel
theorem r163_21 : am_at 163 21 = some (.invokestatic 67, 3, [166, 1, 673, 0]) := by decide +kernel
theorem r163_24 : am_at 163 24 = some (.invokevirtual 50, 3, [156, 2, 404, 0]) := by decide +kernel
theorem r163_27 : am_at 163 27 = some (.ireturn, 1, []) := by decide +kernel
theorem rt163 : am_rtt 163 = some (some .int) := by decide +kernel
set_option maxRecDepth 100000 in
theorem pg163 : am_pg[163]? = some am_m163 := rfl
theorem m163_w {d mc ms : Nat} {D : am_D} {v1 : Int32} {v2 : Int32} {Q : am_O → am_AH → Prop} (hd : 3 ≤ d) {r : Int32} (h : m163 D v1 v2 = r) (hQ : Q (.inl (some (.int r))) (am_mk D)) : am_X xs L 163 d mc ms 0 [.ref 2, .int v1, .int v2] [] (am_mk D) 0 0 Q := by
  unfold m163 at h
  refine x_ld (v := .ref 2) r163_0 rfl rfl rfl ?_
  refine y_gf (cd := 0) (v := .int (D.1 2 4)) r163_1 rfl rfl rfl ?_
  rcases am_ifE h with ⟨c1, h⟩ | ⟨c1, h⟩
  · refine x_ifneT r163_4 c1 rfl ?_
    refine x_ld (v := .ref 2) r163_7 rfl rfl rfl ?_
    refine x_ld (v := .int v1) r163_8 rfl rfl rfl ?_
    refine x_ld (v := .int v2) r163_9 rfl rfl rfl ?_
    refine x_call1 (as := [.int v2]) (rest := [.int v1, .ref 2]) r163_10 rfl rfl rfl (by decide) (Nat.le_of_ble_eq_true rfl) (m166_ok rfl) (Nat.le_trans (by decide) hd) (Nat.zero_le _) (Nat.zero_le _) rfl ?_
    refine x_call1 (as := [.ref 2, .int v1, .int (m166 v2)]) (rest := []) r163_13 rfl rfl rfl (by decide) (Nat.le_of_ble_eq_true rfl) (m162_ok rfl) (Nat.le_trans (by decide) hd) (Nat.zero_le _) (Nat.zero_le _) rfl ?_
    refine x_goto r163_16 ?_
    subst h
    exact x_ret (ret := some .int) (C := True) (v := some (.int _)) r163_27 rt163 rfl rfl rfl rfl rfl rfl rfl rfl trivial hQ
  · refine x_ifneF r163_4 c1 ?_
    refine x_ld (v := .ref 2) r163_19 rfl rfl rfl ?_
    refine x_ld (v := .int v2) r163_20 rfl rfl rfl ?_
    refine x_call1 (as := [.int v2]) (rest := [.ref 2]) r163_21 rfl rfl rfl (by decide) (Nat.le_of_ble_eq_true rfl) (m166_ok rfl) (Nat.le_trans (by decide) hd) (Nat.zero_le _) (Nat.zero_le _) rfl ?_
    refine x_call1 (as := [.ref 2, .int (m166 v2)]) (rest := []) r163_24 rfl rfl rfl (by decide) (Nat.le_of_ble_eq_true rfl) (m156_ok rfl) (Nat.le_trans (by decide) hd) (Nat.zero_le _) (Nat.zero_le _) rfl ?_
    subst h
    exact x_ret (ret := some .int) (C := True) (v := some (.int _)) r163_27 rt163 rfl rfl rfl rfl rfl rfl rfl rfl trivial hQ
theorem m163_ok {D : am_D} {v1 : Int32} {v2 : Int32} {r : Int32} (h : m163 D v1 v2 = r) : am_Y xs L 163 3 0 0 [.ref 2, .int v1, .int v2] D (.inl (some (.int r))) D := am_Yof (mi := am_m163) (lc := [.ref 2, .int v1, .int v2]) pg163 (Nat.le_of_ble_eq_true rfl) (am_rc1 (ci := 0) rfl rfl rfl rfl rfl) rfl (fun Q hQ => m163_w (Nat.le_refl _) h hQ)
theorem r164_0 : am_at 164 0 = some (.aload_n 0, 1, [0]) := by decide +kernel
theorem r164_1 : am_at 164 1 = some (.getfield 37, 3, [0, 4, 0, 67]) := by decide +kernel
theorem r164_4 : am_at 164 4 = some (.aload_n 0, 1, [0]) := by decide +kernel
theorem r164_5 : am_at 164 5 = some (.getfield 9, 3, [0, 0, 3, 59]) := by decide +kernel
theorem r164_8 : am_at 164 8 = some (.arraylength, 1, []) := by decide +kernel
theorem r164_9 : am_at 164 9 = some (.if_icmp .lt (4), 3, [13]) := by decide +kernel
theorem r164_12 : am_at 164 12 = some (.return_, 1, []) := by decide +kernel
theorem r164_13 : am_at 164 13 = some (.aload_n 0, 1, [0]) := by decide +kernel
theorem r164_14 : am_at 164 14 = some (.getfield 37, 3, [0, 4, 0, 67]) := by decide +kernel
theorem r164_17 : am_at 164 17 = some (.ifCond .ne (7), 3, [24]) := by decide +kernel
theorem r164_20 : am_at 164 20 = some (.iconst (1), 1, []) := by decide +kernel
theorem r164_21 : am_at 164 21 = some (.goto (4), 3, [25]) := by decide +kernel
theorem r164_24 : am_at 164 24 = some (.iconst (0), 1, []) := by decide +kernel
theorem r164_25 : am_at 164 25 = some (.istore 4, 2, [4]) := by decide +kernel
theorem r164_27 : am_at 164 27 = some (.aload_n 0, 1, [0]) := by decide +kernel
theorem r164_28 : am_at 164 28 = some (.iload_n 1, 1, [1]) := by decide +kernel
theorem r164_29 : am_at 164 29 = some (.iload 4, 2, [4]) := by decide +kernel
theorem r164_31 : am_at 164 31 = some (.ifCond .eq (7), 3, [38]) := by decide +kernel
theorem r164_34 : am_at 164 34 = some (.iconst (0), 1, []) := by decide +kernel
theorem r164_35 : am_at 164 35 = some (.goto (4), 3, [39]) := by decide +kernel
theorem r164_38 : am_at 164 38 = some (.iload_n 2, 1, [2]) := by decide +kernel
theorem r164_39 : am_at 164 39 = some (.invokevirtual 64, 3, [162, 3, 667, 0]) := by decide +kernel
theorem r164_42 : am_at 164 42 = some (.istore 5, 2, [5]) := by decide +kernel
theorem r164_44 : am_at 164 44 = some (.iload_n 2, 1, [2]) := by decide +kernel
theorem r164_45 : am_at 164 45 = some (.ifCond .ne (7), 3, [52]) := by decide +kernel
theorem r164_48 : am_at 164 48 = some (.iconst (0), 1, []) := by decide +kernel
theorem r164_49 : am_at 164 49 = some (.goto (7), 3, [56]) := by decide +kernel
theorem r164_52 : am_at 164 52 = some (.aload_n 0, 1, [0]) := by decide +kernel
theorem r164_53 : am_at 164 53 = some (.getfield 37, 3, [0, 4, 0, 67]) := by decide +kernel
theorem r164_56 : am_at 164 56 = some (.istore 6, 2, [6]) := by decide +kernel
theorem r164_58 : am_at 164 58 = some (.aload_n 0, 1, [0]) := by decide +kernel
theorem r164_59 : am_at 164 59 = some (.getfield 37, 3, [0, 4, 0, 67]) := by decide +kernel
theorem r164_62 : am_at 164 62 = some (.istore 7, 2, [7]) := by decide +kernel
theorem r164_64 : am_at 164 64 = some (.iload 7, 2, [7]) := by decide +kernel
theorem r164_66 : am_at 164 66 = some (.iload 6, 2, [6]) := by decide +kernel
theorem r164_68 : am_at 164 68 = some (.if_icmp .le (15), 3, [83]) := by decide +kernel
theorem r164_71 : am_at 164 71 = some (.aload_n 0, 1, [0]) := by decide +kernel
theorem r164_72 : am_at 164 72 = some (.iload 7, 2, [7]) := by decide +kernel
theorem r164_74 : am_at 164 74 = some (.invokevirtual 76, 3, [165, 2, 769, 0]) := by decide +kernel
theorem r164_77 : am_at 164 77 = some (.iinc 7 (-1), 3, [7]) := by decide +kernel
theorem r164_80 : am_at 164 80 = some (.goto (-16), 3, [64]) := by decide +kernel
theorem r164_83 : am_at 164 83 = some (.aload_n 0, 1, [0]) := by decide +kernel
theorem r164_84 : am_at 164 84 = some (.getfield 9, 3, [0, 0, 3, 59]) := by decide +kernel
theorem r164_87 : am_at 164 87 = some (.iload 6, 2, [6]) := by decide +kernel
theorem r164_89 : am_at 164 89 = some (.iload_n 1, 1, [1]) := by decide +kernel
theorem r164_90 : am_at 164 90 = some (.invokestatic 80, 3, [181, 3, 773, 0]) := by decide +kernel
theorem r164_93 : am_at 164 93 = some (.aload_n 0, 1, [0]) := by decide +kernel
theorem r164_94 : am_at 164 94 = some (.getfield 15, 3, [0, 1, 3, 61]) := by decide +kernel
theorem r164_97 : am_at 164 97 = some (.iload 6, 2, [6]) := by decide +kernel
theorem r164_99 : am_at 164 99 = some (.iload 4, 2, [4]) := by decide +kernel
theorem r164_101 : am_at 164 101 = some (.ifCond .ne (7), 3, [108]) := by decide +kernel
theorem r164_104 : am_at 164 104 = some (.iload_n 2, 1, [2]) := by decide +kernel
theorem r164_105 : am_at 164 105 = some (.ifCond .ne (8), 3, [113]) := by decide +kernel
theorem r164_108 : am_at 164 108 = some (.iload 5, 2, [5]) := by decide +kernel
theorem r164_110 : am_at 164 110 = some (.goto (7), 3, [117]) := by decide +kernel
theorem r164_113 : am_at 164 113 = some (.aload_n 0, 1, [0]) := by decide +kernel
theorem r164_114 : am_at 164 114 = some (.getfield 28, 3, [0, 6, 0, 70]) := by decide +kernel
theorem r164_117 : am_at 164 117 = some (.invokestatic 80, 3, [181, 3, 773, 0]) := by decide +kernel
theorem r164_120 : am_at 164 120 = some (.aload_n 0, 1, [0]) := by decide +kernel
theorem r164_121 : am_at 164 121 = some (.getfield 18, 3, [0, 2, 3, 63]) := by decide +kernel
theorem r164_124 : am_at 164 124 = some (.iload 6, 2, [6]) := by decide +kernel
theorem r164_126 : am_at 164 126 = some (.iload_n 3, 1, [3]) := by decide +kernel
theorem r164_127 : am_at 164 127 = some (.invokestatic 80, 3, [181, 3, 773, 0]) := by decide +kernel
theorem r164_130 : am_at 164 130 = some (.aload_n 0, 1, [0]) := by decide +kernel
theorem r164_131 : am_at 164 131 = some (.dup, 1, []) := by decide +kernel
theorem r164_132 : am_at 164 132 = some (.getfield 37, 3, [0, 4, 0, 67]) := by decide +kernel
theorem r164_135 : am_at 164 135 = some (.iconst (1), 1, []) := by decide +kernel
theorem r164_136 : am_at 164 136 = some (.iadd, 1, []) := by decide +kernel
theorem r164_137 : am_at 164 137 = some (.putfield 37, 3, [0, 4, 0, 67]) := by decide +kernel
theorem r164_140 : am_at 164 140 = some (.aload_n 0, 1, [0]) := by decide +kernel
theorem r164_141 : am_at 164 141 = some (.getfield 21, 3, [0, 3, 3, 65]) := by decide +kernel
theorem r164_144 : am_at 164 144 = some (.iload 6, 2, [6]) := by decide +kernel
theorem r164_146 : am_at 164 146 = some (.aload_n 0, 1, [0]) := by decide +kernel
theorem r164_147 : am_at 164 147 = some (.getfield 37, 3, [0, 4, 0, 67]) := by decide +kernel
theorem r164_150 : am_at 164 150 = some (.invokestatic 80, 3, [181, 3, 773, 0]) := by decide +kernel
theorem r164_153 : am_at 164 153 = some (.aload_n 0, 1, [0]) := by decide +kernel
theorem r164_154 : am_at 164 154 = some (.iload 4, 2, [4]) := by decide +kernel
theorem r164_156 : am_at 164 156 = some (.ifCond .ne (7), 3, [163]) := by decide +kernel
theorem r164_159 : am_at 164 159 = some (.iload_n 2, 1, [2]) := by decide +kernel
theorem r164_160 : am_at 164 160 = some (.ifCond .ne (8), 3, [168]) := by decide +kernel
theorem r164_163 : am_at 164 163 = some (.iload 5, 2, [5]) := by decide +kernel
theorem r164_165 : am_at 164 165 = some (.goto (7), 3, [172]) := by decide +kernel
theorem r164_168 : am_at 164 168 = some (.aload_n 0, 1, [0]) := by decide +kernel
theorem r164_169 : am_at 164 169 = some (.getfield 24, 3, [0, 5, 0, 69]) := by decide +kernel
theorem r164_172 : am_at 164 172 = some (.putfield 24, 3, [0, 5, 0, 69]) := by decide +kernel
theorem r164_175 : am_at 164 175 = some (.aload_n 0, 1, [0]) := by decide +kernel
theorem r164_176 : am_at 164 176 = some (.aload_n 0, 1, [0]) := by decide +kernel
theorem r164_177 : am_at 164 177 = some (.aload_n 0, 1, [0]) := by decide +kernel
theorem r164_178 : am_at 164 178 = some (.getfield 37, 3, [0, 4, 0, 67]) := by decide +kernel
theorem r164_181 : am_at 164 181 = some (.iconst (1), 1, []) := by decide +kernel
theorem r164_182 : am_at 164 182 = some (.isub, 1, []) := by decide +kernel
theorem r164_183 : am_at 164 183 = some (.invokevirtual 84, 3, [155, 2, 774, 0]) := by decide +kernel
theorem r164_186 : am_at 164 186 = some (.putfield 28, 3, [0, 6, 0, 70]) := by decide +kernel
theorem r164_189 : am_at 164 189 = some (.return_, 1, []) := by decide +kernel
theorem rt164 : am_rtt 164 = some (none) := by decide +kernel
set_option maxRecDepth 100000 in
theorem pg164 : am_pg[164]? = some am_m164 := rfl
theorem m164_L64_w {d : Nat} {N : Nat} {v1 : Int32} {v2 : Int32} {v3 : Int32} {v4 : Int32} {v5 : Int32} {v6 : Int32} {mc ms : Nat} {Q : am_O → am_AH → Prop} (hd : 3 ≤ d) : ∀ (n : Nat) (D : am_D) (v7 : Int32) {q : am_D} (h : m164_L64 N v1 v2 v3 v4 v5 v6  n D v7 = some q) (k0 : am_X xs L 164 d mc ms 83 [.ref 2, .int v1, .int v2, .int v3, .int v4, .int v5, .int v6, am_dead] [] (am_mk q) 0 0 Q), am_X xs L 164 d mc ms 64 [.ref 2, .int v1, .int v2, .int v3, .int v4, .int v5, .int v6, .int v7] [] (am_mk D) 0 0 Q := by
  intro n
  induction n with
  | zero =>
    intro D v7 q h k0
    exact (nomatch (show none = some q from h))
  | succ n ih =>
    intro D v7 q h k0
    rw [m164_L64] at h
    refine x_ld (v := .int v7) r164_64 rfl rfl rfl ?_
    refine x_ld (v := .int v6) r164_66 rfl rfl rfl ?_
    rcases am_ifE h with ⟨c18, h⟩ | ⟨c18, h⟩
    · refine x_icleT r164_68 c18 ?_
      refine x_forget (lc0 := [.ref 2, .int v1, .int v2, .int v3, .int v4, .int v5, .int v6, am_dead]) ⟨Or.inl rfl, Or.inl rfl, Or.inl rfl, Or.inl rfl, Or.inl rfl, Or.inl rfl, Or.inl rfl, Or.inr ⟨rfl, rfl⟩, trivial⟩ ?_
      cases h
      exact k0
    · refine x_icleF r164_68 c18 rfl ?_
      refine x_ld (v := .ref 2) r164_71 rfl rfl rfl ?_
      refine x_ld (v := .int v7) r164_72 rfl rfl rfl ?_
      obtain ⟨q19, h20, h⟩ := am_ltE h
      replace h20 := h20.symm
      refine x_call0 (as := [.ref 2, .int v7]) (rest := []) r164_74 rfl rfl rfl (by decide) (Nat.le_of_ble_eq_true rfl) (m165_ok h20) (Nat.le_trans (by decide) hd) (Nat.zero_le _) (Nat.zero_le _) rfl ?_
      obtain ⟨x21, e22, h⟩ := am_ltE h
      refine x_sto (lc' := [.ref 2, .int v1, .int v2, .int v3, .int v4, .int v5, .int v6, .int x21]) r164_77 rfl rfl (by subst e22; rfl) rfl ?_
      refine x_goto r164_80 ?_
      exact x_forget (lc0 := [.ref 2, .int v1, .int v2, .int v3, .int v4, .int v5, .int v6, .int x21]) ⟨Or.inl rfl, Or.inl rfl, Or.inl rfl, Or.inl rfl, Or.inl rfl, Or.inl rfl, Or.inl rfl, Or.inl rfl, trivial⟩ (ih q19 x21 h k0)
theorem m164_w {d mc ms : Nat} {N : Nat} {D : am_D} {v1 : Int32} {v2 : Int32} {v3 : Int32} {Q : am_O → am_AH → Prop} (hd : 3 ≤ d) {r : am_D} (h : m164 N D v1 v2 v3 = some r) (hQ : Q (.inl none) (am_mk r)) : am_X xs L 164 d mc ms 0 [.ref 2, .int v1, .int v2, .int v3, am_dead, am_dead, am_dead, am_dead] [] (am_mk D) 0 0 Q := by
  unfold m164 at h
  refine x_ld (v := .ref 2) r164_0 rfl rfl rfl ?_
  refine y_gf (cd := 0) (v := .int (D.1 2 4)) r164_1 rfl rfl rfl ?_
  refine x_ld (v := .ref 2) r164_4 rfl rfl rfl ?_
  refine y_gf (cd := 5) (v := .ref 3) r164_5 rfl rfl rfl ?_
  refine y_alen (tag := 0) (n := 28) (v := 28) r164_8 rfl rfl rfl ?_
  rcases am_ifE h with ⟨c1, h⟩ | ⟨c1, h⟩
  · refine x_icltT r164_9 c1 ?_
    refine x_ld (v := .ref 2) r164_13 rfl rfl rfl ?_
    refine y_gf (cd := 0) (v := .int (D.1 2 4)) r164_14 rfl rfl rfl ?_
    obtain ⟨q2, h4, h⟩ := am_ltE h
    replace h4 := h4.symm
    have kj3 : am_X xs L 164 d mc ms 25 [.ref 2, .int v1, .int v2, .int v3, am_dead, am_dead, am_dead, am_dead] [.int q2] (am_mk D) 0 0 Q := by
      refine x_sto (lc' := [.ref 2, .int v1, .int v2, .int v3, .int q2, am_dead, am_dead, am_dead]) r164_25 rfl rfl rfl rfl ?_
      refine x_ld (v := .ref 2) r164_27 rfl rfl rfl ?_
      refine x_ld (v := .int v1) r164_28 rfl rfl rfl ?_
      refine x_ld (v := .int q2) r164_29 rfl rfl rfl ?_
      obtain ⟨q6, h8, h⟩ := am_ltE h
      replace h8 := h8.symm
      have kj7 : am_X xs L 164 d mc ms 39 [.ref 2, .int v1, .int v2, .int v3, .int q2, am_dead, am_dead, am_dead] [.int q6, .int v1, .ref 2] (am_mk D) 0 0 Q := by
        refine x_call1 (as := [.ref 2, .int v1, .int q6]) (rest := []) r164_39 rfl rfl rfl (by decide) (Nat.le_of_ble_eq_true rfl) (m162_ok rfl) (Nat.le_trans (by decide) hd) (Nat.zero_le _) (Nat.zero_le _) rfl ?_
        obtain ⟨x10, e11, h⟩ := am_ltE h
        refine am_topI e11 ?_
        refine x_sto (lc' := [.ref 2, .int v1, .int v2, .int v3, .int q2, .int x10, am_dead, am_dead]) r164_42 rfl rfl rfl rfl ?_
        refine x_ld (v := .int v2) r164_44 rfl rfl rfl ?_
        obtain ⟨q12, h14, h⟩ := am_ltE h
        replace h14 := h14.symm
        have kj13 : am_X xs L 164 d mc ms 56 [.ref 2, .int v1, .int v2, .int v3, .int q2, .int x10, am_dead, am_dead] [.int q12] (am_mk D) 0 0 Q := by
          refine x_sto (lc' := [.ref 2, .int v1, .int v2, .int v3, .int q2, .int x10, .int q12, am_dead]) r164_56 rfl rfl rfl rfl ?_
          refine x_ld (v := .ref 2) r164_58 rfl rfl rfl ?_
          refine y_gf (cd := 0) (v := .int (D.1 2 4)) r164_59 rfl rfl rfl ?_
          obtain ⟨x16, e17, h⟩ := am_ltE h
          refine am_topI e17 ?_
          refine x_sto (lc' := [.ref 2, .int v1, .int v2, .int v3, .int q2, .int x10, .int q12, .int x16]) r164_62 rfl rfl rfl rfl ?_
          obtain ⟨q23, h24, h⟩ := Option.bind_eq_some_iff.mp h
          refine x_forget (lc0 := [.ref 2, .int v1, .int v2, .int v3, .int q2, .int x10, .int q12, .int x16]) ⟨Or.inl rfl, Or.inl rfl, Or.inl rfl, Or.inl rfl, Or.inl rfl, Or.inl rfl, Or.inl rfl, Or.inl rfl, trivial⟩ (m164_L64_w hd N D x16 h24 ?_)
          refine x_ld (v := .ref 2) r164_83 rfl rfl rfl ?_
          refine y_gf (cd := 5) (v := .ref 3) r164_84 rfl rfl rfl ?_
          refine x_ld (v := .int q12) r164_87 rfl rfl rfl ?_
          refine x_ld (v := .int v1) r164_89 rfl rfl rfl ?_
          obtain ⟨D25, e26, h⟩ := am_ltE h
          refine x_call0 (as := [.ref 3, .int q12, .int v1]) (rest := []) r164_90 rfl rfl rfl (by decide) (Nat.le_of_ble_eq_true rfl) (am_rows_put (n := 28) rfl (by decide) e26) (Nat.le_trans (by decide) hd) (Nat.zero_le _) (Nat.zero_le _) rfl ?_
          refine x_ld (v := .ref 2) r164_93 rfl rfl rfl ?_
          refine y_gf (cd := 6) (v := .ref 4) r164_94 rfl rfl rfl ?_
          refine x_ld (v := .int q12) r164_97 rfl rfl rfl ?_
          refine x_ld (v := .int q2) r164_99 rfl rfl rfl ?_
          obtain ⟨q27, h29, h⟩ := am_ltE h
          replace h29 := h29.symm
          have kj28 : am_X xs L 164 d mc ms 117 [.ref 2, .int v1, .int v2, .int v3, .int q2, .int x10, .int q12, am_dead] [.int q27, .int q12, .ref 4] (am_mk D25) 0 0 Q := by
            obtain ⟨D32, e33, h⟩ := am_ltE h
            refine x_call0 (as := [.ref 4, .int q12, .int q27]) (rest := []) r164_117 rfl rfl rfl (by decide) (Nat.le_of_ble_eq_true rfl) (am_rows_put (n := 28) rfl (by decide) e33) (Nat.le_trans (by decide) hd) (Nat.zero_le _) (Nat.zero_le _) rfl ?_
            refine x_ld (v := .ref 2) r164_120 rfl rfl rfl ?_
            refine y_gf (cd := 7) (v := .ref 5) r164_121 rfl rfl rfl ?_
            refine x_ld (v := .int q12) r164_124 rfl rfl rfl ?_
            refine x_ld (v := .int v3) r164_126 rfl rfl rfl ?_
            obtain ⟨D34, e35, h⟩ := am_ltE h
            refine x_call0 (as := [.ref 5, .int q12, .int v3]) (rest := []) r164_127 rfl rfl rfl (by decide) (Nat.le_of_ble_eq_true rfl) (am_rows_put (n := 28) rfl (by decide) e35) (Nat.le_trans (by decide) hd) (Nat.zero_le _) (Nat.zero_le _) rfl ?_
            refine x_ld (v := .ref 2) r164_130 rfl rfl rfl ?_
            refine x_ar r164_131 rfl trivial rfl ?_
            refine y_gf (cd := 0) (v := .int (D34.1 2 4)) r164_132 rfl rfl rfl ?_
            refine x_ic (v := 1) r164_135 rfl rfl ?_
            refine x_ar r164_136 rfl trivial rfl ?_
            obtain ⟨D36, e37, h⟩ := am_ltE h
            refine y_pf0 r164_137 rfl e37 rfl ?_
            refine x_ld (v := .ref 2) r164_140 rfl rfl rfl ?_
            refine y_gf (cd := 8) (v := .ref 6) r164_141 rfl rfl rfl ?_
            refine x_ld (v := .int q12) r164_144 rfl rfl rfl ?_
            refine x_ld (v := .ref 2) r164_146 rfl rfl rfl ?_
            refine y_gf (cd := 0) (v := .int (D36.1 2 4)) r164_147 rfl rfl rfl ?_
            obtain ⟨D38, e39, h⟩ := am_ltE h
            refine x_call0 (as := [.ref 6, .int q12, .int (D36.1 2 4)]) (rest := []) r164_150 rfl rfl rfl (by decide) (Nat.le_of_ble_eq_true rfl) (am_rows_put (n := 28) rfl (by decide) e39) (Nat.le_trans (by decide) hd) (Nat.zero_le _) (Nat.zero_le _) rfl ?_
            refine x_ld (v := .ref 2) r164_153 rfl rfl rfl ?_
            refine x_ld (v := .int q2) r164_154 rfl rfl rfl ?_
            obtain ⟨q40, h42, h⟩ := am_ltE h
            replace h42 := h42.symm
            have kj41 : am_X xs L 164 d mc ms 172 [.ref 2, .int v1, .int v2, .int v3, .int q2, .int x10, .int q12, am_dead] [.int q40, .ref 2] (am_mk D38) 0 0 Q := by
              obtain ⟨D45, e46, h⟩ := am_ltE h
              refine y_pf0 r164_172 rfl e46 rfl ?_
              refine x_ld (v := .ref 2) r164_175 rfl rfl rfl ?_
              refine x_ld (v := .ref 2) r164_176 rfl rfl rfl ?_
              refine x_ld (v := .ref 2) r164_177 rfl rfl rfl ?_
              refine y_gf (cd := 0) (v := .int (D45.1 2 4)) r164_178 rfl rfl rfl ?_
              refine x_ic (v := 1) r164_181 rfl rfl ?_
              refine x_ar r164_182 rfl trivial rfl ?_
              refine x_call1 (as := [.ref 2, .int ((D45.1 2 4) - (1 : Int32))]) (rest := [.ref 2]) r164_183 rfl rfl rfl (by decide) (Nat.le_of_ble_eq_true rfl) (m155_ok rfl) (Nat.le_trans (by decide) hd) (Nat.zero_le _) (Nat.zero_le _) rfl ?_
              obtain ⟨D47, e48, h⟩ := am_ltE h
              refine y_pf0 r164_186 rfl e48 rfl ?_
              cases h
              exact x_ret (ret := none) (C := True) (v := none) r164_189 rt164 rfl rfl rfl rfl rfl rfl rfl rfl trivial hQ
            rcases am_ifE h42 with ⟨c43, h42⟩ | ⟨c43, h42⟩
            · refine x_ifneT r164_156 c43 rfl ?_
              refine x_ld (v := .int v2) r164_159 rfl rfl rfl ?_
              rcases am_ifE h42 with ⟨c44, h42⟩ | ⟨c44, h42⟩
              · refine x_ifneT r164_160 c44 rfl ?_
                refine x_ld (v := .int x10) r164_163 rfl rfl rfl ?_
                refine x_goto r164_165 ?_
                subst h42
                exact kj41
              · refine x_ifneF r164_160 c44 ?_
                refine x_ld (v := .ref 2) r164_168 rfl rfl rfl ?_
                refine y_gf (cd := 0) (v := .int (D38.1 2 5)) r164_169 rfl rfl rfl ?_
                subst h42
                exact kj41
            · refine x_ifneF r164_156 c43 ?_
              refine x_ld (v := .int x10) r164_163 rfl rfl rfl ?_
              refine x_goto r164_165 ?_
              subst h42
              exact kj41
          rcases am_ifE h29 with ⟨c30, h29⟩ | ⟨c30, h29⟩
          · refine x_ifneT r164_101 c30 rfl ?_
            refine x_ld (v := .int v2) r164_104 rfl rfl rfl ?_
            rcases am_ifE h29 with ⟨c31, h29⟩ | ⟨c31, h29⟩
            · refine x_ifneT r164_105 c31 rfl ?_
              refine x_ld (v := .int x10) r164_108 rfl rfl rfl ?_
              refine x_goto r164_110 ?_
              subst h29
              exact kj28
            · refine x_ifneF r164_105 c31 ?_
              refine x_ld (v := .ref 2) r164_113 rfl rfl rfl ?_
              refine y_gf (cd := 0) (v := .int (D25.1 2 6)) r164_114 rfl rfl rfl ?_
              subst h29
              exact kj28
          · refine x_ifneF r164_101 c30 ?_
            refine x_ld (v := .int x10) r164_108 rfl rfl rfl ?_
            refine x_goto r164_110 ?_
            subst h29
            exact kj28
        rcases am_ifE h14 with ⟨c15, h14⟩ | ⟨c15, h14⟩
        · refine x_ifneT r164_45 c15 rfl ?_
          refine x_ic (v := 0) r164_48 rfl rfl ?_
          refine x_goto r164_49 ?_
          subst h14
          exact kj13
        · refine x_ifneF r164_45 c15 ?_
          refine x_ld (v := .ref 2) r164_52 rfl rfl rfl ?_
          refine y_gf (cd := 0) (v := .int (D.1 2 4)) r164_53 rfl rfl rfl ?_
          subst h14
          exact kj13
      rcases am_ifE h8 with ⟨c9, h8⟩ | ⟨c9, h8⟩
      · refine x_ifeqT r164_31 c9 ?_
        refine x_ld (v := .int v2) r164_38 rfl rfl rfl ?_
        subst h8
        exact kj7
      · refine x_ifeqF r164_31 c9 rfl ?_
        refine x_ic (v := 0) r164_34 rfl rfl ?_
        refine x_goto r164_35 ?_
        subst h8
        exact kj7
    rcases am_ifE h4 with ⟨c5, h4⟩ | ⟨c5, h4⟩
    · refine x_ifneT r164_17 c5 rfl ?_
      refine x_ic (v := 1) r164_20 rfl rfl ?_
      refine x_goto r164_21 ?_
      subst h4
      exact kj3
    · refine x_ifneF r164_17 c5 ?_
      refine x_ic (v := 0) r164_24 rfl rfl ?_
      subst h4
      exact kj3
  · refine x_icltF r164_9 c1 rfl ?_
    cases h
    exact x_ret (ret := none) (C := True) (v := none) r164_12 rt164 rfl rfl rfl rfl rfl rfl rfl rfl trivial hQ
theorem m164_ok {N : Nat} {D : am_D} {v1 : Int32} {v2 : Int32} {v3 : Int32} {r : am_D} (h : m164 N D v1 v2 v3 = some r) : am_Y xs L 164 3 0 0 [.ref 2, .int v1, .int v2, .int v3] D (.inl none) r := am_Yof (mi := am_m164) (lc := [.ref 2, .int v1, .int v2, .int v3, am_dead, am_dead, am_dead, am_dead]) pg164 (Nat.le_of_ble_eq_true rfl) (am_rc1 (ci := 0) rfl rfl rfl rfl rfl) rfl (fun Q hQ => m164_w (Nat.le_refl _) h hQ)
theorem r175_0 : am_at 175 0 = some (.iload_n 3, 1, [3]) := by decide +kernel
theorem r175_1 : am_at 175 1 = some (.iload 4, 2, [4]) := by decide +kernel
theorem r175_3 : am_at 175 3 = some (.ishr, 1, []) := by decide +kernel
theorem r175_4 : am_at 175 4 = some (.iconst (1), 1, []) := by decide +kernel
theorem r175_5 : am_at 175 5 = some (.iand, 1, []) := by decide +kernel
theorem r175_6 : am_at 175 6 = some (.ifCond .eq (48), 3, [54]) := by decide +kernel
theorem r175_9 : am_at 175 9 = some (.aload_n 0, 1, [0]) := by decide +kernel
theorem r175_10 : am_at 175 10 = some (.getfield 15, 3, [2, 1, 3, 220]) := by decide +kernel
theorem r175_13 : am_at 175 13 = some (.iload 4, 2, [4]) := by decide +kernel
theorem r175_15 : am_at 175 15 = some (.invokestatic 94, 3, [180, 2, 820, 0]) := by decide +kernel
theorem r175_18 : am_at 175 18 = some (.iload_n 2, 1, [2]) := by decide +kernel
theorem r175_19 : am_at 175 19 = some (.if_icmp .ne (35), 3, [54]) := by decide +kernel
theorem r175_22 : am_at 175 22 = some (.aload_n 0, 1, [0]) := by decide +kernel
theorem r175_23 : am_at 175 23 = some (.getfield 9, 3, [2, 0, 3, 219]) := by decide +kernel
theorem r175_26 : am_at 175 26 = some (.iload 4, 2, [4]) := by decide +kernel
theorem r175_28 : am_at 175 28 = some (.invokestatic 94, 3, [180, 2, 820, 0]) := by decide +kernel
theorem r175_31 : am_at 175 31 = some (.aload_n 0, 1, [0]) := by decide +kernel
theorem r175_32 : am_at 175 32 = some (.getfield 18, 3, [2, 2, 3, 221]) := by decide +kernel
theorem r175_35 : am_at 175 35 = some (.iconst (2), 1, []) := by decide +kernel
theorem r175_36 : am_at 175 36 = some (.iload_n 1, 1, [1]) := by decide +kernel
theorem r175_37 : am_at 175 37 = some (.imul, 1, []) := by decide +kernel
theorem r175_38 : am_at 175 38 = some (.iload 5, 2, [5]) := by decide +kernel
theorem r175_40 : am_at 175 40 = some (.iadd, 1, []) := by decide +kernel
theorem r175_41 : am_at 175 41 = some (.invokestatic 94, 3, [180, 2, 820, 0]) := by decide +kernel
theorem r175_44 : am_at 175 44 = some (.invokestatic 98, 3, [253, 2, 821, 0]) := by decide +kernel
theorem r175_47 : am_at 175 47 = some (.ifCond .eq (7), 3, [54]) := by decide +kernel
theorem r175_50 : am_at 175 50 = some (.iconst (1), 1, []) := by decide +kernel
theorem r175_51 : am_at 175 51 = some (.goto (4), 3, [55]) := by decide +kernel
theorem r175_54 : am_at 175 54 = some (.iconst (0), 1, []) := by decide +kernel
theorem r175_55 : am_at 175 55 = some (.ireturn, 1, []) := by decide +kernel
theorem rt175 : am_rtt 175 = some (some .boolean) := by decide +kernel
set_option maxRecDepth 100000 in
theorem pg175 : am_pg[175]? = some am_m175 := rfl
theorem m175_w {d mc ms : Nat} {D : am_D} {v1 : Int32} {v2 : Int32} {v3 : Int32} {v4 : Int32} {v5 : Int32} {Q : am_O → am_AH → Prop} (hd : 3 ≤ d) {r : Int32} (h : m175 D v1 v2 v3 v4 v5 = r) (hQ : Q (.inl (some (.int r))) (am_mk D)) : am_X xs L 175 d mc ms 0 [.ref 99, .int v1, .int v2, .int v3, .int v4, .int v5] [] (am_mk D) 0 0 Q := by
  unfold m175 at h
  refine x_ld (v := .int v3) r175_0 rfl rfl rfl ?_
  refine x_ld (v := .int v4) r175_1 rfl rfl rfl ?_
  refine x_ar r175_3 rfl trivial rfl ?_
  refine x_ic (v := 1) r175_4 rfl rfl ?_
  refine x_ar r175_5 rfl trivial rfl ?_
  rcases am_ifE h with ⟨c1, h⟩ | ⟨c1, h⟩
  · refine x_ifeqT r175_6 c1 ?_
    refine x_ic (v := 0) r175_54 rfl rfl ?_
    subst h
    exact x_ret (ret := some .boolean) (C := narrow .boolean (.int (0 : Int32)) = .int (0 : Int32)) (v := some (.int (0 : Int32))) r175_55 rt175 rfl rfl rfl rfl rfl rfl rfl rfl (by decide) hQ
  · refine x_ifeqF r175_6 c1 rfl ?_
    refine x_ld (v := .ref 99) r175_9 rfl rfl rfl ?_
    refine y_gf (cd := 103) (v := .ref 101) r175_10 rfl rfl rfl ?_
    refine x_ld (v := .int v4) r175_13 rfl rfl rfl ?_
    refine x_call1 (as := [.ref 101, .int v4]) (rest := []) r175_15 rfl rfl rfl (by decide) (Nat.le_of_ble_eq_true rfl) (am_rows_at (n := 9) rfl (by decide)) (Nat.le_trans (by decide) hd) (Nat.zero_le _) (Nat.zero_le _) rfl ?_
    refine x_ld (v := .int v2) r175_18 rfl rfl rfl ?_
    rcases am_ifE h with ⟨c2, h⟩ | ⟨c2, h⟩
    · refine x_icneT r175_19 c2 rfl ?_
      refine x_ld (v := .ref 99) r175_22 rfl rfl rfl ?_
      refine y_gf (cd := 102) (v := .ref 100) r175_23 rfl rfl rfl ?_
      refine x_ld (v := .int v4) r175_26 rfl rfl rfl ?_
      refine x_call1 (as := [.ref 100, .int v4]) (rest := []) r175_28 rfl rfl rfl (by decide) (Nat.le_of_ble_eq_true rfl) (am_rows_at (n := 9) rfl (by decide)) (Nat.le_trans (by decide) hd) (Nat.zero_le _) (Nat.zero_le _) rfl ?_
      refine x_ld (v := .ref 99) r175_31 rfl rfl rfl ?_
      refine y_gf (cd := 104) (v := .ref 102) r175_32 rfl rfl rfl ?_
      refine x_ic (v := 2) r175_35 rfl rfl ?_
      refine x_ld (v := .int v1) r175_36 rfl rfl rfl ?_
      refine x_ar r175_37 rfl trivial rfl ?_
      refine x_ld (v := .int v5) r175_38 rfl rfl rfl ?_
      refine x_ar r175_40 rfl trivial rfl ?_
      refine x_call1 (as := [.ref 102, .int (((2 : Int32) * v1) + v5)]) (rest := [.int (am_rat (D.1 100) 9 v4)]) r175_41 rfl rfl rfl (by decide) (Nat.le_of_ble_eq_true rfl) (am_rows_at (n := 20) rfl (by decide)) (Nat.le_trans (by decide) hd) (Nat.zero_le _) (Nat.zero_le _) rfl ?_
      refine x_call1 (as := [.int (am_rat (D.1 100) 9 v4), .int (am_rat (D.1 102) 20 (((2 : Int32) * v1) + v5))]) (rest := []) r175_44 rfl rfl rfl (by decide) (Nat.le_of_ble_eq_true rfl) (m253_ok rfl) (Nat.le_trans (by decide) hd) (Nat.zero_le _) (Nat.zero_le _) rfl ?_
      rcases am_ifE h with ⟨c3, h⟩ | ⟨c3, h⟩
      · refine x_ifeqT r175_47 c3 ?_
        refine x_ic (v := 0) r175_54 rfl rfl ?_
        subst h
        exact x_ret (ret := some .boolean) (C := narrow .boolean (.int (0 : Int32)) = .int (0 : Int32)) (v := some (.int (0 : Int32))) r175_55 rt175 rfl rfl rfl rfl rfl rfl rfl rfl (by decide) hQ
      · refine x_ifeqF r175_47 c3 rfl ?_
        refine x_ic (v := 1) r175_50 rfl rfl ?_
        refine x_goto r175_51 ?_
        subst h
        exact x_ret (ret := some .boolean) (C := narrow .boolean (.int (1 : Int32)) = .int (1 : Int32)) (v := some (.int (1 : Int32))) r175_55 rt175 rfl rfl rfl rfl rfl rfl rfl rfl (by decide) hQ
    · refine x_icneF r175_19 c2 ?_
      refine x_ic (v := 0) r175_54 rfl rfl ?_
      subst h
      exact x_ret (ret := some .boolean) (C := narrow .boolean (.int (0 : Int32)) = .int (0 : Int32)) (v := some (.int (0 : Int32))) r175_55 rt175 rfl rfl rfl rfl rfl rfl rfl rfl (by decide) hQ
theorem m175_ok {D : am_D} {v1 : Int32} {v2 : Int32} {v3 : Int32} {v4 : Int32} {v5 : Int32} {r : Int32} (h : m175 D v1 v2 v3 v4 v5 = r) : am_Y xs L 175 3 0 0 [.ref 99, .int v1, .int v2, .int v3, .int v4, .int v5] D (.inl (some (.int r))) D := am_Yof (mi := am_m175) (lc := [.ref 99, .int v1, .int v2, .int v3, .int v4, .int v5]) pg175 (Nat.le_of_ble_eq_true rfl) (am_rc1 (ci := 2) rfl rfl rfl rfl rfl) rfl (fun Q hQ => m175_w (Nat.le_refl _) h hQ)
theorem m175_b (D : am_D) (v1 : Int32) (v2 : Int32) (v3 : Int32) (v4 : Int32) (v5 : Int32) : m175 D v1 v2 v3 v4 v5 &&& 1 = m175 D v1 v2 v3 v4 v5 := by
  unfold m175
  (repeat' split) <;> rfl
theorem r178_0 : am_at 178 0 = some (.iconst (0), 1, []) := by decide +kernel
theorem r178_1 : am_at 178 1 = some (.istore_n 3, 1, [3]) := by decide +kernel
theorem r178_2 : am_at 178 2 = some (.iconst (0), 1, []) := by decide +kernel
theorem r178_3 : am_at 178 3 = some (.istore 4, 2, [4]) := by decide +kernel
theorem r178_5 : am_at 178 5 = some (.iload 4, 2, [4]) := by decide +kernel
theorem r178_7 : am_at 178 7 = some (.aload_n 0, 1, [0]) := by decide +kernel
theorem r178_8 : am_at 178 8 = some (.getfield 24, 3, [2, 4, 0, 223]) := by decide +kernel
theorem r178_11 : am_at 178 11 = some (.if_icmp .ge (64), 3, [75]) := by decide +kernel
theorem r178_14 : am_at 178 14 = some (.iload_n 2, 1, [2]) := by decide +kernel
theorem r178_15 : am_at 178 15 = some (.iload 4, 2, [4]) := by decide +kernel
theorem r178_17 : am_at 178 17 = some (.ishr, 1, []) := by decide +kernel
theorem r178_18 : am_at 178 18 = some (.iconst (1), 1, []) := by decide +kernel
theorem r178_19 : am_at 178 19 = some (.iand, 1, []) := by decide +kernel
theorem r178_20 : am_at 178 20 = some (.ifCond .eq (22), 3, [42]) := by decide +kernel
theorem r178_23 : am_at 178 23 = some (.aload_n 0, 1, [0]) := by decide +kernel
theorem r178_24 : am_at 178 24 = some (.getfield 15, 3, [2, 1, 3, 220]) := by decide +kernel
theorem r178_27 : am_at 178 27 = some (.iload 4, 2, [4]) := by decide +kernel
theorem r178_29 : am_at 178 29 = some (.invokestatic 94, 3, [180, 2, 820, 0]) := by decide +kernel
theorem r178_32 : am_at 178 32 = some (.iconst (2), 1, []) := by decide +kernel
theorem r178_33 : am_at 178 33 = some (.irem, 1, []) := by decide +kernel
theorem r178_34 : am_at 178 34 = some (.iload_n 1, 1, [1]) := by decide +kernel
theorem r178_35 : am_at 178 35 = some (.if_icmp .ne (7), 3, [42]) := by decide +kernel
theorem r178_38 : am_at 178 38 = some (.iconst (1), 1, []) := by decide +kernel
theorem r178_39 : am_at 178 39 = some (.goto (4), 3, [43]) := by decide +kernel
theorem r178_42 : am_at 178 42 = some (.iconst (0), 1, []) := by decide +kernel
theorem r178_43 : am_at 178 43 = some (.istore 5, 2, [5]) := by decide +kernel
theorem r178_45 : am_at 178 45 = some (.iload_n 3, 1, [3]) := by decide +kernel
theorem r178_46 : am_at 178 46 = some (.iload 5, 2, [5]) := by decide +kernel
theorem r178_48 : am_at 178 48 = some (.ifCond .eq (18), 3, [66]) := by decide +kernel
theorem r178_51 : am_at 178 51 = some (.aload_n 0, 1, [0]) := by decide +kernel
theorem r178_52 : am_at 178 52 = some (.getfield 9, 3, [2, 0, 3, 219]) := by decide +kernel
theorem r178_55 : am_at 178 55 = some (.iload 4, 2, [4]) := by decide +kernel
theorem r178_57 : am_at 178 57 = some (.invokestatic 94, 3, [180, 2, 820, 0]) := by decide +kernel
theorem r178_60 : am_at 178 60 = some (.invokestatic 104, 3, [251, 1, 831, 0]) := by decide +kernel
theorem r178_63 : am_at 178 63 = some (.goto (4), 3, [67]) := by decide +kernel
theorem r178_66 : am_at 178 66 = some (.iconst (0), 1, []) := by decide +kernel
theorem r178_67 : am_at 178 67 = some (.iadd, 1, []) := by decide +kernel
theorem r178_68 : am_at 178 68 = some (.istore_n 3, 1, [3]) := by decide +kernel
theorem r178_69 : am_at 178 69 = some (.iinc 4 (1), 3, [4]) := by decide +kernel
theorem r178_72 : am_at 178 72 = some (.goto (-67), 3, [5]) := by decide +kernel
theorem r178_75 : am_at 178 75 = some (.iload_n 3, 1, [3]) := by decide +kernel
theorem r178_76 : am_at 178 76 = some (.ireturn, 1, []) := by decide +kernel
theorem rt178 : am_rtt 178 = some (some .int) := by decide +kernel
set_option maxRecDepth 100000 in
theorem pg178 : am_pg[178]? = some am_m178 := rfl
theorem m178_L5_w {d : Nat} {N : Nat} {D : am_D} {v1 : Int32} {v2 : Int32} {mc ms : Nat} {Q : am_O → am_AH → Prop} (hd : 2 ≤ d) : ∀ (n : Nat) (v3 : Int32) (v4 : Int32) {q : Int32} (h : m178_L5 N D v1 v2  n v3 v4 = some q) (k0 : am_X xs L 178 d mc ms 75 [.ref 99, am_dead, am_dead, .int q, am_dead, am_dead] [] (am_mk D) 0 0 Q), am_X xs L 178 d mc ms 5 [.ref 99, .int v1, .int v2, .int v3, .int v4, am_dead] [] (am_mk D) 0 0 Q := by
  intro n
  induction n with
  | zero =>
    intro v3 v4 q h k0
    exact (nomatch (show none = some q from h))
  | succ n ih =>
    intro v3 v4 q h k0
    rw [m178_L5] at h
    refine x_ld (v := .int v4) r178_5 rfl rfl rfl ?_
    refine x_ld (v := .ref 99) r178_7 rfl rfl rfl ?_
    refine y_gf (cd := 0) (v := .int (D.1 99 4)) r178_8 rfl rfl rfl ?_
    rcases am_ifE h with ⟨c1, h⟩ | ⟨c1, h⟩
    · refine x_icgeT r178_11 c1 ?_
      refine x_forget (lc0 := [.ref 99, am_dead, am_dead, .int v3, am_dead, am_dead]) ⟨Or.inl rfl, Or.inr ⟨rfl, rfl⟩, Or.inr ⟨rfl, rfl⟩, Or.inl rfl, Or.inr ⟨rfl, rfl⟩, Or.inl rfl, trivial⟩ ?_
      cases h
      exact k0
    · refine x_icgeF r178_11 c1 rfl ?_
      refine x_ld (v := .int v2) r178_14 rfl rfl rfl ?_
      refine x_ld (v := .int v4) r178_15 rfl rfl rfl ?_
      refine x_ar r178_17 rfl trivial rfl ?_
      refine x_ic (v := 1) r178_18 rfl rfl ?_
      refine x_ar r178_19 rfl trivial rfl ?_
      obtain ⟨q2, h4, h⟩ := am_ltE h
      replace h4 := h4.symm
      have kj3 : am_X xs L 178 d mc ms 43 [.ref 99, .int v1, .int v2, .int v3, .int v4, am_dead] [.int q2] (am_mk D) 0 0 Q := by
        refine x_sto (lc' := [.ref 99, .int v1, .int v2, .int v3, .int v4, .int q2]) r178_43 rfl rfl rfl rfl ?_
        refine x_ld (v := .int v3) r178_45 rfl rfl rfl ?_
        refine x_ld (v := .int q2) r178_46 rfl rfl rfl ?_
        obtain ⟨q7, h9, h⟩ := am_ltE h
        replace h9 := h9.symm
        have kj8 : am_X xs L 178 d mc ms 67 [.ref 99, .int v1, .int v2, .int v3, .int v4, .int q2] [.int q7, .int v3] (am_mk D) 0 0 Q := by
          refine x_ar r178_67 rfl trivial rfl ?_
          obtain ⟨x11, e12, h⟩ := am_ltE h
          refine am_topI e12 ?_
          refine x_sto (lc' := [.ref 99, .int v1, .int v2, .int x11, .int v4, .int q2]) r178_68 rfl rfl rfl rfl ?_
          obtain ⟨x13, e14, h⟩ := am_ltE h
          refine x_sto (lc' := [.ref 99, .int v1, .int v2, .int x11, .int x13, .int q2]) r178_69 rfl rfl (by subst e14; rfl) rfl ?_
          refine x_goto r178_72 ?_
          exact x_forget (lc0 := [.ref 99, .int v1, .int v2, .int x11, .int x13, am_dead]) ⟨Or.inl rfl, Or.inl rfl, Or.inl rfl, Or.inl rfl, Or.inl rfl, Or.inr ⟨rfl, rfl⟩, trivial⟩ (ih x11 x13 h k0)
        rcases am_ifE h9 with ⟨c10, h9⟩ | ⟨c10, h9⟩
        · refine x_ifeqT r178_48 c10 ?_
          refine x_ic (v := 0) r178_66 rfl rfl ?_
          subst h9
          exact kj8
        · refine x_ifeqF r178_48 c10 rfl ?_
          refine x_ld (v := .ref 99) r178_51 rfl rfl rfl ?_
          refine y_gf (cd := 102) (v := .ref 100) r178_52 rfl rfl rfl ?_
          refine x_ld (v := .int v4) r178_55 rfl rfl rfl ?_
          refine x_call1 (as := [.ref 100, .int v4]) (rest := [.int v3]) r178_57 rfl rfl rfl (by decide) (Nat.le_of_ble_eq_true rfl) (am_rows_at (n := 9) rfl (by decide)) (Nat.le_trans (by decide) hd) (Nat.zero_le _) (Nat.zero_le _) rfl ?_
          refine x_call1 (as := [.int (am_rat (D.1 100) 9 v4)]) (rest := [.int v3]) r178_60 rfl rfl rfl (by decide) (Nat.le_of_ble_eq_true rfl) (m251_ok rfl) (Nat.le_trans (by decide) hd) (Nat.zero_le _) (Nat.zero_le _) rfl ?_
          refine x_goto r178_63 ?_
          subst h9
          exact kj8
      rcases am_ifE h4 with ⟨c5, h4⟩ | ⟨c5, h4⟩
      · refine x_ifeqT r178_20 c5 ?_
        refine x_ic (v := 0) r178_42 rfl rfl ?_
        subst h4
        exact kj3
      · refine x_ifeqF r178_20 c5 rfl ?_
        refine x_ld (v := .ref 99) r178_23 rfl rfl rfl ?_
        refine y_gf (cd := 103) (v := .ref 101) r178_24 rfl rfl rfl ?_
        refine x_ld (v := .int v4) r178_27 rfl rfl rfl ?_
        refine x_call1 (as := [.ref 101, .int v4]) (rest := []) r178_29 rfl rfl rfl (by decide) (Nat.le_of_ble_eq_true rfl) (am_rows_at (n := 9) rfl (by decide)) (Nat.le_trans (by decide) hd) (Nat.zero_le _) (Nat.zero_le _) rfl ?_
        refine x_ic (v := 2) r178_32 rfl rfl ?_
        refine x_ar r178_33 rfl (by decide) rfl ?_
        refine x_ld (v := .int v1) r178_34 rfl rfl rfl ?_
        rcases am_ifE h4 with ⟨c6, h4⟩ | ⟨c6, h4⟩
        · refine x_icneT r178_35 c6 rfl ?_
          refine x_ic (v := 1) r178_38 rfl rfl ?_
          refine x_goto r178_39 ?_
          subst h4
          exact kj3
        · refine x_icneF r178_35 c6 ?_
          refine x_ic (v := 0) r178_42 rfl rfl ?_
          subst h4
          exact kj3
theorem m178_w {d mc ms : Nat} {N : Nat} {D : am_D} {v1 : Int32} {v2 : Int32} {Q : am_O → am_AH → Prop} (hd : 2 ≤ d) {r : Int32} (h : m178 N D v1 v2 = some r) (hQ : Q (.inl (some (.int r))) (am_mk D)) : am_X xs L 178 d mc ms 0 [.ref 99, .int v1, .int v2, am_dead, am_dead, am_dead] [] (am_mk D) 0 0 Q := by
  unfold m178 at h
  refine x_ic (v := 0) r178_0 rfl rfl ?_
  refine x_sto (lc' := [.ref 99, .int v1, .int v2, .int (0 : Int32), am_dead, am_dead]) r178_1 rfl rfl rfl rfl ?_
  refine x_ic (v := 0) r178_2 rfl rfl ?_
  refine x_sto (lc' := [.ref 99, .int v1, .int v2, .int (0 : Int32), .int (0 : Int32), am_dead]) r178_3 rfl rfl rfl rfl ?_
  obtain ⟨q15, h16, h⟩ := Option.bind_eq_some_iff.mp h
  refine x_forget (lc0 := [.ref 99, .int v1, .int v2, .int (0 : Int32), .int (0 : Int32), am_dead]) ⟨Or.inl rfl, Or.inl rfl, Or.inl rfl, Or.inl rfl, Or.inl rfl, Or.inl rfl, trivial⟩ (m178_L5_w hd N (0 : Int32) (0 : Int32) h16 ?_)
  refine x_ld (v := .int q15) r178_75 rfl rfl rfl ?_
  cases h
  exact x_ret (ret := some .int) (C := True) (v := some (.int _)) r178_76 rt178 rfl rfl rfl rfl rfl rfl rfl rfl trivial hQ
theorem m178_ok {N : Nat} {D : am_D} {v1 : Int32} {v2 : Int32} {r : Int32} (h : m178 N D v1 v2 = some r) : am_Y xs L 178 2 0 0 [.ref 99, .int v1, .int v2] D (.inl (some (.int r))) D := am_Yof (mi := am_m178) (lc := [.ref 99, .int v1, .int v2, am_dead, am_dead, am_dead]) pg178 (Nat.le_of_ble_eq_true rfl) (am_rc1 (ci := 2) rfl rfl rfl rfl rfl) rfl (fun Q hQ => m178_w (Nat.le_refl _) h hQ)
theorem r179_0 : am_at 179 0 = some (.aload_n 0, 1, [0]) := by decide +kernel
theorem r179_1 : am_at 179 1 = some (.iconst (1), 1, []) := by decide +kernel
theorem r179_2 : am_at 179 2 = some (.iload_n 1, 1, [1]) := by decide +kernel
theorem r179_3 : am_at 179 3 = some (.invokevirtual 117, 3, [178, 3, 827, 0]) := by decide +kernel
theorem r179_6 : am_at 179 6 = some (.aload_n 0, 1, [0]) := by decide +kernel
theorem r179_7 : am_at 179 7 = some (.iconst (0), 1, []) := by decide +kernel
theorem r179_8 : am_at 179 8 = some (.iload_n 1, 1, [1]) := by decide +kernel
theorem r179_9 : am_at 179 9 = some (.invokevirtual 117, 3, [178, 3, 827, 0]) := by decide +kernel
theorem r179_12 : am_at 179 12 = some (.isub, 1, []) := by decide +kernel
theorem r179_13 : am_at 179 13 = some (.iconst (5), 1, []) := by decide +kernel
theorem r179_14 : am_at 179 14 = some (.idiv, 1, []) := by decide +kernel
theorem r179_15 : am_at 179 15 = some (.ireturn, 1, []) := by decide +kernel
theorem rt179 : am_rtt 179 = some (some .int) := by decide +kernel
set_option maxRecDepth 100000 in
theorem pg179 : am_pg[179]? = some am_m179 := rfl
theorem m179_w {d mc ms : Nat} {N : Nat} {D : am_D} {v1 : Int32} {Q : am_O → am_AH → Prop} (hd : 3 ≤ d) {r : Int32} (h : m179 N D v1 = some r) (hQ : Q (.inl (some (.int r))) (am_mk D)) : am_X xs L 179 d mc ms 0 [.ref 99, .int v1] [] (am_mk D) 0 0 Q := by
  unfold m179 at h
  refine x_ld (v := .ref 99) r179_0 rfl rfl rfl ?_
  refine x_ic (v := 1) r179_1 rfl rfl ?_
  refine x_ld (v := .int v1) r179_2 rfl rfl rfl ?_
  obtain ⟨q1, h2, h⟩ := Option.bind_eq_some_iff.mp h
  refine x_call1 (as := [.ref 99, .int (1 : Int32), .int v1]) (rest := []) r179_3 rfl rfl rfl (by decide) (Nat.le_of_ble_eq_true rfl) (m178_ok h2) (Nat.le_trans (by decide) hd) (Nat.zero_le _) (Nat.zero_le _) rfl ?_
  refine x_ld (v := .ref 99) r179_6 rfl rfl rfl ?_
  refine x_ic (v := 0) r179_7 rfl rfl ?_
  refine x_ld (v := .int v1) r179_8 rfl rfl rfl ?_
  obtain ⟨q3, h4, h⟩ := Option.bind_eq_some_iff.mp h
  refine x_call1 (as := [.ref 99, .int (0 : Int32), .int v1]) (rest := [.int q1]) r179_9 rfl rfl rfl (by decide) (Nat.le_of_ble_eq_true rfl) (m178_ok h4) (Nat.le_trans (by decide) hd) (Nat.zero_le _) (Nat.zero_le _) rfl ?_
  refine x_ar r179_12 rfl trivial rfl ?_
  refine x_ic (v := 5) r179_13 rfl rfl ?_
  refine x_ar r179_14 rfl (by decide) rfl ?_
  cases h
  exact x_ret (ret := some .int) (C := True) (v := some (.int _)) r179_15 rt179 rfl rfl rfl rfl rfl rfl rfl rfl trivial hQ
theorem m179_ok {N : Nat} {D : am_D} {v1 : Int32} {r : Int32} (h : m179 N D v1 = some r) : am_Y xs L 179 3 0 0 [.ref 99, .int v1] D (.inl (some (.int r))) D := am_Yof (mi := am_m179) (lc := [.ref 99, .int v1]) pg179 (Nat.le_of_ble_eq_true rfl) (am_rc1 (ci := 2) rfl rfl rfl rfl rfl) rfl (fun Q hQ => m179_w (Nat.le_refl _) h hQ)
theorem r191_0 : am_at 191 0 = some (.iconst (1), 1, []) := by decide +kernel
theorem r191_1 : am_at 191 1 = some (.iload_n 2, 1, [2]) := by decide +kernel
theorem r191_2 : am_at 191 2 = some (.invokestatic 62, 3, [249, 1, 868, 0]) := by decide +kernel
theorem r191_5 : am_at 191 5 = some (.ishl, 1, []) := by decide +kernel
theorem r191_6 : am_at 191 6 = some (.iconst (1), 1, []) := by decide +kernel
theorem r191_7 : am_at 191 7 = some (.iload_n 2, 1, [2]) := by decide +kernel
theorem r191_8 : am_at 191 8 = some (.invokestatic 67, 3, [250, 1, 869, 0]) := by decide +kernel
theorem r191_11 : am_at 191 11 = some (.ishl, 1, []) := by decide +kernel
theorem r191_12 : am_at 191 12 = some (.ior, 1, []) := by decide +kernel
theorem r191_13 : am_at 191 13 = some (.istore_n 3, 1, [3]) := by decide +kernel
theorem r191_14 : am_at 191 14 = some (.iconst (0), 1, []) := by decide +kernel
theorem r191_15 : am_at 191 15 = some (.istore 4, 2, [4]) := by decide +kernel
theorem r191_17 : am_at 191 17 = some (.iconst (0), 1, []) := by decide +kernel
theorem r191_18 : am_at 191 18 = some (.istore 5, 2, [5]) := by decide +kernel
theorem r191_20 : am_at 191 20 = some (.iload 5, 2, [5]) := by decide +kernel
theorem r191_22 : am_at 191 22 = some (.iconst (3), 1, []) := by decide +kernel
theorem r191_23 : am_at 191 23 = some (.if_icmp .ge (49), 3, [72]) := by decide +kernel
theorem r191_26 : am_at 191 26 = some (.aload_n 1, 1, [1]) := by decide +kernel
theorem r191_27 : am_at 191 27 = some (.getfield 70, 3, [4, 3, 3, 94]) := by decide +kernel
theorem r191_30 : am_at 191 30 = some (.aload_n 0, 1, [0]) := by decide +kernel
theorem r191_31 : am_at 191 31 = some (.getfield 28, 3, [3, 5, 0, 198]) := by decide +kernel
theorem r191_34 : am_at 191 34 = some (.iconst (1), 1, []) := by decide +kernel
theorem r191_35 : am_at 191 35 = some (.iadd, 1, []) := by decide +kernel
theorem r191_36 : am_at 191 36 = some (.iload 5, 2, [5]) := by decide +kernel
theorem r191_38 : am_at 191 38 = some (.iadd, 1, []) := by decide +kernel
theorem r191_39 : am_at 191 39 = some (.iconst (4), 1, []) := by decide +kernel
theorem r191_40 : am_at 191 40 = some (.irem, 1, []) := by decide +kernel
theorem r191_41 : am_at 191 41 = some (.invokestatic 58, 3, [180, 2, 870, 0]) := by decide +kernel
theorem r191_44 : am_at 191 44 = some (.istore 6, 2, [6]) := by decide +kernel
theorem r191_46 : am_at 191 46 = some (.iload 4, 2, [4]) := by decide +kernel
theorem r191_48 : am_at 191 48 = some (.iload 6, 2, [6]) := by decide +kernel
theorem r191_50 : am_at 191 50 = some (.iload_n 3, 1, [3]) := by decide +kernel
theorem r191_51 : am_at 191 51 = some (.iand, 1, []) := by decide +kernel
theorem r191_52 : am_at 191 52 = some (.ifCond .ne (10), 3, [62]) := by decide +kernel
theorem r191_55 : am_at 191 55 = some (.iconst (1), 1, []) := by decide +kernel
theorem r191_56 : am_at 191 56 = some (.iload 5, 2, [5]) := by decide +kernel
theorem r191_58 : am_at 191 58 = some (.ishl, 1, []) := by decide +kernel
theorem r191_59 : am_at 191 59 = some (.goto (4), 3, [63]) := by decide +kernel
theorem r191_62 : am_at 191 62 = some (.iconst (0), 1, []) := by decide +kernel
theorem r191_63 : am_at 191 63 = some (.ior, 1, []) := by decide +kernel
theorem r191_64 : am_at 191 64 = some (.istore 4, 2, [4]) := by decide +kernel
theorem r191_66 : am_at 191 66 = some (.iinc 5 (1), 3, [5]) := by decide +kernel
theorem r191_69 : am_at 191 69 = some (.goto (-49), 3, [20]) := by decide +kernel
theorem r191_72 : am_at 191 72 = some (.iload 4, 2, [4]) := by decide +kernel
theorem r191_74 : am_at 191 74 = some (.ireturn, 1, []) := by decide +kernel
theorem rt191 : am_rtt 191 = some (some .int) := by decide +kernel
set_option maxRecDepth 100000 in
theorem pg191 : am_pg[191]? = some am_m191 := rfl
theorem m191_L20_w {d : Nat} {N : Nat} {D : am_D} {v3 : Int32} {mc ms : Nat} {Q : am_O → am_AH → Prop} (hd : 2 ≤ d) : ∀ (n : Nat) (v4 : Int32) (v5 : Int32) {q : Int32} (h : m191_L20 N D v3  n v4 v5 = some q) (k0 : am_X xs L 191 d mc ms 72 [.ref 93, .ref 1, am_dead, am_dead, .int q, am_dead, am_dead] [] (am_mk D) 0 0 Q), am_X xs L 191 d mc ms 20 [.ref 93, .ref 1, am_dead, .int v3, .int v4, .int v5, am_dead] [] (am_mk D) 0 0 Q := by
  intro n
  induction n with
  | zero =>
    intro v4 v5 q h k0
    exact (nomatch (show none = some q from h))
  | succ n ih =>
    intro v4 v5 q h k0
    rw [m191_L20] at h
    refine x_ld (v := .int v5) r191_20 rfl rfl rfl ?_
    refine x_ic (v := 3) r191_22 rfl rfl ?_
    rcases am_ifE h with ⟨c3, h⟩ | ⟨c3, h⟩
    · refine x_icgeT r191_23 c3 ?_
      refine x_forget (lc0 := [.ref 93, .ref 1, am_dead, am_dead, .int v4, am_dead, am_dead]) ⟨Or.inl rfl, Or.inl rfl, Or.inl rfl, Or.inr ⟨rfl, rfl⟩, Or.inl rfl, Or.inr ⟨rfl, rfl⟩, Or.inl rfl, trivial⟩ ?_
      cases h
      exact k0
    · refine x_icgeF r191_23 c3 rfl ?_
      refine x_ld (v := .ref 1) r191_26 rfl rfl rfl ?_
      refine y_gf (cd := 11) (v := .ref 9) r191_27 rfl rfl rfl ?_
      refine x_ld (v := .ref 93) r191_30 rfl rfl rfl ?_
      refine y_gf (cd := 0) (v := .int (D.1 93 5)) r191_31 rfl rfl rfl ?_
      refine x_ic (v := 1) r191_34 rfl rfl ?_
      refine x_ar r191_35 rfl trivial rfl ?_
      refine x_ld (v := .int v5) r191_36 rfl rfl rfl ?_
      refine x_ar r191_38 rfl trivial rfl ?_
      refine x_ic (v := 4) r191_39 rfl rfl ?_
      refine x_ar r191_40 rfl (by decide) rfl ?_
      refine x_call1 (as := [.ref 9, .int ((((D.1 93 5) + (1 : Int32)) + v5) - (((D.1 93 5) + (1 : Int32)) + v5) / (4 : Int32) * (4 : Int32))]) (rest := []) r191_41 rfl rfl rfl (by decide) (Nat.le_of_ble_eq_true rfl) (am_rows_at (n := 4) rfl (by decide)) (Nat.le_trans (by decide) hd) (Nat.zero_le _) (Nat.zero_le _) rfl ?_
      obtain ⟨x4, e5, h⟩ := am_ltE h
      refine am_topI e5 ?_
      refine x_sto (lc' := [.ref 93, .ref 1, am_dead, .int v3, .int v4, .int v5, .int x4]) r191_44 rfl rfl rfl rfl ?_
      refine x_ld (v := .int v4) r191_46 rfl rfl rfl ?_
      refine x_ld (v := .int x4) r191_48 rfl rfl rfl ?_
      refine x_ld (v := .int v3) r191_50 rfl rfl rfl ?_
      refine x_ar r191_51 rfl trivial rfl ?_
      obtain ⟨q6, h8, h⟩ := am_ltE h
      replace h8 := h8.symm
      have kj7 : am_X xs L 191 d mc ms 63 [.ref 93, .ref 1, am_dead, .int v3, .int v4, .int v5, .int x4] [.int q6, .int v4] (am_mk D) 0 0 Q := by
        refine x_ar r191_63 rfl trivial rfl ?_
        obtain ⟨x10, e11, h⟩ := am_ltE h
        refine am_topI e11 ?_
        refine x_sto (lc' := [.ref 93, .ref 1, am_dead, .int v3, .int x10, .int v5, .int x4]) r191_64 rfl rfl rfl rfl ?_
        obtain ⟨x12, e13, h⟩ := am_ltE h
        refine x_sto (lc' := [.ref 93, .ref 1, am_dead, .int v3, .int x10, .int x12, .int x4]) r191_66 rfl rfl (by subst e13; rfl) rfl ?_
        refine x_goto r191_69 ?_
        exact x_forget (lc0 := [.ref 93, .ref 1, am_dead, .int v3, .int x10, .int x12, am_dead]) ⟨Or.inl rfl, Or.inl rfl, Or.inl rfl, Or.inl rfl, Or.inl rfl, Or.inl rfl, Or.inr ⟨rfl, rfl⟩, trivial⟩ (ih x10 x12 h k0)
      rcases am_ifE h8 with ⟨c9, h8⟩ | ⟨c9, h8⟩
      · refine x_ifneT r191_52 c9 rfl ?_
        refine x_ic (v := 1) r191_55 rfl rfl ?_
        refine x_ld (v := .int v5) r191_56 rfl rfl rfl ?_
        refine x_ar r191_58 rfl trivial rfl ?_
        refine x_goto r191_59 ?_
        subst h8
        exact kj7
      · refine x_ifneF r191_52 c9 ?_
        refine x_ic (v := 0) r191_62 rfl rfl ?_
        subst h8
        exact kj7
theorem m191_w {d mc ms : Nat} {N : Nat} {D : am_D} {v2 : Int32} {Q : am_O → am_AH → Prop} (hd : 2 ≤ d) {r : Int32} (h : m191 N D v2 = some r) (hQ : Q (.inl (some (.int r))) (am_mk D)) : am_X xs L 191 d mc ms 0 [.ref 93, .ref 1, .int v2, am_dead, am_dead, am_dead, am_dead] [] (am_mk D) 0 0 Q := by
  unfold m191 at h
  refine x_ic (v := 1) r191_0 rfl rfl ?_
  refine x_ld (v := .int v2) r191_1 rfl rfl rfl ?_
  refine x_call1 (as := [.int v2]) (rest := [.int (1 : Int32)]) r191_2 rfl rfl rfl (by decide) (Nat.le_of_ble_eq_true rfl) (m249_ok rfl) (Nat.le_trans (by decide) hd) (Nat.zero_le _) (Nat.zero_le _) rfl ?_
  refine x_ar r191_5 rfl trivial rfl ?_
  refine x_ic (v := 1) r191_6 rfl rfl ?_
  refine x_ld (v := .int v2) r191_7 rfl rfl rfl ?_
  refine x_call1 (as := [.int v2]) (rest := [.int (1 : Int32), .int ((1 : Int32) <<< ((m249 v2) &&& 31))]) r191_8 rfl rfl rfl (by decide) (Nat.le_of_ble_eq_true rfl) (m250_ok rfl) (Nat.le_trans (by decide) hd) (Nat.zero_le _) (Nat.zero_le _) rfl ?_
  refine x_ar r191_11 rfl trivial rfl ?_
  refine x_ar r191_12 rfl trivial rfl ?_
  obtain ⟨x1, e2, h⟩ := am_ltE h
  refine am_topI e2 ?_
  refine x_sto (lc' := [.ref 93, .ref 1, .int v2, .int x1, am_dead, am_dead, am_dead]) r191_13 rfl rfl rfl rfl ?_
  refine x_ic (v := 0) r191_14 rfl rfl ?_
  refine x_sto (lc' := [.ref 93, .ref 1, .int v2, .int x1, .int (0 : Int32), am_dead, am_dead]) r191_15 rfl rfl rfl rfl ?_
  refine x_ic (v := 0) r191_17 rfl rfl ?_
  refine x_sto (lc' := [.ref 93, .ref 1, .int v2, .int x1, .int (0 : Int32), .int (0 : Int32), am_dead]) r191_18 rfl rfl rfl rfl ?_
  obtain ⟨q14, h15, h⟩ := Option.bind_eq_some_iff.mp h
  refine x_forget (lc0 := [.ref 93, .ref 1, am_dead, .int x1, .int (0 : Int32), .int (0 : Int32), am_dead]) ⟨Or.inl rfl, Or.inl rfl, Or.inr ⟨rfl, rfl⟩, Or.inl rfl, Or.inl rfl, Or.inl rfl, Or.inl rfl, trivial⟩ (m191_L20_w hd N (0 : Int32) (0 : Int32) h15 ?_)
  refine x_ld (v := .int q14) r191_72 rfl rfl rfl ?_
  cases h
  exact x_ret (ret := some .int) (C := True) (v := some (.int _)) r191_74 rt191 rfl rfl rfl rfl rfl rfl rfl rfl trivial hQ
theorem m191_ok {N : Nat} {D : am_D} {v2 : Int32} {r : Int32} (h : m191 N D v2 = some r) : am_Y xs L 191 2 0 0 [.ref 93, .ref 1, .int v2] D (.inl (some (.int r))) D := am_Yof (mi := am_m191) (lc := [.ref 93, .ref 1, .int v2, am_dead, am_dead, am_dead, am_dead]) pg191 (Nat.le_of_ble_eq_true rfl) (am_rc1 (ci := 3) rfl rfl rfl rfl rfl) rfl (fun Q hQ => m191_w (Nat.le_refl _) h hQ)
theorem r193_0 : am_at 193 0 = some (.aload_n 0, 1, [0]) := by decide +kernel
theorem r193_1 : am_at 193 1 = some (.getfield 11, 3, [3, 0, 3, 193]) := by decide +kernel
theorem r193_4 : am_at 193 4 = some (.iconst (0), 1, []) := by decide +kernel
theorem r193_5 : am_at 193 5 = some (.invokestatic 58, 3, [180, 2, 870, 0]) := by decide +kernel
theorem r193_8 : am_at 193 8 = some (.iload_n 2, 1, [2]) := by decide +kernel
theorem r193_9 : am_at 193 9 = some (.invokestatic 85, 3, [1001, 0, 884]) := by decide +kernel
theorem r193_12 : am_at 193 12 = some (.istore_n 3, 1, [3]) := by decide +kernel
theorem r193_13 : am_at 193 13 = some (.iload_n 3, 1, [3]) := by decide +kernel
theorem r193_14 : am_at 193 14 = some (.ifCond .lt (141), 3, [155]) := by decide +kernel
theorem r193_17 : am_at 193 17 = some (.iload_n 2, 1, [2]) := by decide +kernel
theorem r193_18 : am_at 193 18 = some (.iload_n 3, 1, [3]) := by decide +kernel
theorem r193_19 : am_at 193 19 = some (.isub, 1, []) := by decide +kernel
theorem r193_20 : am_at 193 20 = some (.istore 4, 2, [4]) := by decide +kernel
theorem r193_22 : am_at 193 22 = some (.iconst (0), 1, []) := by decide +kernel
theorem r193_23 : am_at 193 23 = some (.iload 4, 2, [4]) := by decide +kernel
theorem r193_25 : am_at 193 25 = some (.aload_n 0, 1, [0]) := by decide +kernel
theorem r193_26 : am_at 193 26 = some (.getfield 11, 3, [3, 0, 3, 193]) := by decide +kernel
theorem r193_29 : am_at 193 29 = some (.iconst (2), 1, []) := by decide +kernel
theorem r193_30 : am_at 193 30 = some (.invokestatic 58, 3, [180, 2, 870, 0]) := by decide +kernel
theorem r193_33 : am_at 193 33 = some (.isub, 1, []) := by decide +kernel
theorem r193_34 : am_at 193 34 = some (.invokestatic 91, 3, [1000, 0, 885]) := by decide +kernel
theorem r193_37 : am_at 193 37 = some (.istore 5, 2, [5]) := by decide +kernel
theorem r193_39 : am_at 193 39 = some (.aload_n 0, 1, [0]) := by decide +kernel
theorem r193_40 : am_at 193 40 = some (.getfield 11, 3, [3, 0, 3, 193]) := by decide +kernel
theorem r193_43 : am_at 193 43 = some (.iconst (1), 1, []) := by decide +kernel
theorem r193_44 : am_at 193 44 = some (.invokestatic 58, 3, [180, 2, 870, 0]) := by decide +kernel
theorem r193_47 : am_at 193 47 = some (.iload 4, 2, [4]) := by decide +kernel
theorem r193_49 : am_at 193 49 = some (.invokestatic 85, 3, [1001, 0, 884]) := by decide +kernel
theorem r193_52 : am_at 193 52 = some (.istore 6, 2, [6]) := by decide +kernel
theorem r193_54 : am_at 193 54 = some (.iload 6, 2, [6]) := by decide +kernel
theorem r193_56 : am_at 193 56 = some (.iload 5, 2, [5]) := by decide +kernel
theorem r193_58 : am_at 193 58 = some (.if_icmp .lt (91), 3, [149]) := by decide +kernel
theorem r193_61 : am_at 193 61 = some (.lconst 0, 1, []) := by decide +kernel
theorem r193_62 : am_at 193 62 = some (.lstore 7, 2, [7]) := by decide +kernel
theorem r193_64 : am_at 193 64 = some (.lload 7, 2, [7]) := by decide +kernel
theorem r193_66 : am_at 193 66 = some (.iload_n 1, 1, [1]) := by decide +kernel
theorem r193_67 : am_at 193 67 = some (.iconst (1), 1, []) := by decide +kernel
theorem r193_68 : am_at 193 68 = some (.iand, 1, []) := by decide +kernel
theorem r193_69 : am_at 193 69 = some (.ifCond .eq (15), 3, [84]) := by decide +kernel
theorem r193_72 : am_at 193 72 = some (.aload_n 0, 1, [0]) := by decide +kernel
theorem r193_73 : am_at 193 73 = some (.iload_n 3, 1, [3]) := by decide +kernel
theorem r193_74 : am_at 193 74 = some (.iconst (1), 1, []) := by decide +kernel
theorem r193_75 : am_at 193 75 = some (.isub, 1, []) := by decide +kernel
theorem r193_76 : am_at 193 76 = some (.iload 6, 2, [6]) := by decide +kernel
theorem r193_78 : am_at 193 78 = some (.invokevirtual 81, 3, [194, 3, 886, 0]) := by decide +kernel
theorem r193_81 : am_at 193 81 = some (.goto (4), 3, [85]) := by decide +kernel
theorem r193_84 : am_at 193 84 = some (.lconst 0, 1, []) := by decide +kernel
theorem r193_85 : am_at 193 85 = some (.ladd, 1, []) := by decide +kernel
theorem r193_86 : am_at 193 86 = some (.lstore 7, 2, [7]) := by decide +kernel
theorem r193_88 : am_at 193 88 = some (.lload 7, 2, [7]) := by decide +kernel
theorem r193_90 : am_at 193 90 = some (.iload_n 1, 1, [1]) := by decide +kernel
theorem r193_91 : am_at 193 91 = some (.iconst (2), 1, []) := by decide +kernel
theorem r193_92 : am_at 193 92 = some (.iand, 1, []) := by decide +kernel
theorem r193_93 : am_at 193 93 = some (.ifCond .eq (15), 3, [108]) := by decide +kernel
theorem r193_96 : am_at 193 96 = some (.aload_n 0, 1, [0]) := by decide +kernel
theorem r193_97 : am_at 193 97 = some (.iload_n 3, 1, [3]) := by decide +kernel
theorem r193_98 : am_at 193 98 = some (.iload 6, 2, [6]) := by decide +kernel
theorem r193_100 : am_at 193 100 = some (.iconst (1), 1, []) := by decide +kernel
theorem r193_101 : am_at 193 101 = some (.isub, 1, []) := by decide +kernel
theorem r193_102 : am_at 193 102 = some (.invokevirtual 81, 3, [194, 3, 886, 0]) := by decide +kernel
theorem r193_105 : am_at 193 105 = some (.goto (4), 3, [109]) := by decide +kernel
theorem r193_108 : am_at 193 108 = some (.lconst 0, 1, []) := by decide +kernel
theorem r193_109 : am_at 193 109 = some (.ladd, 1, []) := by decide +kernel
theorem r193_110 : am_at 193 110 = some (.lstore 7, 2, [7]) := by decide +kernel
theorem r193_112 : am_at 193 112 = some (.lload 7, 2, [7]) := by decide +kernel
theorem r193_114 : am_at 193 114 = some (.iload_n 1, 1, [1]) := by decide +kernel
theorem r193_115 : am_at 193 115 = some (.iconst (4), 1, []) := by decide +kernel
theorem r193_116 : am_at 193 116 = some (.iand, 1, []) := by decide +kernel
theorem r193_117 : am_at 193 117 = some (.ifCond .eq (13), 3, [130]) := by decide +kernel
theorem r193_120 : am_at 193 120 = some (.aload_n 0, 1, [0]) := by decide +kernel
theorem r193_121 : am_at 193 121 = some (.iload_n 3, 1, [3]) := by decide +kernel
theorem r193_122 : am_at 193 122 = some (.iload 6, 2, [6]) := by decide +kernel
theorem r193_124 : am_at 193 124 = some (.invokevirtual 81, 3, [194, 3, 886, 0]) := by decide +kernel
theorem r193_127 : am_at 193 127 = some (.goto (4), 3, [131]) := by decide +kernel
theorem r193_130 : am_at 193 130 = some (.lconst 0, 1, []) := by decide +kernel
theorem r193_131 : am_at 193 131 = some (.ladd, 1, []) := by decide +kernel
theorem r193_132 : am_at 193 132 = some (.lstore 7, 2, [7]) := by decide +kernel
theorem r193_134 : am_at 193 134 = some (.aload_n 0, 1, [0]) := by decide +kernel
theorem r193_135 : am_at 193 135 = some (.iload_n 3, 1, [3]) := by decide +kernel
theorem r193_136 : am_at 193 136 = some (.iload 6, 2, [6]) := by decide +kernel
theorem r193_138 : am_at 193 138 = some (.lload 7, 2, [7]) := by decide +kernel
theorem r193_140 : am_at 193 140 = some (.invokevirtual 73, 3, [195, 4, 876, 0]) := by decide +kernel
theorem r193_143 : am_at 193 143 = some (.iinc 6 (-1), 3, [6]) := by decide +kernel
theorem r193_146 : am_at 193 146 = some (.goto (-92), 3, [54]) := by decide +kernel
theorem r193_149 : am_at 193 149 = some (.iinc 3 (-1), 3, [3]) := by decide +kernel
theorem r193_152 : am_at 193 152 = some (.goto (-139), 3, [13]) := by decide +kernel
theorem r193_155 : am_at 193 155 = some (.return_, 1, []) := by decide +kernel
theorem rt193 : am_rtt 193 = some (none) := by decide +kernel
set_option maxRecDepth 100000 in
theorem pg193 : am_pg[193]? = some am_m193 := rfl
theorem m193_L54_w {d : Nat} {N : Nat} {v1 : Int32} {v2 : Int32} {v3 : Int32} {v5 : Int32} {mc ms : Nat} {Q : am_O → am_AH → Prop} (hd : 2 ≤ d) : ∀ (n : Nat) (D : am_D) (v6 : Int32) {q : am_D} (h : m193_L54 N v1 v2 v3 v5  n D v6 = some q) (k0 : am_X xs L 193 d mc ms 149 [.ref 93, .int v1, .int v2, .int v3, am_dead, am_dead, am_dead, am_dead, am_dead] [] (am_mk q) 0 0 Q), am_X xs L 193 d mc ms 54 [.ref 93, .int v1, .int v2, .int v3, am_dead, .int v5, .int v6, am_dead, am_dead] [] (am_mk D) 0 0 Q := by
  intro n
  induction n with
  | zero =>
    intro D v6 q h k0
    exact (nomatch (show none = some q from h))
  | succ n ih =>
    intro D v6 q h k0
    rw [m193_L54] at h
    refine x_ld (v := .int v6) r193_54 rfl rfl rfl ?_
    refine x_ld (v := .int v5) r193_56 rfl rfl rfl ?_
    rcases am_ifE h with ⟨c10, h⟩ | ⟨c10, h⟩
    · refine x_icltT r193_58 c10 ?_
      refine x_forget (lc0 := [.ref 93, .int v1, .int v2, .int v3, am_dead, am_dead, am_dead, am_dead, am_dead]) ⟨Or.inl rfl, Or.inl rfl, Or.inl rfl, Or.inl rfl, Or.inl rfl, Or.inr ⟨rfl, rfl⟩, Or.inr ⟨rfl, rfl⟩, Or.inl rfl, Or.inl rfl, trivial⟩ ?_
      cases h
      exact k0
    · refine x_icltF r193_58 c10 rfl ?_
      refine x_ar r193_61 rfl trivial rfl ?_
      obtain ⟨x11, e12, h⟩ := am_ltE h
      refine am_topJ e12 ?_
      refine x_sto (lc' := [.ref 93, .int v1, .int v2, .int v3, am_dead, .int v5, .int v6, .long x11, am_dead]) r193_62 rfl rfl rfl rfl ?_
      refine x_ld (v := .long x11) r193_64 rfl rfl rfl ?_
      refine x_ld (v := .int v1) r193_66 rfl rfl rfl ?_
      refine x_ic (v := 1) r193_67 rfl rfl ?_
      refine x_ar r193_68 rfl trivial rfl ?_
      obtain ⟨q13, h15, h⟩ := Option.bind_eq_some_iff.mp h
      have kj14 : am_X xs L 193 d mc ms 85 [.ref 93, .int v1, .int v2, .int v3, am_dead, .int v5, .int v6, .long x11, am_dead] [.long q13, .long x11] (am_mk D) 0 0 Q := by
        refine x_ar r193_85 rfl trivial rfl ?_
        obtain ⟨x19, e20, h⟩ := am_ltE h
        refine am_topJ e20 ?_
        refine x_sto (lc' := [.ref 93, .int v1, .int v2, .int v3, am_dead, .int v5, .int v6, .long x19, am_dead]) r193_86 rfl rfl rfl rfl ?_
        refine x_ld (v := .long x19) r193_88 rfl rfl rfl ?_
        refine x_ld (v := .int v1) r193_90 rfl rfl rfl ?_
        refine x_ic (v := 2) r193_91 rfl rfl ?_
        refine x_ar r193_92 rfl trivial rfl ?_
        obtain ⟨q21, h23, h⟩ := Option.bind_eq_some_iff.mp h
        have kj22 : am_X xs L 193 d mc ms 109 [.ref 93, .int v1, .int v2, .int v3, am_dead, .int v5, .int v6, .long x19, am_dead] [.long q21, .long x19] (am_mk D) 0 0 Q := by
          refine x_ar r193_109 rfl trivial rfl ?_
          obtain ⟨x27, e28, h⟩ := am_ltE h
          refine am_topJ e28 ?_
          refine x_sto (lc' := [.ref 93, .int v1, .int v2, .int v3, am_dead, .int v5, .int v6, .long x27, am_dead]) r193_110 rfl rfl rfl rfl ?_
          refine x_ld (v := .long x27) r193_112 rfl rfl rfl ?_
          refine x_ld (v := .int v1) r193_114 rfl rfl rfl ?_
          refine x_ic (v := 4) r193_115 rfl rfl ?_
          refine x_ar r193_116 rfl trivial rfl ?_
          obtain ⟨q29, h31, h⟩ := Option.bind_eq_some_iff.mp h
          have kj30 : am_X xs L 193 d mc ms 131 [.ref 93, .int v1, .int v2, .int v3, am_dead, .int v5, .int v6, .long x27, am_dead] [.long q29, .long x27] (am_mk D) 0 0 Q := by
            refine x_ar r193_131 rfl trivial rfl ?_
            obtain ⟨x35, e36, h⟩ := am_ltE h
            refine am_topJ e36 ?_
            refine x_sto (lc' := [.ref 93, .int v1, .int v2, .int v3, am_dead, .int v5, .int v6, .long x35, am_dead]) r193_132 rfl rfl rfl rfl ?_
            refine x_ld (v := .ref 93) r193_134 rfl rfl rfl ?_
            refine x_ld (v := .int v3) r193_135 rfl rfl rfl ?_
            refine x_ld (v := .int v6) r193_136 rfl rfl rfl ?_
            refine x_ld (v := .long x35) r193_138 rfl rfl rfl ?_
            obtain ⟨q37, h38, h⟩ := am_ltE h
            replace h38 := h38.symm
            refine x_call0 (as := [.ref 93, .int v3, .int v6, .long x35]) (rest := []) r193_140 rfl rfl rfl (by decide) (Nat.le_of_ble_eq_true rfl) (m195_ok h38) (Nat.le_trans (by decide) hd) (Nat.zero_le _) (Nat.zero_le _) rfl ?_
            obtain ⟨x39, e40, h⟩ := am_ltE h
            refine x_sto (lc' := [.ref 93, .int v1, .int v2, .int v3, am_dead, .int v5, .int x39, .long x35, am_dead]) r193_143 rfl rfl (by subst e40; rfl) rfl ?_
            refine x_goto r193_146 ?_
            exact x_forget (lc0 := [.ref 93, .int v1, .int v2, .int v3, am_dead, .int v5, .int x39, am_dead, am_dead]) ⟨Or.inl rfl, Or.inl rfl, Or.inl rfl, Or.inl rfl, Or.inl rfl, Or.inl rfl, Or.inl rfl, Or.inr ⟨rfl, rfl⟩, Or.inl rfl, trivial⟩ (ih q37 x39 h k0)
          rcases am_ifE h31 with ⟨c32, h31⟩ | ⟨c32, h31⟩
          · refine x_ifeqT r193_117 c32 ?_
            refine x_ar r193_130 rfl trivial rfl ?_
            cases h31
            exact kj30
          · refine x_ifeqF r193_117 c32 rfl ?_
            refine x_ld (v := .ref 93) r193_120 rfl rfl rfl ?_
            refine x_ld (v := .int v3) r193_121 rfl rfl rfl ?_
            refine x_ld (v := .int v6) r193_122 rfl rfl rfl ?_
            obtain ⟨q33, h34, h31⟩ := Option.bind_eq_some_iff.mp h31
            refine x_call1 (as := [.ref 93, .int v3, .int v6]) (rest := [.long x27]) r193_124 rfl rfl rfl (by decide) (Nat.le_of_ble_eq_true rfl) (m194_ok h34) (Nat.le_trans (by decide) hd) (Nat.zero_le _) (Nat.zero_le _) rfl ?_
            refine x_goto r193_127 ?_
            cases h31
            exact kj30
        rcases am_ifE h23 with ⟨c24, h23⟩ | ⟨c24, h23⟩
        · refine x_ifeqT r193_93 c24 ?_
          refine x_ar r193_108 rfl trivial rfl ?_
          cases h23
          exact kj22
        · refine x_ifeqF r193_93 c24 rfl ?_
          refine x_ld (v := .ref 93) r193_96 rfl rfl rfl ?_
          refine x_ld (v := .int v3) r193_97 rfl rfl rfl ?_
          refine x_ld (v := .int v6) r193_98 rfl rfl rfl ?_
          refine x_ic (v := 1) r193_100 rfl rfl ?_
          refine x_ar r193_101 rfl trivial rfl ?_
          obtain ⟨q25, h26, h23⟩ := Option.bind_eq_some_iff.mp h23
          refine x_call1 (as := [.ref 93, .int v3, .int (v6 - (1 : Int32))]) (rest := [.long x19]) r193_102 rfl rfl rfl (by decide) (Nat.le_of_ble_eq_true rfl) (m194_ok h26) (Nat.le_trans (by decide) hd) (Nat.zero_le _) (Nat.zero_le _) rfl ?_
          refine x_goto r193_105 ?_
          cases h23
          exact kj22
      rcases am_ifE h15 with ⟨c16, h15⟩ | ⟨c16, h15⟩
      · refine x_ifeqT r193_69 c16 ?_
        refine x_ar r193_84 rfl trivial rfl ?_
        cases h15
        exact kj14
      · refine x_ifeqF r193_69 c16 rfl ?_
        refine x_ld (v := .ref 93) r193_72 rfl rfl rfl ?_
        refine x_ld (v := .int v3) r193_73 rfl rfl rfl ?_
        refine x_ic (v := 1) r193_74 rfl rfl ?_
        refine x_ar r193_75 rfl trivial rfl ?_
        refine x_ld (v := .int v6) r193_76 rfl rfl rfl ?_
        obtain ⟨q17, h18, h15⟩ := Option.bind_eq_some_iff.mp h15
        refine x_call1 (as := [.ref 93, .int (v3 - (1 : Int32)), .int v6]) (rest := [.long x11]) r193_78 rfl rfl rfl (by decide) (Nat.le_of_ble_eq_true rfl) (m194_ok h18) (Nat.le_trans (by decide) hd) (Nat.zero_le _) (Nat.zero_le _) rfl ?_
        refine x_goto r193_81 ?_
        cases h15
        exact kj14
theorem m193_L13_w {d : Nat} {N : Nat} {v1 : Int32} {v2 : Int32} {mc ms : Nat} {Q : am_O → am_AH → Prop} (hd : 2 ≤ d) : ∀ (n : Nat) (D : am_D) (v3 : Int32) {q : am_D} (h : m193_L13 N v1 v2  n D v3 = some q) (k0 : am_X xs L 193 d mc ms 155 [.ref 93, am_dead, am_dead, am_dead, am_dead, am_dead, am_dead, am_dead, am_dead] [] (am_mk q) 0 0 Q), am_X xs L 193 d mc ms 13 [.ref 93, .int v1, .int v2, .int v3, am_dead, am_dead, am_dead, am_dead, am_dead] [] (am_mk D) 0 0 Q := by
  intro n
  induction n with
  | zero =>
    intro D v3 q h k0
    exact (nomatch (show none = some q from h))
  | succ n ih =>
    intro D v3 q h k0
    rw [m193_L13] at h
    refine x_ld (v := .int v3) r193_13 rfl rfl rfl ?_
    rcases am_ifE h with ⟨c3, h⟩ | ⟨c3, h⟩
    · refine x_ifltT r193_14 c3 ?_
      refine x_forget (lc0 := [.ref 93, am_dead, am_dead, am_dead, am_dead, am_dead, am_dead, am_dead, am_dead]) ⟨Or.inl rfl, Or.inr ⟨rfl, rfl⟩, Or.inr ⟨rfl, rfl⟩, Or.inr ⟨rfl, rfl⟩, Or.inl rfl, Or.inl rfl, Or.inl rfl, Or.inl rfl, Or.inl rfl, trivial⟩ ?_
      cases h
      exact k0
    · refine x_ifltF r193_14 c3 rfl ?_
      refine x_ld (v := .int v2) r193_17 rfl rfl rfl ?_
      refine x_ld (v := .int v3) r193_18 rfl rfl rfl ?_
      refine x_ar r193_19 rfl trivial rfl ?_
      obtain ⟨x4, e5, h⟩ := am_ltE h
      refine am_topI e5 ?_
      refine x_sto (lc' := [.ref 93, .int v1, .int v2, .int v3, .int x4, am_dead, am_dead, am_dead, am_dead]) r193_20 rfl rfl rfl rfl ?_
      refine x_ic (v := 0) r193_22 rfl rfl ?_
      refine x_ld (v := .int x4) r193_23 rfl rfl rfl ?_
      refine x_ld (v := .ref 93) r193_25 rfl rfl rfl ?_
      refine y_gf (cd := 96) (v := .ref 94) r193_26 rfl rfl rfl ?_
      refine x_ic (v := 2) r193_29 rfl rfl ?_
      refine x_call1 (as := [.ref 94, .int (2 : Int32)]) (rest := [.int x4, .int (0 : Int32)]) r193_30 rfl rfl rfl (by decide) (Nat.le_of_ble_eq_true rfl) (am_rows_at (n := 3) rfl (by decide)) (Nat.le_trans (by decide) hd) (Nat.zero_le _) (Nat.zero_le _) rfl ?_
      refine x_ar r193_33 rfl trivial rfl ?_
      refine x_sp r193_34 rfl rfl rfl rfl rfl rfl trivial rfl ?_
      obtain ⟨x6, e7, h⟩ := am_ltE h
      refine am_topI e7 ?_
      refine x_sto (lc' := [.ref 93, .int v1, .int v2, .int v3, .int x4, .int x6, am_dead, am_dead, am_dead]) r193_37 rfl rfl rfl rfl ?_
      refine x_ld (v := .ref 93) r193_39 rfl rfl rfl ?_
      refine y_gf (cd := 96) (v := .ref 94) r193_40 rfl rfl rfl ?_
      refine x_ic (v := 1) r193_43 rfl rfl ?_
      refine x_call1 (as := [.ref 94, .int (1 : Int32)]) (rest := []) r193_44 rfl rfl rfl (by decide) (Nat.le_of_ble_eq_true rfl) (am_rows_at (n := 3) rfl (by decide)) (Nat.le_trans (by decide) hd) (Nat.zero_le _) (Nat.zero_le _) rfl ?_
      refine x_ld (v := .int x4) r193_47 rfl rfl rfl ?_
      refine x_sp r193_49 rfl rfl rfl rfl rfl rfl trivial rfl ?_
      obtain ⟨x8, e9, h⟩ := am_ltE h
      refine am_topI e9 ?_
      refine x_sto (lc' := [.ref 93, .int v1, .int v2, .int v3, .int x4, .int x6, .int x8, am_dead, am_dead]) r193_52 rfl rfl rfl rfl ?_
      obtain ⟨q41, h42, h⟩ := Option.bind_eq_some_iff.mp h
      refine x_forget (lc0 := [.ref 93, .int v1, .int v2, .int v3, am_dead, .int x6, .int x8, am_dead, am_dead]) ⟨Or.inl rfl, Or.inl rfl, Or.inl rfl, Or.inl rfl, Or.inr ⟨rfl, rfl⟩, Or.inl rfl, Or.inl rfl, Or.inl rfl, Or.inl rfl, trivial⟩ (m193_L54_w hd N D x8 h42 ?_)
      obtain ⟨x43, e44, h⟩ := am_ltE h
      refine x_sto (lc' := [.ref 93, .int v1, .int v2, .int x43, am_dead, am_dead, am_dead, am_dead, am_dead]) r193_149 rfl rfl (by subst e44; rfl) rfl ?_
      refine x_goto r193_152 ?_
      exact x_forget (lc0 := [.ref 93, .int v1, .int v2, .int x43, am_dead, am_dead, am_dead, am_dead, am_dead]) ⟨Or.inl rfl, Or.inl rfl, Or.inl rfl, Or.inl rfl, Or.inl rfl, Or.inl rfl, Or.inl rfl, Or.inl rfl, Or.inl rfl, trivial⟩ (ih q41 x43 h k0)
theorem m193_w {d mc ms : Nat} {N : Nat} {D : am_D} {v1 : Int32} {v2 : Int32} {Q : am_O → am_AH → Prop} (hd : 2 ≤ d) {r : am_D} (h : m193 N D v1 v2 = some r) (hQ : Q (.inl none) (am_mk r)) : am_X xs L 193 d mc ms 0 [.ref 93, .int v1, .int v2, am_dead, am_dead, am_dead, am_dead, am_dead, am_dead] [] (am_mk D) 0 0 Q := by
  unfold m193 at h
  refine x_ld (v := .ref 93) r193_0 rfl rfl rfl ?_
  refine y_gf (cd := 96) (v := .ref 94) r193_1 rfl rfl rfl ?_
  refine x_ic (v := 0) r193_4 rfl rfl ?_
  refine x_call1 (as := [.ref 94, .int (0 : Int32)]) (rest := []) r193_5 rfl rfl rfl (by decide) (Nat.le_of_ble_eq_true rfl) (am_rows_at (n := 3) rfl (by decide)) (Nat.le_trans (by decide) hd) (Nat.zero_le _) (Nat.zero_le _) rfl ?_
  refine x_ld (v := .int v2) r193_8 rfl rfl rfl ?_
  refine x_sp r193_9 rfl rfl rfl rfl rfl rfl trivial rfl ?_
  obtain ⟨x1, e2, h⟩ := am_ltE h
  refine am_topI e2 ?_
  refine x_sto (lc' := [.ref 93, .int v1, .int v2, .int x1, am_dead, am_dead, am_dead, am_dead, am_dead]) r193_12 rfl rfl rfl rfl ?_
  obtain ⟨q45, h46, h⟩ := Option.bind_eq_some_iff.mp h
  refine x_forget (lc0 := [.ref 93, .int v1, .int v2, .int x1, am_dead, am_dead, am_dead, am_dead, am_dead]) ⟨Or.inl rfl, Or.inl rfl, Or.inl rfl, Or.inl rfl, Or.inl rfl, Or.inl rfl, Or.inl rfl, Or.inl rfl, Or.inl rfl, trivial⟩ (m193_L13_w hd N D x1 h46 ?_)
  cases h
  exact x_ret (ret := none) (C := True) (v := none) r193_155 rt193 rfl rfl rfl rfl rfl rfl rfl rfl trivial hQ
theorem m193_ok {N : Nat} {D : am_D} {v1 : Int32} {v2 : Int32} {r : am_D} (h : m193 N D v1 v2 = some r) : am_Y xs L 193 2 0 0 [.ref 93, .int v1, .int v2] D (.inl none) r := am_Yof (mi := am_m193) (lc := [.ref 93, .int v1, .int v2, am_dead, am_dead, am_dead, am_dead, am_dead, am_dead]) pg193 (Nat.le_of_ble_eq_true rfl) (am_rc1 (ci := 3) rfl rfl rfl rfl rfl) rfl (fun Q hQ => m193_w (Nat.le_refl _) h hQ)
theorem r197_0 : am_at 197 0 = some (.aload_n 0, 1, [0]) := by decide +kernel
theorem r197_1 : am_at 197 1 = some (.getfield 18, 3, [3, 2, 3, 195]) := by decide +kernel
theorem r197_4 : am_at 197 4 = some (.iconst (5), 1, []) := by decide +kernel
theorem r197_5 : am_at 197 5 = some (.invokestatic 58, 3, [180, 2, 870, 0]) := by decide +kernel
theorem r197_8 : am_at 197 8 = some (.istore_n 3, 1, [3]) := by decide +kernel
theorem r197_9 : am_at 197 9 = some (.aload_n 0, 1, [0]) := by decide +kernel
theorem r197_10 : am_at 197 10 = some (.getfield 18, 3, [3, 2, 3, 195]) := by decide +kernel
theorem r197_13 : am_at 197 13 = some (.bipush (6), 2, []) := by decide +kernel
theorem r197_15 : am_at 197 15 = some (.invokestatic 58, 3, [180, 2, 870, 0]) := by decide +kernel
theorem r197_18 : am_at 197 18 = some (.istore 4, 2, [4]) := by decide +kernel
theorem r197_20 : am_at 197 20 = some (.aload_n 0, 1, [0]) := by decide +kernel
theorem r197_21 : am_at 197 21 = some (.getfield 18, 3, [3, 2, 3, 195]) := by decide +kernel
theorem r197_24 : am_at 197 24 = some (.bipush (7), 2, []) := by decide +kernel
theorem r197_26 : am_at 197 26 = some (.invokestatic 58, 3, [180, 2, 870, 0]) := by decide +kernel
theorem r197_29 : am_at 197 29 = some (.istore 5, 2, [5]) := by decide +kernel
theorem r197_31 : am_at 197 31 = some (.lconst 0, 1, []) := by decide +kernel
theorem r197_32 : am_at 197 32 = some (.lstore 6, 2, [6]) := by decide +kernel
theorem r197_34 : am_at 197 34 = some (.iconst (0), 1, []) := by decide +kernel
theorem r197_35 : am_at 197 35 = some (.istore 8, 2, [8]) := by decide +kernel
theorem r197_37 : am_at 197 37 = some (.iload 8, 2, [8]) := by decide +kernel
theorem r197_39 : am_at 197 39 = some (.iload_n 3, 1, [3]) := by decide +kernel
theorem r197_40 : am_at 197 40 = some (.if_icmp .gt (93), 3, [133]) := by decide +kernel
theorem r197_43 : am_at 197 43 = some (.iload 8, 2, [8]) := by decide +kernel
theorem r197_45 : am_at 197 45 = some (.iload_n 1, 1, [1]) := by decide +kernel
theorem r197_46 : am_at 197 46 = some (.if_icmp .gt (87), 3, [133]) := by decide +kernel
theorem r197_49 : am_at 197 49 = some (.iconst (0), 1, []) := by decide +kernel
theorem r197_50 : am_at 197 50 = some (.istore 9, 2, [9]) := by decide +kernel
theorem r197_52 : am_at 197 52 = some (.iload 9, 2, [9]) := by decide +kernel
theorem r197_54 : am_at 197 54 = some (.iload 4, 2, [4]) := by decide +kernel
theorem r197_56 : am_at 197 56 = some (.if_icmp .gt (71), 3, [127]) := by decide +kernel
theorem r197_59 : am_at 197 59 = some (.iload 9, 2, [9]) := by decide +kernel
theorem r197_61 : am_at 197 61 = some (.iload_n 2, 1, [2]) := by decide +kernel
theorem r197_62 : am_at 197 62 = some (.if_icmp .gt (65), 3, [127]) := by decide +kernel
theorem r197_65 : am_at 197 65 = some (.aload_n 0, 1, [0]) := by decide +kernel
theorem r197_66 : am_at 197 66 = some (.iload_n 3, 1, [3]) := by decide +kernel
theorem r197_67 : am_at 197 67 = some (.iload 8, 2, [8]) := by decide +kernel
theorem r197_69 : am_at 197 69 = some (.invokevirtual 94, 3, [198, 3, 894, 0]) := by decide +kernel
theorem r197_72 : am_at 197 72 = some (.aload_n 0, 1, [0]) := by decide +kernel
theorem r197_73 : am_at 197 73 = some (.iload 4, 2, [4]) := by decide +kernel
theorem r197_75 : am_at 197 75 = some (.iload 9, 2, [9]) := by decide +kernel
theorem r197_77 : am_at 197 77 = some (.invokevirtual 94, 3, [198, 3, 894, 0]) := by decide +kernel
theorem r197_80 : am_at 197 80 = some (.lmul, 1, []) := by decide +kernel
theorem r197_81 : am_at 197 81 = some (.lstore 10, 2, [10]) := by decide +kernel
theorem r197_83 : am_at 197 83 = some (.iload 5, 2, [5]) := by decide +kernel
theorem r197_85 : am_at 197 85 = some (.iload_n 1, 1, [1]) := by decide +kernel
theorem r197_86 : am_at 197 86 = some (.isub, 1, []) := by decide +kernel
theorem r197_87 : am_at 197 87 = some (.iload 8, 2, [8]) := by decide +kernel
theorem r197_89 : am_at 197 89 = some (.iadd, 1, []) := by decide +kernel
theorem r197_90 : am_at 197 90 = some (.istore 12, 2, [12]) := by decide +kernel
theorem r197_92 : am_at 197 92 = some (.lload 6, 2, [6]) := by decide +kernel
theorem r197_94 : am_at 197 94 = some (.lload 10, 2, [10]) := by decide +kernel
theorem r197_96 : am_at 197 96 = some (.aload_n 0, 1, [0]) := by decide +kernel
theorem r197_97 : am_at 197 97 = some (.iload 5, 2, [5]) := by decide +kernel
theorem r197_99 : am_at 197 99 = some (.iload_n 1, 1, [1]) := by decide +kernel
theorem r197_100 : am_at 197 100 = some (.iload 8, 2, [8]) := by decide +kernel
theorem r197_102 : am_at 197 102 = some (.isub, 1, []) := by decide +kernel
theorem r197_103 : am_at 197 103 = some (.invokevirtual 94, 3, [198, 3, 894, 0]) := by decide +kernel
theorem r197_106 : am_at 197 106 = some (.lmul, 1, []) := by decide +kernel
theorem r197_107 : am_at 197 107 = some (.aload_n 0, 1, [0]) := by decide +kernel
theorem r197_108 : am_at 197 108 = some (.iload 12, 2, [12]) := by decide +kernel
theorem r197_110 : am_at 197 110 = some (.iload_n 2, 1, [2]) := by decide +kernel
theorem r197_111 : am_at 197 111 = some (.iload 9, 2, [9]) := by decide +kernel
theorem r197_113 : am_at 197 113 = some (.isub, 1, []) := by decide +kernel
theorem r197_114 : am_at 197 114 = some (.invokevirtual 94, 3, [198, 3, 894, 0]) := by decide +kernel
theorem r197_117 : am_at 197 117 = some (.lmul, 1, []) := by decide +kernel
theorem r197_118 : am_at 197 118 = some (.ladd, 1, []) := by decide +kernel
theorem r197_119 : am_at 197 119 = some (.lstore 6, 2, [6]) := by decide +kernel
theorem r197_121 : am_at 197 121 = some (.iinc 9 (1), 3, [9]) := by decide +kernel
theorem r197_124 : am_at 197 124 = some (.goto (-72), 3, [52]) := by decide +kernel
theorem r197_127 : am_at 197 127 = some (.iinc 8 (1), 3, [8]) := by decide +kernel
theorem r197_130 : am_at 197 130 = some (.goto (-93), 3, [37]) := by decide +kernel
theorem r197_133 : am_at 197 133 = some (.lload 6, 2, [6]) := by decide +kernel
theorem r197_135 : am_at 197 135 = some (.lreturn, 1, []) := by decide +kernel
theorem rt197 : am_rtt 197 = some (some .long) := by decide +kernel
set_option maxRecDepth 100000 in
theorem pg197 : am_pg[197]? = some am_m197 := rfl
theorem m197_L52_w {d : Nat} {N : Nat} {D : am_D} {v1 : Int32} {v2 : Int32} {v3 : Int32} {v4 : Int32} {v5 : Int32} {v8 : Int32} {mc ms : Nat} {Q : am_O → am_AH → Prop} (hd : 2 ≤ d) : ∀ (n : Nat) (v6 : Int64) (v9 : Int32) {q : Int64} (h : m197_L52 N D v1 v2 v3 v4 v5 v8  n v6 v9 = some q) (k0 : am_X xs L 197 d mc ms 127 [.ref 93, .int v1, .int v2, .int v3, .int v4, .int v5, .long q, am_dead, .int v8, am_dead, am_dead, am_dead, am_dead] [] (am_mk D) 0 0 Q), am_X xs L 197 d mc ms 52 [.ref 93, .int v1, .int v2, .int v3, .int v4, .int v5, .long v6, am_dead, .int v8, .int v9, am_dead, am_dead, am_dead] [] (am_mk D) 0 0 Q := by
  intro n
  induction n with
  | zero =>
    intro v6 v9 q h k0
    exact (nomatch (show none = some q from h))
  | succ n ih =>
    intro v6 v9 q h k0
    rw [m197_L52] at h
    refine x_ld (v := .int v9) r197_52 rfl rfl rfl ?_
    refine x_ld (v := .int v4) r197_54 rfl rfl rfl ?_
    rcases am_ifE h with ⟨c11, h⟩ | ⟨c11, h⟩
    · refine x_icgtT r197_56 c11 ?_
      refine x_forget (lc0 := [.ref 93, .int v1, .int v2, .int v3, .int v4, .int v5, .long v6, am_dead, .int v8, am_dead, am_dead, am_dead, am_dead]) ⟨Or.inl rfl, Or.inl rfl, Or.inl rfl, Or.inl rfl, Or.inl rfl, Or.inl rfl, Or.inl rfl, Or.inl rfl, Or.inl rfl, Or.inr ⟨rfl, rfl⟩, Or.inl rfl, Or.inl rfl, Or.inl rfl, trivial⟩ ?_
      cases h
      exact k0
    · refine x_icgtF r197_56 c11 rfl ?_
      refine x_ld (v := .int v9) r197_59 rfl rfl rfl ?_
      refine x_ld (v := .int v2) r197_61 rfl rfl rfl ?_
      rcases am_ifE h with ⟨c12, h⟩ | ⟨c12, h⟩
      · refine x_icgtT r197_62 c12 ?_
        refine x_forget (lc0 := [.ref 93, .int v1, .int v2, .int v3, .int v4, .int v5, .long v6, am_dead, .int v8, am_dead, am_dead, am_dead, am_dead]) ⟨Or.inl rfl, Or.inl rfl, Or.inl rfl, Or.inl rfl, Or.inl rfl, Or.inl rfl, Or.inl rfl, Or.inl rfl, Or.inl rfl, Or.inr ⟨rfl, rfl⟩, Or.inl rfl, Or.inl rfl, Or.inl rfl, trivial⟩ ?_
        cases h
        exact k0
      · refine x_icgtF r197_62 c12 rfl ?_
        refine x_ld (v := .ref 93) r197_65 rfl rfl rfl ?_
        refine x_ld (v := .int v3) r197_66 rfl rfl rfl ?_
        refine x_ld (v := .int v8) r197_67 rfl rfl rfl ?_
        obtain ⟨q13, h14, h⟩ := Option.bind_eq_some_iff.mp h
        refine x_call1 (as := [.ref 93, .int v3, .int v8]) (rest := []) r197_69 rfl rfl rfl (by decide) (Nat.le_of_ble_eq_true rfl) (m198_ok h14) (Nat.le_trans (by decide) hd) (Nat.zero_le _) (Nat.zero_le _) rfl ?_
        refine x_ld (v := .ref 93) r197_72 rfl rfl rfl ?_
        refine x_ld (v := .int v4) r197_73 rfl rfl rfl ?_
        refine x_ld (v := .int v9) r197_75 rfl rfl rfl ?_
        obtain ⟨q15, h16, h⟩ := Option.bind_eq_some_iff.mp h
        refine x_call1 (as := [.ref 93, .int v4, .int v9]) (rest := [.long q13]) r197_77 rfl rfl rfl (by decide) (Nat.le_of_ble_eq_true rfl) (m198_ok h16) (Nat.le_trans (by decide) hd) (Nat.zero_le _) (Nat.zero_le _) rfl ?_
        refine x_ar r197_80 rfl trivial rfl ?_
        obtain ⟨x17, e18, h⟩ := am_ltE h
        refine am_topJ e18 ?_
        refine x_sto (lc' := [.ref 93, .int v1, .int v2, .int v3, .int v4, .int v5, .long v6, am_dead, .int v8, .int v9, .long x17, am_dead, am_dead]) r197_81 rfl rfl rfl rfl ?_
        refine x_ld (v := .int v5) r197_83 rfl rfl rfl ?_
        refine x_ld (v := .int v1) r197_85 rfl rfl rfl ?_
        refine x_ar r197_86 rfl trivial rfl ?_
        refine x_ld (v := .int v8) r197_87 rfl rfl rfl ?_
        refine x_ar r197_89 rfl trivial rfl ?_
        obtain ⟨x19, e20, h⟩ := am_ltE h
        refine am_topI e20 ?_
        refine x_sto (lc' := [.ref 93, .int v1, .int v2, .int v3, .int v4, .int v5, .long v6, am_dead, .int v8, .int v9, .long x17, am_dead, .int x19]) r197_90 rfl rfl rfl rfl ?_
        refine x_ld (v := .long v6) r197_92 rfl rfl rfl ?_
        refine x_ld (v := .long x17) r197_94 rfl rfl rfl ?_
        refine x_ld (v := .ref 93) r197_96 rfl rfl rfl ?_
        refine x_ld (v := .int v5) r197_97 rfl rfl rfl ?_
        refine x_ld (v := .int v1) r197_99 rfl rfl rfl ?_
        refine x_ld (v := .int v8) r197_100 rfl rfl rfl ?_
        refine x_ar r197_102 rfl trivial rfl ?_
        obtain ⟨q21, h22, h⟩ := Option.bind_eq_some_iff.mp h
        refine x_call1 (as := [.ref 93, .int v5, .int (v1 - v8)]) (rest := [.long x17, .long v6]) r197_103 rfl rfl rfl (by decide) (Nat.le_of_ble_eq_true rfl) (m198_ok h22) (Nat.le_trans (by decide) hd) (Nat.zero_le _) (Nat.zero_le _) rfl ?_
        refine x_ar r197_106 rfl trivial rfl ?_
        refine x_ld (v := .ref 93) r197_107 rfl rfl rfl ?_
        refine x_ld (v := .int x19) r197_108 rfl rfl rfl ?_
        refine x_ld (v := .int v2) r197_110 rfl rfl rfl ?_
        refine x_ld (v := .int v9) r197_111 rfl rfl rfl ?_
        refine x_ar r197_113 rfl trivial rfl ?_
        obtain ⟨q23, h24, h⟩ := Option.bind_eq_some_iff.mp h
        refine x_call1 (as := [.ref 93, .int x19, .int (v2 - v9)]) (rest := [.long (x17 * q21), .long v6]) r197_114 rfl rfl rfl (by decide) (Nat.le_of_ble_eq_true rfl) (m198_ok h24) (Nat.le_trans (by decide) hd) (Nat.zero_le _) (Nat.zero_le _) rfl ?_
        refine x_ar r197_117 rfl trivial rfl ?_
        refine x_ar r197_118 rfl trivial rfl ?_
        obtain ⟨x25, e26, h⟩ := am_ltE h
        refine am_topJ e26 ?_
        refine x_sto (lc' := [.ref 93, .int v1, .int v2, .int v3, .int v4, .int v5, .long x25, am_dead, .int v8, .int v9, .long x17, am_dead, .int x19]) r197_119 rfl rfl rfl rfl ?_
        obtain ⟨x27, e28, h⟩ := am_ltE h
        refine x_sto (lc' := [.ref 93, .int v1, .int v2, .int v3, .int v4, .int v5, .long x25, am_dead, .int v8, .int x27, .long x17, am_dead, .int x19]) r197_121 rfl rfl (by subst e28; rfl) rfl ?_
        refine x_goto r197_124 ?_
        exact x_forget (lc0 := [.ref 93, .int v1, .int v2, .int v3, .int v4, .int v5, .long x25, am_dead, .int v8, .int x27, am_dead, am_dead, am_dead]) ⟨Or.inl rfl, Or.inl rfl, Or.inl rfl, Or.inl rfl, Or.inl rfl, Or.inl rfl, Or.inl rfl, Or.inl rfl, Or.inl rfl, Or.inl rfl, Or.inr ⟨rfl, rfl⟩, Or.inl rfl, Or.inr ⟨rfl, rfl⟩, trivial⟩ (ih x25 x27 h k0)
theorem m197_L37_w {d : Nat} {N : Nat} {D : am_D} {v1 : Int32} {v2 : Int32} {v3 : Int32} {v4 : Int32} {v5 : Int32} {mc ms : Nat} {Q : am_O → am_AH → Prop} (hd : 2 ≤ d) : ∀ (n : Nat) (v6 : Int64) (v8 : Int32) {q : Int64} (h : m197_L37 N D v1 v2 v3 v4 v5  n v6 v8 = some q) (k0 : am_X xs L 197 d mc ms 133 [.ref 93, am_dead, am_dead, am_dead, am_dead, am_dead, .long q, am_dead, am_dead, am_dead, am_dead, am_dead, am_dead] [] (am_mk D) 0 0 Q), am_X xs L 197 d mc ms 37 [.ref 93, .int v1, .int v2, .int v3, .int v4, .int v5, .long v6, am_dead, .int v8, am_dead, am_dead, am_dead, am_dead] [] (am_mk D) 0 0 Q := by
  intro n
  induction n with
  | zero =>
    intro v6 v8 q h k0
    exact (nomatch (show none = some q from h))
  | succ n ih =>
    intro v6 v8 q h k0
    rw [m197_L37] at h
    refine x_ld (v := .int v8) r197_37 rfl rfl rfl ?_
    refine x_ld (v := .int v3) r197_39 rfl rfl rfl ?_
    rcases am_ifE h with ⟨c9, h⟩ | ⟨c9, h⟩
    · refine x_icgtT r197_40 c9 ?_
      refine x_forget (lc0 := [.ref 93, am_dead, am_dead, am_dead, am_dead, am_dead, .long v6, am_dead, am_dead, am_dead, am_dead, am_dead, am_dead]) ⟨Or.inl rfl, Or.inr ⟨rfl, rfl⟩, Or.inr ⟨rfl, rfl⟩, Or.inr ⟨rfl, rfl⟩, Or.inr ⟨rfl, rfl⟩, Or.inr ⟨rfl, rfl⟩, Or.inl rfl, Or.inl rfl, Or.inr ⟨rfl, rfl⟩, Or.inl rfl, Or.inl rfl, Or.inl rfl, Or.inl rfl, trivial⟩ ?_
      cases h
      exact k0
    · refine x_icgtF r197_40 c9 rfl ?_
      refine x_ld (v := .int v8) r197_43 rfl rfl rfl ?_
      refine x_ld (v := .int v1) r197_45 rfl rfl rfl ?_
      rcases am_ifE h with ⟨c10, h⟩ | ⟨c10, h⟩
      · refine x_icgtT r197_46 c10 ?_
        refine x_forget (lc0 := [.ref 93, am_dead, am_dead, am_dead, am_dead, am_dead, .long v6, am_dead, am_dead, am_dead, am_dead, am_dead, am_dead]) ⟨Or.inl rfl, Or.inr ⟨rfl, rfl⟩, Or.inr ⟨rfl, rfl⟩, Or.inr ⟨rfl, rfl⟩, Or.inr ⟨rfl, rfl⟩, Or.inr ⟨rfl, rfl⟩, Or.inl rfl, Or.inl rfl, Or.inr ⟨rfl, rfl⟩, Or.inl rfl, Or.inl rfl, Or.inl rfl, Or.inl rfl, trivial⟩ ?_
        cases h
        exact k0
      · refine x_icgtF r197_46 c10 rfl ?_
        refine x_ic (v := 0) r197_49 rfl rfl ?_
        refine x_sto (lc' := [.ref 93, .int v1, .int v2, .int v3, .int v4, .int v5, .long v6, am_dead, .int v8, .int (0 : Int32), am_dead, am_dead, am_dead]) r197_50 rfl rfl rfl rfl ?_
        obtain ⟨q29, h30, h⟩ := Option.bind_eq_some_iff.mp h
        refine x_forget (lc0 := [.ref 93, .int v1, .int v2, .int v3, .int v4, .int v5, .long v6, am_dead, .int v8, .int (0 : Int32), am_dead, am_dead, am_dead]) ⟨Or.inl rfl, Or.inl rfl, Or.inl rfl, Or.inl rfl, Or.inl rfl, Or.inl rfl, Or.inl rfl, Or.inl rfl, Or.inl rfl, Or.inl rfl, Or.inl rfl, Or.inl rfl, Or.inl rfl, trivial⟩ (m197_L52_w hd N v6 (0 : Int32) h30 ?_)
        obtain ⟨x31, e32, h⟩ := am_ltE h
        refine x_sto (lc' := [.ref 93, .int v1, .int v2, .int v3, .int v4, .int v5, .long q29, am_dead, .int x31, am_dead, am_dead, am_dead, am_dead]) r197_127 rfl rfl (by subst e32; rfl) rfl ?_
        refine x_goto r197_130 ?_
        exact x_forget (lc0 := [.ref 93, .int v1, .int v2, .int v3, .int v4, .int v5, .long q29, am_dead, .int x31, am_dead, am_dead, am_dead, am_dead]) ⟨Or.inl rfl, Or.inl rfl, Or.inl rfl, Or.inl rfl, Or.inl rfl, Or.inl rfl, Or.inl rfl, Or.inl rfl, Or.inl rfl, Or.inl rfl, Or.inl rfl, Or.inl rfl, Or.inl rfl, trivial⟩ (ih q29 x31 h k0)
theorem m197_w {d mc ms : Nat} {N : Nat} {D : am_D} {v1 : Int32} {v2 : Int32} {Q : am_O → am_AH → Prop} (hd : 2 ≤ d) {r : Int64} (h : m197 N D v1 v2 = some r) (hQ : Q (.inl (some (.long r))) (am_mk D)) : am_X xs L 197 d mc ms 0 [.ref 93, .int v1, .int v2, am_dead, am_dead, am_dead, am_dead, am_dead, am_dead, am_dead, am_dead, am_dead, am_dead] [] (am_mk D) 0 0 Q := by
  unfold m197 at h
  refine x_ld (v := .ref 93) r197_0 rfl rfl rfl ?_
  refine y_gf (cd := 98) (v := .ref 96) r197_1 rfl rfl rfl ?_
  refine x_ic (v := 5) r197_4 rfl rfl ?_
  refine x_call1 (as := [.ref 96, .int (5 : Int32)]) (rest := []) r197_5 rfl rfl rfl (by decide) (Nat.le_of_ble_eq_true rfl) (am_rows_at (n := 8) rfl (by decide)) (Nat.le_trans (by decide) hd) (Nat.zero_le _) (Nat.zero_le _) rfl ?_
  obtain ⟨x1, e2, h⟩ := am_ltE h
  refine am_topI e2 ?_
  refine x_sto (lc' := [.ref 93, .int v1, .int v2, .int x1, am_dead, am_dead, am_dead, am_dead, am_dead, am_dead, am_dead, am_dead, am_dead]) r197_8 rfl rfl rfl rfl ?_
  refine x_ld (v := .ref 93) r197_9 rfl rfl rfl ?_
  refine y_gf (cd := 98) (v := .ref 96) r197_10 rfl rfl rfl ?_
  refine x_bi (v := 6) r197_13 rfl rfl ?_
  refine x_call1 (as := [.ref 96, .int (6 : Int32)]) (rest := []) r197_15 rfl rfl rfl (by decide) (Nat.le_of_ble_eq_true rfl) (am_rows_at (n := 8) rfl (by decide)) (Nat.le_trans (by decide) hd) (Nat.zero_le _) (Nat.zero_le _) rfl ?_
  obtain ⟨x3, e4, h⟩ := am_ltE h
  refine am_topI e4 ?_
  refine x_sto (lc' := [.ref 93, .int v1, .int v2, .int x1, .int x3, am_dead, am_dead, am_dead, am_dead, am_dead, am_dead, am_dead, am_dead]) r197_18 rfl rfl rfl rfl ?_
  refine x_ld (v := .ref 93) r197_20 rfl rfl rfl ?_
  refine y_gf (cd := 98) (v := .ref 96) r197_21 rfl rfl rfl ?_
  refine x_bi (v := 7) r197_24 rfl rfl ?_
  refine x_call1 (as := [.ref 96, .int (7 : Int32)]) (rest := []) r197_26 rfl rfl rfl (by decide) (Nat.le_of_ble_eq_true rfl) (am_rows_at (n := 8) rfl (by decide)) (Nat.le_trans (by decide) hd) (Nat.zero_le _) (Nat.zero_le _) rfl ?_
  obtain ⟨x5, e6, h⟩ := am_ltE h
  refine am_topI e6 ?_
  refine x_sto (lc' := [.ref 93, .int v1, .int v2, .int x1, .int x3, .int x5, am_dead, am_dead, am_dead, am_dead, am_dead, am_dead, am_dead]) r197_29 rfl rfl rfl rfl ?_
  refine x_ar r197_31 rfl trivial rfl ?_
  obtain ⟨x7, e8, h⟩ := am_ltE h
  refine am_topJ e8 ?_
  refine x_sto (lc' := [.ref 93, .int v1, .int v2, .int x1, .int x3, .int x5, .long x7, am_dead, am_dead, am_dead, am_dead, am_dead, am_dead]) r197_32 rfl rfl rfl rfl ?_
  refine x_ic (v := 0) r197_34 rfl rfl ?_
  refine x_sto (lc' := [.ref 93, .int v1, .int v2, .int x1, .int x3, .int x5, .long x7, am_dead, .int (0 : Int32), am_dead, am_dead, am_dead, am_dead]) r197_35 rfl rfl rfl rfl ?_
  obtain ⟨q33, h34, h⟩ := Option.bind_eq_some_iff.mp h
  refine x_forget (lc0 := [.ref 93, .int v1, .int v2, .int x1, .int x3, .int x5, .long x7, am_dead, .int (0 : Int32), am_dead, am_dead, am_dead, am_dead]) ⟨Or.inl rfl, Or.inl rfl, Or.inl rfl, Or.inl rfl, Or.inl rfl, Or.inl rfl, Or.inl rfl, Or.inl rfl, Or.inl rfl, Or.inl rfl, Or.inl rfl, Or.inl rfl, Or.inl rfl, trivial⟩ (m197_L37_w hd N x7 (0 : Int32) h34 ?_)
  refine x_ld (v := .long q33) r197_133 rfl rfl rfl ?_
  cases h
  exact x_ret (ret := some .long) (C := True) (v := some (.long _)) r197_135 rt197 rfl rfl rfl rfl rfl rfl rfl rfl trivial hQ
theorem m197_ok {N : Nat} {D : am_D} {v1 : Int32} {v2 : Int32} {r : Int64} (h : m197 N D v1 v2 = some r) : am_Y xs L 197 2 0 0 [.ref 93, .int v1, .int v2] D (.inl (some (.long r))) D := am_Yof (mi := am_m197) (lc := [.ref 93, .int v1, .int v2, am_dead, am_dead, am_dead, am_dead, am_dead, am_dead, am_dead, am_dead, am_dead, am_dead]) pg197 (Nat.le_of_ble_eq_true rfl) (am_rc1 (ci := 3) rfl rfl rfl rfl rfl) rfl (fun Q hQ => m197_w (Nat.le_refl _) h hQ)
theorem r205_0 : am_at 205 0 = some (.iconst (0), 1, []) := by decide +kernel
theorem r205_1 : am_at 205 1 = some (.istore_n 2, 1, [2]) := by decide +kernel
theorem r205_2 : am_at 205 2 = some (.iconst (0), 1, []) := by decide +kernel
theorem r205_3 : am_at 205 3 = some (.istore_n 3, 1, [3]) := by decide +kernel
theorem r205_4 : am_at 205 4 = some (.iload_n 3, 1, [3]) := by decide +kernel
theorem r205_5 : am_at 205 5 = some (.aload_n 0, 1, [0]) := by decide +kernel
theorem r205_6 : am_at 205 6 = some (.getfield 18, 3, [4, 1, 3, 90]) := by decide +kernel
theorem r205_9 : am_at 205 9 = some (.arraylength, 1, []) := by decide +kernel
theorem r205_10 : am_at 205 10 = some (.if_icmp .ge (30), 3, [40]) := by decide +kernel
theorem r205_13 : am_at 205 13 = some (.iload_n 2, 1, [2]) := by decide +kernel
theorem r205_14 : am_at 205 14 = some (.aload_n 0, 1, [0]) := by decide +kernel
theorem r205_15 : am_at 205 15 = some (.getfield 18, 3, [4, 1, 3, 90]) := by decide +kernel
theorem r205_18 : am_at 205 18 = some (.iload_n 3, 1, [3]) := by decide +kernel
theorem r205_19 : am_at 205 19 = some (.iaload, 1, []) := by decide +kernel
theorem r205_20 : am_at 205 20 = some (.iload_n 1, 1, [1]) := by decide +kernel
theorem r205_21 : am_at 205 21 = some (.if_icmp .ne (10), 3, [31]) := by decide +kernel
theorem r205_24 : am_at 205 24 = some (.iload_n 3, 1, [3]) := by decide +kernel
theorem r205_25 : am_at 205 25 = some (.invokestatic 79, 3, [251, 1, 524, 0]) := by decide +kernel
theorem r205_28 : am_at 205 28 = some (.goto (4), 3, [32]) := by decide +kernel
theorem r205_31 : am_at 205 31 = some (.iconst (0), 1, []) := by decide +kernel
theorem r205_32 : am_at 205 32 = some (.iadd, 1, []) := by decide +kernel
theorem r205_33 : am_at 205 33 = some (.istore_n 2, 1, [2]) := by decide +kernel
theorem r205_34 : am_at 205 34 = some (.iinc 3 (1), 3, [3]) := by decide +kernel
theorem r205_37 : am_at 205 37 = some (.goto (-33), 3, [4]) := by decide +kernel
theorem r205_40 : am_at 205 40 = some (.iload_n 2, 1, [2]) := by decide +kernel
theorem r205_41 : am_at 205 41 = some (.ireturn, 1, []) := by decide +kernel
theorem rt205 : am_rtt 205 = some (some .int) := by decide +kernel
set_option maxRecDepth 100000 in
theorem pg205 : am_pg[205]? = some am_m205 := rfl
theorem m205_L4_w {d : Nat} {N : Nat} {D : am_D} {v1 : Int32} {mc ms : Nat} {Q : am_O → am_AH → Prop} (hd : 2 ≤ d) : ∀ (n : Nat) (v2 : Int32) (v3 : Int32) {q : Int32} (h : m205_L4 N D v1  n v2 v3 = some q) (k0 : am_X xs L 205 d mc ms 40 [.ref 1, am_dead, .int q, am_dead] [] (am_mk D) 0 0 Q), am_X xs L 205 d mc ms 4 [.ref 1, .int v1, .int v2, .int v3] [] (am_mk D) 0 0 Q := by
  intro n
  induction n with
  | zero =>
    intro v2 v3 q h k0
    exact (nomatch (show none = some q from h))
  | succ n ih =>
    intro v2 v3 q h k0
    rw [m205_L4] at h
    refine x_ld (v := .int v3) r205_4 rfl rfl rfl ?_
    refine x_ld (v := .ref 1) r205_5 rfl rfl rfl ?_
    refine y_gf (cd := 9) (v := .ref 7) r205_6 rfl rfl rfl ?_
    refine y_alen (tag := 0) (n := 28) (v := 28) r205_9 rfl rfl rfl ?_
    rcases am_ifE h with ⟨c1, h⟩ | ⟨c1, h⟩
    · refine x_icgeT r205_10 c1 ?_
      refine x_forget (lc0 := [.ref 1, am_dead, .int v2, am_dead]) ⟨Or.inl rfl, Or.inr ⟨rfl, rfl⟩, Or.inl rfl, Or.inr ⟨rfl, rfl⟩, trivial⟩ ?_
      cases h
      exact k0
    · refine x_icgeF r205_10 c1 rfl ?_
      refine x_ld (v := .int v2) r205_13 rfl rfl rfl ?_
      refine x_ld (v := .ref 1) r205_14 rfl rfl rfl ?_
      refine y_gf (cd := 9) (v := .ref 7) r205_15 rfl rfl rfl ?_
      refine x_ld (v := .int v3) r205_18 rfl rfl rfl ?_
      obtain ⟨g2, h⟩ := am_gdE h
      refine y_ial (n := 28) r205_19 rfl (by decide) g2 rfl rfl ?_
      refine x_ld (v := .int v1) r205_20 rfl rfl rfl ?_
      obtain ⟨q3, h5, h⟩ := am_ltE h
      replace h5 := h5.symm
      have kj4 : am_X xs L 205 d mc ms 32 [.ref 1, .int v1, .int v2, .int v3] [.int q3, .int v2] (am_mk D) 0 0 Q := by
        refine x_ar r205_32 rfl trivial rfl ?_
        obtain ⟨x7, e8, h⟩ := am_ltE h
        refine am_topI e8 ?_
        refine x_sto (lc' := [.ref 1, .int v1, .int x7, .int v3]) r205_33 rfl rfl rfl rfl ?_
        obtain ⟨x9, e10, h⟩ := am_ltE h
        refine x_sto (lc' := [.ref 1, .int v1, .int x7, .int x9]) r205_34 rfl rfl (by subst e10; rfl) rfl ?_
        refine x_goto r205_37 ?_
        exact x_forget (lc0 := [.ref 1, .int v1, .int x7, .int x9]) ⟨Or.inl rfl, Or.inl rfl, Or.inl rfl, Or.inl rfl, trivial⟩ (ih x7 x9 h k0)
      rcases am_ifE h5 with ⟨c6, h5⟩ | ⟨c6, h5⟩
      · refine x_icneT r205_21 c6 rfl ?_
        refine x_ld (v := .int v3) r205_24 rfl rfl rfl ?_
        refine x_call1 (as := [.int v3]) (rest := [.int v2]) r205_25 rfl rfl rfl (by decide) (Nat.le_of_ble_eq_true rfl) (m251_ok rfl) (Nat.le_trans (by decide) hd) (Nat.zero_le _) (Nat.zero_le _) rfl ?_
        refine x_goto r205_28 ?_
        subst h5
        exact kj4
      · refine x_icneF r205_21 c6 ?_
        refine x_ic (v := 0) r205_31 rfl rfl ?_
        subst h5
        exact kj4
theorem m205_w {d mc ms : Nat} {N : Nat} {D : am_D} {v1 : Int32} {Q : am_O → am_AH → Prop} (hd : 2 ≤ d) {r : Int32} (h : m205 N D v1 = some r) (hQ : Q (.inl (some (.int r))) (am_mk D)) : am_X xs L 205 d mc ms 0 [.ref 1, .int v1, am_dead, am_dead] [] (am_mk D) 0 0 Q := by
  unfold m205 at h
  refine x_ic (v := 0) r205_0 rfl rfl ?_
  refine x_sto (lc' := [.ref 1, .int v1, .int (0 : Int32), am_dead]) r205_1 rfl rfl rfl rfl ?_
  refine x_ic (v := 0) r205_2 rfl rfl ?_
  refine x_sto (lc' := [.ref 1, .int v1, .int (0 : Int32), .int (0 : Int32)]) r205_3 rfl rfl rfl rfl ?_
  obtain ⟨q11, h12, h⟩ := Option.bind_eq_some_iff.mp h
  refine x_forget (lc0 := [.ref 1, .int v1, .int (0 : Int32), .int (0 : Int32)]) ⟨Or.inl rfl, Or.inl rfl, Or.inl rfl, Or.inl rfl, trivial⟩ (m205_L4_w hd N (0 : Int32) (0 : Int32) h12 ?_)
  refine x_ld (v := .int q11) r205_40 rfl rfl rfl ?_
  cases h
  exact x_ret (ret := some .int) (C := True) (v := some (.int _)) r205_41 rt205 rfl rfl rfl rfl rfl rfl rfl rfl trivial hQ
theorem m205_ok {N : Nat} {D : am_D} {v1 : Int32} {r : Int32} (h : m205 N D v1 = some r) : am_Y xs L 205 2 0 0 [.ref 1, .int v1] D (.inl (some (.int r))) D := am_Yof (mi := am_m205) (lc := [.ref 1, .int v1, am_dead, am_dead]) pg205 (Nat.le_of_ble_eq_true rfl) (am_rc1 (ci := 4) rfl rfl rfl rfl rfl) rfl (fun Q hQ => m205_w (Nat.le_refl _) h hQ)
theorem r206_0 : am_at 206 0 = some (.iconst (0), 1, []) := by decide +kernel
theorem r206_1 : am_at 206 1 = some (.istore_n 2, 1, [2]) := by decide +kernel
theorem r206_2 : am_at 206 2 = some (.iconst (0), 1, []) := by decide +kernel
theorem r206_3 : am_at 206 3 = some (.istore_n 3, 1, [3]) := by decide +kernel
theorem r206_4 : am_at 206 4 = some (.iload_n 3, 1, [3]) := by decide +kernel
theorem r206_5 : am_at 206 5 = some (.aload_n 0, 1, [0]) := by decide +kernel
theorem r206_6 : am_at 206 6 = some (.getfield 18, 3, [4, 1, 3, 90]) := by decide +kernel
theorem r206_9 : am_at 206 9 = some (.arraylength, 1, []) := by decide +kernel
theorem r206_10 : am_at 206 10 = some (.if_icmp .ge (34), 3, [44]) := by decide +kernel
theorem r206_13 : am_at 206 13 = some (.iload_n 2, 1, [2]) := by decide +kernel
theorem r206_14 : am_at 206 14 = some (.aload_n 0, 1, [0]) := by decide +kernel
theorem r206_15 : am_at 206 15 = some (.getfield 18, 3, [4, 1, 3, 90]) := by decide +kernel
theorem r206_18 : am_at 206 18 = some (.iload_n 3, 1, [3]) := by decide +kernel
theorem r206_19 : am_at 206 19 = some (.iaload, 1, []) := by decide +kernel
theorem r206_20 : am_at 206 20 = some (.iload_n 1, 1, [1]) := by decide +kernel
theorem r206_21 : am_at 206 21 = some (.if_icmp .ne (14), 3, [35]) := by decide +kernel
theorem r206_24 : am_at 206 24 = some (.iload_n 3, 1, [3]) := by decide +kernel
theorem r206_25 : am_at 206 25 = some (.invokestatic 85, 3, [252, 1, 534, 0]) := by decide +kernel
theorem r206_28 : am_at 206 28 = some (.ifCond .eq (7), 3, [35]) := by decide +kernel
theorem r206_31 : am_at 206 31 = some (.iconst (1), 1, []) := by decide +kernel
theorem r206_32 : am_at 206 32 = some (.goto (4), 3, [36]) := by decide +kernel
theorem r206_35 : am_at 206 35 = some (.iconst (0), 1, []) := by decide +kernel
theorem r206_36 : am_at 206 36 = some (.iadd, 1, []) := by decide +kernel
theorem r206_37 : am_at 206 37 = some (.istore_n 2, 1, [2]) := by decide +kernel
theorem r206_38 : am_at 206 38 = some (.iinc 3 (1), 3, [3]) := by decide +kernel
theorem r206_41 : am_at 206 41 = some (.goto (-37), 3, [4]) := by decide +kernel
theorem r206_44 : am_at 206 44 = some (.iload_n 2, 1, [2]) := by decide +kernel
theorem r206_45 : am_at 206 45 = some (.ireturn, 1, []) := by decide +kernel
theorem rt206 : am_rtt 206 = some (some .int) := by decide +kernel
set_option maxRecDepth 100000 in
theorem pg206 : am_pg[206]? = some am_m206 := rfl
theorem m206_L4_w {d : Nat} {N : Nat} {D : am_D} {v1 : Int32} {mc ms : Nat} {Q : am_O → am_AH → Prop} (hd : 3 ≤ d) : ∀ (n : Nat) (v2 : Int32) (v3 : Int32) {q : Int32} (h : m206_L4 N D v1  n v2 v3 = some q) (k0 : am_X xs L 206 d mc ms 44 [.ref 1, am_dead, .int q, am_dead] [] (am_mk D) 0 0 Q), am_X xs L 206 d mc ms 4 [.ref 1, .int v1, .int v2, .int v3] [] (am_mk D) 0 0 Q := by
  intro n
  induction n with
  | zero =>
    intro v2 v3 q h k0
    exact (nomatch (show none = some q from h))
  | succ n ih =>
    intro v2 v3 q h k0
    rw [m206_L4] at h
    refine x_ld (v := .int v3) r206_4 rfl rfl rfl ?_
    refine x_ld (v := .ref 1) r206_5 rfl rfl rfl ?_
    refine y_gf (cd := 9) (v := .ref 7) r206_6 rfl rfl rfl ?_
    refine y_alen (tag := 0) (n := 28) (v := 28) r206_9 rfl rfl rfl ?_
    rcases am_ifE h with ⟨c1, h⟩ | ⟨c1, h⟩
    · refine x_icgeT r206_10 c1 ?_
      refine x_forget (lc0 := [.ref 1, am_dead, .int v2, am_dead]) ⟨Or.inl rfl, Or.inr ⟨rfl, rfl⟩, Or.inl rfl, Or.inr ⟨rfl, rfl⟩, trivial⟩ ?_
      cases h
      exact k0
    · refine x_icgeF r206_10 c1 rfl ?_
      refine x_ld (v := .int v2) r206_13 rfl rfl rfl ?_
      refine x_ld (v := .ref 1) r206_14 rfl rfl rfl ?_
      refine y_gf (cd := 9) (v := .ref 7) r206_15 rfl rfl rfl ?_
      refine x_ld (v := .int v3) r206_18 rfl rfl rfl ?_
      obtain ⟨g2, h⟩ := am_gdE h
      refine y_ial (n := 28) r206_19 rfl (by decide) g2 rfl rfl ?_
      refine x_ld (v := .int v1) r206_20 rfl rfl rfl ?_
      obtain ⟨q3, h5, h⟩ := am_ltE h
      replace h5 := h5.symm
      have kj4 : am_X xs L 206 d mc ms 36 [.ref 1, .int v1, .int v2, .int v3] [.int q3, .int v2] (am_mk D) 0 0 Q := by
        refine x_ar r206_36 rfl trivial rfl ?_
        obtain ⟨x8, e9, h⟩ := am_ltE h
        refine am_topI e9 ?_
        refine x_sto (lc' := [.ref 1, .int v1, .int x8, .int v3]) r206_37 rfl rfl rfl rfl ?_
        obtain ⟨x10, e11, h⟩ := am_ltE h
        refine x_sto (lc' := [.ref 1, .int v1, .int x8, .int x10]) r206_38 rfl rfl (by subst e11; rfl) rfl ?_
        refine x_goto r206_41 ?_
        exact x_forget (lc0 := [.ref 1, .int v1, .int x8, .int x10]) ⟨Or.inl rfl, Or.inl rfl, Or.inl rfl, Or.inl rfl, trivial⟩ (ih x8 x10 h k0)
      rcases am_ifE h5 with ⟨c6, h5⟩ | ⟨c6, h5⟩
      · refine x_icneT r206_21 c6 rfl ?_
        refine x_ld (v := .int v3) r206_24 rfl rfl rfl ?_
        refine x_call1 (as := [.int v3]) (rest := [.int v2]) r206_25 rfl rfl rfl (by decide) (Nat.le_of_ble_eq_true rfl) (m252_ok rfl) (Nat.le_trans (by decide) hd) (Nat.zero_le _) (Nat.zero_le _) rfl ?_
        rcases am_ifE h5 with ⟨c7, h5⟩ | ⟨c7, h5⟩
        · refine x_ifeqT r206_28 c7 ?_
          refine x_ic (v := 0) r206_35 rfl rfl ?_
          subst h5
          exact kj4
        · refine x_ifeqF r206_28 c7 rfl ?_
          refine x_ic (v := 1) r206_31 rfl rfl ?_
          refine x_goto r206_32 ?_
          subst h5
          exact kj4
      · refine x_icneF r206_21 c6 ?_
        refine x_ic (v := 0) r206_35 rfl rfl ?_
        subst h5
        exact kj4
theorem m206_w {d mc ms : Nat} {N : Nat} {D : am_D} {v1 : Int32} {Q : am_O → am_AH → Prop} (hd : 3 ≤ d) {r : Int32} (h : m206 N D v1 = some r) (hQ : Q (.inl (some (.int r))) (am_mk D)) : am_X xs L 206 d mc ms 0 [.ref 1, .int v1, am_dead, am_dead] [] (am_mk D) 0 0 Q := by
  unfold m206 at h
  refine x_ic (v := 0) r206_0 rfl rfl ?_
  refine x_sto (lc' := [.ref 1, .int v1, .int (0 : Int32), am_dead]) r206_1 rfl rfl rfl rfl ?_
  refine x_ic (v := 0) r206_2 rfl rfl ?_
  refine x_sto (lc' := [.ref 1, .int v1, .int (0 : Int32), .int (0 : Int32)]) r206_3 rfl rfl rfl rfl ?_
  obtain ⟨q12, h13, h⟩ := Option.bind_eq_some_iff.mp h
  refine x_forget (lc0 := [.ref 1, .int v1, .int (0 : Int32), .int (0 : Int32)]) ⟨Or.inl rfl, Or.inl rfl, Or.inl rfl, Or.inl rfl, trivial⟩ (m206_L4_w hd N (0 : Int32) (0 : Int32) h13 ?_)
  refine x_ld (v := .int q12) r206_44 rfl rfl rfl ?_
  cases h
  exact x_ret (ret := some .int) (C := True) (v := some (.int _)) r206_45 rt206 rfl rfl rfl rfl rfl rfl rfl rfl trivial hQ
theorem m206_ok {N : Nat} {D : am_D} {v1 : Int32} {r : Int32} (h : m206 N D v1 = some r) : am_Y xs L 206 3 0 0 [.ref 1, .int v1] D (.inl (some (.int r))) D := am_Yof (mi := am_m206) (lc := [.ref 1, .int v1, am_dead, am_dead]) pg206 (Nat.le_of_ble_eq_true rfl) (am_rc1 (ci := 4) rfl rfl rfl rfl rfl) rfl (fun Q hQ => m206_w (Nat.le_refl _) h hQ)
theorem r208_0 : am_at 208 0 = some (.iconst (0), 1, []) := by decide +kernel
theorem r208_1 : am_at 208 1 = some (.istore_n 2, 1, [2]) := by decide +kernel
theorem r208_2 : am_at 208 2 = some (.iconst (0), 1, []) := by decide +kernel
theorem r208_3 : am_at 208 3 = some (.istore_n 3, 1, [3]) := by decide +kernel
theorem r208_4 : am_at 208 4 = some (.iload_n 3, 1, [3]) := by decide +kernel
theorem r208_5 : am_at 208 5 = some (.aload_n 0, 1, [0]) := by decide +kernel
theorem r208_6 : am_at 208 6 = some (.getfield 18, 3, [4, 1, 3, 90]) := by decide +kernel
theorem r208_9 : am_at 208 9 = some (.arraylength, 1, []) := by decide +kernel
theorem r208_10 : am_at 208 10 = some (.if_icmp .ge (38), 3, [48]) := by decide +kernel
theorem r208_13 : am_at 208 13 = some (.iload_n 2, 1, [2]) := by decide +kernel
theorem r208_14 : am_at 208 14 = some (.aload_n 0, 1, [0]) := by decide +kernel
theorem r208_15 : am_at 208 15 = some (.getfield 18, 3, [4, 1, 3, 90]) := by decide +kernel
theorem r208_18 : am_at 208 18 = some (.iload_n 3, 1, [3]) := by decide +kernel
theorem r208_19 : am_at 208 19 = some (.iaload, 1, []) := by decide +kernel
theorem r208_20 : am_at 208 20 = some (.iload_n 1, 1, [1]) := by decide +kernel
theorem r208_21 : am_at 208 21 = some (.if_icmp .ne (18), 3, [39]) := by decide +kernel
theorem r208_24 : am_at 208 24 = some (.aload_n 0, 1, [0]) := by decide +kernel
theorem r208_25 : am_at 208 25 = some (.getfield 12, 3, [4, 0, 3, 87]) := by decide +kernel
theorem r208_28 : am_at 208 28 = some (.iload_n 3, 1, [3]) := by decide +kernel
theorem r208_29 : am_at 208 29 = some (.invokevirtual 89, 3, [159, 2, 529, 0]) := by decide +kernel
theorem r208_32 : am_at 208 32 = some (.ifCond .eq (7), 3, [39]) := by decide +kernel
theorem r208_35 : am_at 208 35 = some (.iconst (1), 1, []) := by decide +kernel
theorem r208_36 : am_at 208 36 = some (.goto (4), 3, [40]) := by decide +kernel
theorem r208_39 : am_at 208 39 = some (.iconst (0), 1, []) := by decide +kernel
theorem r208_40 : am_at 208 40 = some (.iadd, 1, []) := by decide +kernel
theorem r208_41 : am_at 208 41 = some (.istore_n 2, 1, [2]) := by decide +kernel
theorem r208_42 : am_at 208 42 = some (.iinc 3 (1), 3, [3]) := by decide +kernel
theorem r208_45 : am_at 208 45 = some (.goto (-41), 3, [4]) := by decide +kernel
theorem r208_48 : am_at 208 48 = some (.iload_n 2, 1, [2]) := by decide +kernel
theorem r208_49 : am_at 208 49 = some (.ireturn, 1, []) := by decide +kernel
theorem rt208 : am_rtt 208 = some (some .int) := by decide +kernel
set_option maxRecDepth 100000 in
theorem pg208 : am_pg[208]? = some am_m208 := rfl
theorem m208_L4_w {d : Nat} {N : Nat} {D : am_D} {v1 : Int32} {mc ms : Nat} {Q : am_O → am_AH → Prop} (hd : 4 ≤ d) : ∀ (n : Nat) (v2 : Int32) (v3 : Int32) {q : Int32} (h : m208_L4 N D v1  n v2 v3 = some q) (k0 : am_X xs L 208 d mc ms 48 [.ref 1, am_dead, .int q, am_dead] [] (am_mk D) 0 0 Q), am_X xs L 208 d mc ms 4 [.ref 1, .int v1, .int v2, .int v3] [] (am_mk D) 0 0 Q := by
  intro n
  induction n with
  | zero =>
    intro v2 v3 q h k0
    exact (nomatch (show none = some q from h))
  | succ n ih =>
    intro v2 v3 q h k0
    rw [m208_L4] at h
    refine x_ld (v := .int v3) r208_4 rfl rfl rfl ?_
    refine x_ld (v := .ref 1) r208_5 rfl rfl rfl ?_
    refine y_gf (cd := 9) (v := .ref 7) r208_6 rfl rfl rfl ?_
    refine y_alen (tag := 0) (n := 28) (v := 28) r208_9 rfl rfl rfl ?_
    rcases am_ifE h with ⟨c1, h⟩ | ⟨c1, h⟩
    · refine x_icgeT r208_10 c1 ?_
      refine x_forget (lc0 := [.ref 1, am_dead, .int v2, am_dead]) ⟨Or.inl rfl, Or.inr ⟨rfl, rfl⟩, Or.inl rfl, Or.inr ⟨rfl, rfl⟩, trivial⟩ ?_
      cases h
      exact k0
    · refine x_icgeF r208_10 c1 rfl ?_
      refine x_ld (v := .int v2) r208_13 rfl rfl rfl ?_
      refine x_ld (v := .ref 1) r208_14 rfl rfl rfl ?_
      refine y_gf (cd := 9) (v := .ref 7) r208_15 rfl rfl rfl ?_
      refine x_ld (v := .int v3) r208_18 rfl rfl rfl ?_
      obtain ⟨g2, h⟩ := am_gdE h
      refine y_ial (n := 28) r208_19 rfl (by decide) g2 rfl rfl ?_
      refine x_ld (v := .int v1) r208_20 rfl rfl rfl ?_
      obtain ⟨q3, h5, h⟩ := am_ltE h
      replace h5 := h5.symm
      have kj4 : am_X xs L 208 d mc ms 40 [.ref 1, .int v1, .int v2, .int v3] [.int q3, .int v2] (am_mk D) 0 0 Q := by
        refine x_ar r208_40 rfl trivial rfl ?_
        obtain ⟨x8, e9, h⟩ := am_ltE h
        refine am_topI e9 ?_
        refine x_sto (lc' := [.ref 1, .int v1, .int x8, .int v3]) r208_41 rfl rfl rfl rfl ?_
        obtain ⟨x10, e11, h⟩ := am_ltE h
        refine x_sto (lc' := [.ref 1, .int v1, .int x8, .int x10]) r208_42 rfl rfl (by subst e11; rfl) rfl ?_
        refine x_goto r208_45 ?_
        exact x_forget (lc0 := [.ref 1, .int v1, .int x8, .int x10]) ⟨Or.inl rfl, Or.inl rfl, Or.inl rfl, Or.inl rfl, trivial⟩ (ih x8 x10 h k0)
      rcases am_ifE h5 with ⟨c6, h5⟩ | ⟨c6, h5⟩
      · refine x_icneT r208_21 c6 rfl ?_
        refine x_ld (v := .ref 1) r208_24 rfl rfl rfl ?_
        refine y_gf (cd := 4) (v := .ref 2) r208_25 rfl rfl rfl ?_
        refine x_ld (v := .int v3) r208_28 rfl rfl rfl ?_
        refine x_call1 (as := [.ref 2, .int v3]) (rest := [.int v2]) r208_29 rfl rfl rfl (by decide) (Nat.le_of_ble_eq_true rfl) (m159_ok rfl) (Nat.le_trans (by decide) hd) (Nat.zero_le _) (Nat.zero_le _) rfl ?_
        rcases am_ifE h5 with ⟨c7, h5⟩ | ⟨c7, h5⟩
        · refine x_ifeqT r208_32 c7 ?_
          refine x_ic (v := 0) r208_39 rfl rfl ?_
          subst h5
          exact kj4
        · refine x_ifeqF r208_32 c7 rfl ?_
          refine x_ic (v := 1) r208_35 rfl rfl ?_
          refine x_goto r208_36 ?_
          subst h5
          exact kj4
      · refine x_icneF r208_21 c6 ?_
        refine x_ic (v := 0) r208_39 rfl rfl ?_
        subst h5
        exact kj4
theorem m208_w {d mc ms : Nat} {N : Nat} {D : am_D} {v1 : Int32} {Q : am_O → am_AH → Prop} (hd : 4 ≤ d) {r : Int32} (h : m208 N D v1 = some r) (hQ : Q (.inl (some (.int r))) (am_mk D)) : am_X xs L 208 d mc ms 0 [.ref 1, .int v1, am_dead, am_dead] [] (am_mk D) 0 0 Q := by
  unfold m208 at h
  refine x_ic (v := 0) r208_0 rfl rfl ?_
  refine x_sto (lc' := [.ref 1, .int v1, .int (0 : Int32), am_dead]) r208_1 rfl rfl rfl rfl ?_
  refine x_ic (v := 0) r208_2 rfl rfl ?_
  refine x_sto (lc' := [.ref 1, .int v1, .int (0 : Int32), .int (0 : Int32)]) r208_3 rfl rfl rfl rfl ?_
  obtain ⟨q12, h13, h⟩ := Option.bind_eq_some_iff.mp h
  refine x_forget (lc0 := [.ref 1, .int v1, .int (0 : Int32), .int (0 : Int32)]) ⟨Or.inl rfl, Or.inl rfl, Or.inl rfl, Or.inl rfl, trivial⟩ (m208_L4_w hd N (0 : Int32) (0 : Int32) h13 ?_)
  refine x_ld (v := .int q12) r208_48 rfl rfl rfl ?_
  cases h
  exact x_ret (ret := some .int) (C := True) (v := some (.int _)) r208_49 rt208 rfl rfl rfl rfl rfl rfl rfl rfl trivial hQ
theorem m208_ok {N : Nat} {D : am_D} {v1 : Int32} {r : Int32} (h : m208 N D v1 = some r) : am_Y xs L 208 4 0 0 [.ref 1, .int v1] D (.inl (some (.int r))) D := am_Yof (mi := am_m208) (lc := [.ref 1, .int v1, am_dead, am_dead]) pg208 (Nat.le_of_ble_eq_true rfl) (am_rc1 (ci := 4) rfl rfl rfl rfl rfl) rfl (fun Q hQ => m208_w (Nat.le_refl _) h hQ)
end XE
