/-! makers (by wip/tools/gen_ctor.py): Text, Trail, OpenHands, Secrets, History -/
section SC
variable {xs : Nat → Int32} {L : Nat} {P : am_AH} {a : Nat}
theorem z_upR {f : Nat → Option Nat} {m x e n : Nat} (h : x < m) (hf : ∀ j, j < n → f j ≠ some m) : ∀ j, j < n → va_up f e (some x) j ≠ some m := fun j hj => by
  unfold va_up
  by_cases c : j = e
  · rw [if_pos c]
    intro q
    cases q
    omega
  · rw [if_neg c]; exact hf j hj
theorem r230_0 : am_at 230 0 = some (.aload_n 0, 1, [0]) := by decide +kernel
theorem r230_1 : am_at 230 1 = some (.invokespecial 3, 3, [1003, 0, 180]) := by decide +kernel
theorem r230_4 : am_at 230 4 = some (.aload_n 0, 1, [0]) := by decide +kernel
theorem r230_5 : am_at 230 5 = some (.bipush (60), 2, []) := by decide +kernel
theorem r230_7 : am_at 230 7 = some (.newarray .int, 2, [0]) := by decide +kernel
theorem r230_9 : am_at 230 9 = some (.putfield 9, 3, [5, 0, 3, 181]) := by decide +kernel
theorem r230_12 : am_at 230 12 = some (.return_, 1, []) := by decide +kernel
theorem rt230 : am_rtt 230 = some none := by decide +kernel
set_option maxRecDepth 100000 in
theorem pg230 : am_pg[230]? = some am_m230 := rfl
def z_Tx (a : Nat) : am_AH := [c_O 5 [.ref (a + 1), .int 0], c_I 60 (fun _ => 0)]
theorem k230 (hP : P.length = a) (ha : a ≤ 999000) (hS : z_sc a P) : am_Z xs L 230 0 1 60 [.ref a] (P ++ [c_O 5 [.null, .int 0]]) (P ++ z_Tx a) := by
  refine am_Zof (mi := am_m230) (lc := [.ref a]) pg230 (Nat.le_of_ble_eq_true rfl) (am_rc2 rfl) rfl (fun Q hQ => ?_)
  refine x_ld (v := .ref a) r230_0 rfl rfl rfl ?_
  refine z_obj r230_1 (Nat.le_of_ble_eq_true rfl) rfl ?_
  refine x_ld (v := .ref a) r230_4 rfl rfl rfl ?_
  refine x_bi (v := 60) r230_5 rfl rfl ?_
  refine z_nai (n := a + 1) (z := 60) r230_7 (z_len hP rfl) (by omega) (z_sc_app hS (by omega) (fun m hm => z_alO (nv_0 (nv_i (nv_n))) (z_al0))) (nv_r (by omega) (nv_n)) (nv_r (by omega) (nv_n)) (by decide) rfl (Nat.le_of_ble_eq_true rfl) (Nat.le_of_ble_eq_true rfl) (Nat.le_of_ble_eq_true rfl) (h' := P ++ [c_O 5 [.null, .int 0], c_I 60 (fun _ => 0)]) (z_push _ _ _) rfl ?_
  refine z_pf3 (h' := P ++ [c_O 5 [.ref (a + 1), .int 0], c_I 60 (fun _ => 0)]) r230_9 (z_at hP 0 rfl) (Nat.le_of_ble_eq_true rfl) (z_set hP 0 _ rfl) rfl ?_
  exact x_ret (ret := none) (C := True) (v := none) r230_12 rt230 rfl rfl rfl rfl rfl rfl rfl rfl trivial hQ
theorem r257_0 : am_at 257 0 = some (.aload_n 0, 1, [0]) := by decide +kernel
theorem r257_1 : am_at 257 1 = some (.invokespecial 3, 3, [1003, 0, 252]) := by decide +kernel
theorem r257_4 : am_at 257 4 = some (.aload_n 0, 1, [0]) := by decide +kernel
theorem r257_5 : am_at 257 5 = some (.bipush (7), 2, []) := by decide +kernel
theorem r257_7 : am_at 257 7 = some (.newarray .int, 2, [0]) := by decide +kernel
theorem r257_9 : am_at 257 9 = some (.putfield 9, 3, [6, 0, 3, 253]) := by decide +kernel
theorem r257_12 : am_at 257 12 = some (.return_, 1, []) := by decide +kernel
theorem rt257 : am_rtt 257 = some none := by decide +kernel
set_option maxRecDepth 100000 in
theorem pg257 : am_pg[257]? = some am_m257 := rfl
def z_Tr (a : Nat) : am_AH := [c_O 6 [.ref (a + 1)], c_I 7 (fun _ => 0)]
theorem k257 (hP : P.length = a) (ha : a ≤ 999000) (hS : z_sc a P) : am_Z xs L 257 0 1 7 [.ref a] (P ++ [c_O 6 [.null]]) (P ++ z_Tr a) := by
  refine am_Zof (mi := am_m257) (lc := [.ref a]) pg257 (Nat.le_of_ble_eq_true rfl) (am_rc2 rfl) rfl (fun Q hQ => ?_)
  refine x_ld (v := .ref a) r257_0 rfl rfl rfl ?_
  refine z_obj r257_1 (Nat.le_of_ble_eq_true rfl) rfl ?_
  refine x_ld (v := .ref a) r257_4 rfl rfl rfl ?_
  refine x_bi (v := 7) r257_5 rfl rfl ?_
  refine z_nai (n := a + 1) (z := 7) r257_7 (z_len hP rfl) (by omega) (z_sc_app hS (by omega) (fun m hm => z_alO (nv_0 (nv_n)) (z_al0))) (nv_r (by omega) (nv_n)) (nv_r (by omega) (nv_n)) (by decide) rfl (Nat.le_of_ble_eq_true rfl) (Nat.le_of_ble_eq_true rfl) (Nat.le_of_ble_eq_true rfl) (h' := P ++ [c_O 6 [.null], c_I 7 (fun _ => 0)]) (z_push _ _ _) rfl ?_
  refine z_pf3 (h' := P ++ [c_O 6 [.ref (a + 1)], c_I 7 (fun _ => 0)]) r257_9 (z_at hP 0 rfl) (Nat.le_of_ble_eq_true rfl) (z_set hP 0 _ rfl) rfl ?_
  exact x_ret (ret := none) (C := True) (v := none) r257_12 rt257 rfl rfl rfl rfl rfl rfl rfl rfl trivial hQ
theorem r171_0 : am_at 171 0 = some (.aload_n 0, 1, [0]) := by decide +kernel
theorem r171_1 : am_at 171 1 = some (.invokespecial 3, 3, [1003, 0, 218]) := by decide +kernel
theorem r171_4 : am_at 171 4 = some (.aload_n 0, 1, [0]) := by decide +kernel
theorem r171_5 : am_at 171 5 = some (.bipush (9), 2, []) := by decide +kernel
theorem r171_7 : am_at 171 7 = some (.newarray .int, 2, [0]) := by decide +kernel
theorem r171_9 : am_at 171 9 = some (.putfield 9, 3, [2, 0, 3, 219]) := by decide +kernel
theorem r171_12 : am_at 171 12 = some (.aload_n 0, 1, [0]) := by decide +kernel
theorem r171_13 : am_at 171 13 = some (.bipush (9), 2, []) := by decide +kernel
theorem r171_15 : am_at 171 15 = some (.newarray .int, 2, [0]) := by decide +kernel
theorem r171_17 : am_at 171 17 = some (.putfield 15, 3, [2, 1, 3, 220]) := by decide +kernel
theorem r171_20 : am_at 171 20 = some (.aload_n 0, 1, [0]) := by decide +kernel
theorem r171_21 : am_at 171 21 = some (.bipush (20), 2, []) := by decide +kernel
theorem r171_23 : am_at 171 23 = some (.newarray .int, 2, [0]) := by decide +kernel
theorem r171_25 : am_at 171 25 = some (.putfield 18, 3, [2, 2, 3, 221]) := by decide +kernel
theorem r171_28 : am_at 171 28 = some (.aload_n 0, 1, [0]) := by decide +kernel
theorem r171_29 : am_at 171 29 = some (.bipush (20), 2, []) := by decide +kernel
theorem r171_31 : am_at 171 31 = some (.newarray .int, 2, [0]) := by decide +kernel
theorem r171_33 : am_at 171 33 = some (.putfield 21, 3, [2, 3, 3, 222]) := by decide +kernel
theorem r171_36 : am_at 171 36 = some (.return_, 1, []) := by decide +kernel
theorem rt171 : am_rtt 171 = some none := by decide +kernel
set_option maxRecDepth 100000 in
theorem pg171 : am_pg[171]? = some am_m171 := rfl
def z_Op (a : Nat) : am_AH := [c_O 2 [.ref (a + 1), .ref (a + 2), .ref (a + 3), .ref (a + 4), .int 0, .int 0, .int 0, .int 0], c_I 9 (fun _ => 0), c_I 9 (fun _ => 0), c_I 20 (fun _ => 0), c_I 20 (fun _ => 0)]
theorem k171 (hP : P.length = a) (ha : a ≤ 999000) (hS : z_sc a P) : am_Z xs L 171 0 4 58 [.ref a] (P ++ [c_O 2 [.null, .null, .null, .null, .int 0, .int 0, .int 0, .int 0]]) (P ++ z_Op a) := by
  refine am_Zof (mi := am_m171) (lc := [.ref a]) pg171 (Nat.le_of_ble_eq_true rfl) (am_rc2 rfl) rfl (fun Q hQ => ?_)
  refine x_ld (v := .ref a) r171_0 rfl rfl rfl ?_
  refine z_obj r171_1 (Nat.le_of_ble_eq_true rfl) rfl ?_
  refine x_ld (v := .ref a) r171_4 rfl rfl rfl ?_
  refine x_bi (v := 9) r171_5 rfl rfl ?_
  refine z_nai (n := a + 1) (z := 9) r171_7 (z_len hP rfl) (by omega) (z_sc_app hS (by omega) (fun m hm => z_alO (nv_0 (nv_0 (nv_0 (nv_0 (nv_i (nv_i (nv_i (nv_i (nv_n))))))))) (z_al0))) (nv_r (by omega) (nv_n)) (nv_r (by omega) (nv_n)) (by decide) rfl (Nat.le_of_ble_eq_true rfl) (Nat.le_of_ble_eq_true rfl) (Nat.le_of_ble_eq_true rfl) (h' := P ++ [c_O 2 [.null, .null, .null, .null, .int 0, .int 0, .int 0, .int 0], c_I 9 (fun _ => 0)]) (z_push _ _ _) rfl ?_
  refine z_pf3 (h' := P ++ [c_O 2 [.ref (a + 1), .null, .null, .null, .int 0, .int 0, .int 0, .int 0], c_I 9 (fun _ => 0)]) r171_9 (z_at hP 0 rfl) (Nat.le_of_ble_eq_true rfl) (z_set hP 0 _ rfl) rfl ?_
  refine x_ld (v := .ref a) r171_12 rfl rfl rfl ?_
  refine x_bi (v := 9) r171_13 rfl rfl ?_
  refine z_nai (n := a + 2) (z := 9) r171_15 (z_len hP rfl) (by omega) (z_sc_app hS (by omega) (fun m hm => z_alO (nv_r (by omega) (nv_0 (nv_0 (nv_0 (nv_i (nv_i (nv_i (nv_i (nv_n))))))))) (z_alI (z_al0)))) (nv_r (by omega) (nv_n)) (nv_r (by omega) (nv_n)) (by decide) rfl (Nat.le_of_ble_eq_true rfl) (Nat.le_of_ble_eq_true rfl) (Nat.le_of_ble_eq_true rfl) (h' := P ++ [c_O 2 [.ref (a + 1), .null, .null, .null, .int 0, .int 0, .int 0, .int 0], c_I 9 (fun _ => 0), c_I 9 (fun _ => 0)]) (z_push _ _ _) rfl ?_
  refine z_pf3 (h' := P ++ [c_O 2 [.ref (a + 1), .ref (a + 2), .null, .null, .int 0, .int 0, .int 0, .int 0], c_I 9 (fun _ => 0), c_I 9 (fun _ => 0)]) r171_17 (z_at hP 0 rfl) (Nat.le_of_ble_eq_true rfl) (z_set hP 0 _ rfl) rfl ?_
  refine x_ld (v := .ref a) r171_20 rfl rfl rfl ?_
  refine x_bi (v := 20) r171_21 rfl rfl ?_
  refine z_nai (n := a + 3) (z := 20) r171_23 (z_len hP rfl) (by omega) (z_sc_app hS (by omega) (fun m hm => z_alO (nv_r (by omega) (nv_r (by omega) (nv_0 (nv_0 (nv_i (nv_i (nv_i (nv_i (nv_n))))))))) (z_alI (z_alI (z_al0))))) (nv_r (by omega) (nv_n)) (nv_r (by omega) (nv_n)) (by decide) rfl (Nat.le_of_ble_eq_true rfl) (Nat.le_of_ble_eq_true rfl) (Nat.le_of_ble_eq_true rfl) (h' := P ++ [c_O 2 [.ref (a + 1), .ref (a + 2), .null, .null, .int 0, .int 0, .int 0, .int 0], c_I 9 (fun _ => 0), c_I 9 (fun _ => 0), c_I 20 (fun _ => 0)]) (z_push _ _ _) rfl ?_
  refine z_pf3 (h' := P ++ [c_O 2 [.ref (a + 1), .ref (a + 2), .ref (a + 3), .null, .int 0, .int 0, .int 0, .int 0], c_I 9 (fun _ => 0), c_I 9 (fun _ => 0), c_I 20 (fun _ => 0)]) r171_25 (z_at hP 0 rfl) (Nat.le_of_ble_eq_true rfl) (z_set hP 0 _ rfl) rfl ?_
  refine x_ld (v := .ref a) r171_28 rfl rfl rfl ?_
  refine x_bi (v := 20) r171_29 rfl rfl ?_
  refine z_nai (n := a + 4) (z := 20) r171_31 (z_len hP rfl) (by omega) (z_sc_app hS (by omega) (fun m hm => z_alO (nv_r (by omega) (nv_r (by omega) (nv_r (by omega) (nv_0 (nv_i (nv_i (nv_i (nv_i (nv_n))))))))) (z_alI (z_alI (z_alI (z_al0)))))) (nv_r (by omega) (nv_n)) (nv_r (by omega) (nv_n)) (by decide) rfl (Nat.le_of_ble_eq_true rfl) (Nat.le_of_ble_eq_true rfl) (Nat.le_of_ble_eq_true rfl) (h' := P ++ [c_O 2 [.ref (a + 1), .ref (a + 2), .ref (a + 3), .null, .int 0, .int 0, .int 0, .int 0], c_I 9 (fun _ => 0), c_I 9 (fun _ => 0), c_I 20 (fun _ => 0), c_I 20 (fun _ => 0)]) (z_push _ _ _) rfl ?_
  refine z_pf3 (h' := P ++ [c_O 2 [.ref (a + 1), .ref (a + 2), .ref (a + 3), .ref (a + 4), .int 0, .int 0, .int 0, .int 0], c_I 9 (fun _ => 0), c_I 9 (fun _ => 0), c_I 20 (fun _ => 0), c_I 20 (fun _ => 0)]) r171_33 (z_at hP 0 rfl) (Nat.le_of_ble_eq_true rfl) (z_set hP 0 _ rfl) rfl ?_
  exact x_ret (ret := none) (C := True) (v := none) r171_36 rt171 rfl rfl rfl rfl rfl rfl rfl rfl trivial hQ
theorem r188_0 : am_at 188 0 = some (.aload_n 0, 1, [0]) := by decide +kernel
theorem r188_1 : am_at 188 1 = some (.invokespecial 3, 3, [1003, 0, 192]) := by decide +kernel
theorem r188_4 : am_at 188 4 = some (.aload_n 0, 1, [0]) := by decide +kernel
theorem r188_5 : am_at 188 5 = some (.iconst (3), 1, []) := by decide +kernel
theorem r188_6 : am_at 188 6 = some (.newarray .int, 2, [0]) := by decide +kernel
theorem r188_8 : am_at 188 8 = some (.putfield 11, 3, [3, 0, 3, 193]) := by decide +kernel
theorem r188_11 : am_at 188 11 = some (.aload_n 0, 1, [0]) := by decide +kernel
theorem r188_12 : am_at 188 12 = some (.bipush (28), 2, []) := by decide +kernel
theorem r188_14 : am_at 188 14 = some (.newarray .int, 2, [0]) := by decide +kernel
theorem r188_16 : am_at 188 16 = some (.putfield 15, 3, [3, 1, 3, 194]) := by decide +kernel
theorem r188_19 : am_at 188 19 = some (.aload_n 0, 1, [0]) := by decide +kernel
theorem r188_20 : am_at 188 20 = some (.bipush (8), 2, []) := by decide +kernel
theorem r188_22 : am_at 188 22 = some (.newarray .int, 2, [0]) := by decide +kernel
theorem r188_24 : am_at 188 24 = some (.putfield 18, 3, [3, 2, 3, 195]) := by decide +kernel
theorem r188_27 : am_at 188 27 = some (.aload_n 0, 1, [0]) := by decide +kernel
theorem r188_28 : am_at 188 28 = some (.bipush (64), 2, []) := by decide +kernel
theorem r188_30 : am_at 188 30 = some (.newarray .long, 2, [1]) := by decide +kernel
theorem r188_32 : am_at 188 32 = some (.putfield 21, 3, [3, 3, 3, 196]) := by decide +kernel
theorem r188_35 : am_at 188 35 = some (.aload_n 0, 1, [0]) := by decide +kernel
theorem r188_36 : am_at 188 36 = some (.sipush (484), 3, []) := by decide +kernel
theorem r188_39 : am_at 188 39 = some (.newarray .long, 2, [1]) := by decide +kernel
theorem r188_41 : am_at 188 41 = some (.putfield 25, 3, [3, 4, 3, 197]) := by decide +kernel
theorem r188_44 : am_at 188 44 = some (.iconst (0), 1, []) := by decide +kernel
theorem r188_45 : am_at 188 45 = some (.istore_n 1, 1, [1]) := by decide +kernel
theorem r188_46 : am_at 188 46 = some (.iload_n 1, 1, [1]) := by decide +kernel
theorem r188_47 : am_at 188 47 = some (.aload_n 0, 1, [0]) := by decide +kernel
theorem r188_48 : am_at 188 48 = some (.getfield 25, 3, [3, 4, 3, 197]) := by decide +kernel
theorem r188_51 : am_at 188 51 = some (.arraylength, 1, []) := by decide +kernel
theorem r188_52 : am_at 188 52 = some (.if_icmp .ge (74), 3, [126]) := by decide +kernel
theorem r188_55 : am_at 188 55 = some (.iload_n 1, 1, [1]) := by decide +kernel
theorem r188_56 : am_at 188 56 = some (.bipush (22), 2, []) := by decide +kernel
theorem r188_58 : am_at 188 58 = some (.idiv, 1, []) := by decide +kernel
theorem r188_59 : am_at 188 59 = some (.istore_n 2, 1, [2]) := by decide +kernel
theorem r188_60 : am_at 188 60 = some (.iload_n 1, 1, [1]) := by decide +kernel
theorem r188_61 : am_at 188 61 = some (.bipush (22), 2, []) := by decide +kernel
theorem r188_63 : am_at 188 63 = some (.irem, 1, []) := by decide +kernel
theorem r188_64 : am_at 188 64 = some (.istore_n 3, 1, [3]) := by decide +kernel
theorem r188_65 : am_at 188 65 = some (.iload_n 3, 1, [3]) := by decide +kernel
theorem r188_66 : am_at 188 66 = some (.ifCond .ne (13), 3, [79]) := by decide +kernel
theorem r188_69 : am_at 188 69 = some (.aload_n 0, 1, [0]) := by decide +kernel
theorem r188_70 : am_at 188 70 = some (.getfield 25, 3, [3, 4, 3, 197]) := by decide +kernel
theorem r188_73 : am_at 188 73 = some (.iload_n 1, 1, [1]) := by decide +kernel
theorem r188_74 : am_at 188 74 = some (.lconst 1, 1, []) := by decide +kernel
theorem r188_75 : am_at 188 75 = some (.lastore, 1, []) := by decide +kernel
theorem r188_76 : am_at 188 76 = some (.goto (44), 3, [120]) := by decide +kernel
theorem r188_79 : am_at 188 79 = some (.iload_n 3, 1, [3]) := by decide +kernel
theorem r188_80 : am_at 188 80 = some (.iload_n 2, 1, [2]) := by decide +kernel
theorem r188_81 : am_at 188 81 = some (.if_icmp .gt (39), 3, [120]) := by decide +kernel
theorem r188_84 : am_at 188 84 = some (.iload_n 1, 1, [1]) := by decide +kernel
theorem r188_85 : am_at 188 85 = some (.bipush (22), 2, []) := by decide +kernel
theorem r188_87 : am_at 188 87 = some (.isub, 1, []) := by decide +kernel
theorem r188_88 : am_at 188 88 = some (.iconst (1), 1, []) := by decide +kernel
theorem r188_89 : am_at 188 89 = some (.isub, 1, []) := by decide +kernel
theorem r188_90 : am_at 188 90 = some (.ifCond .lt (30), 3, [120]) := by decide +kernel
theorem r188_93 : am_at 188 93 = some (.aload_n 0, 1, [0]) := by decide +kernel
theorem r188_94 : am_at 188 94 = some (.getfield 25, 3, [3, 4, 3, 197]) := by decide +kernel
theorem r188_97 : am_at 188 97 = some (.iload_n 1, 1, [1]) := by decide +kernel
theorem r188_98 : am_at 188 98 = some (.aload_n 0, 1, [0]) := by decide +kernel
theorem r188_99 : am_at 188 99 = some (.getfield 25, 3, [3, 4, 3, 197]) := by decide +kernel
theorem r188_102 : am_at 188 102 = some (.iload_n 1, 1, [1]) := by decide +kernel
theorem r188_103 : am_at 188 103 = some (.bipush (22), 2, []) := by decide +kernel
theorem r188_105 : am_at 188 105 = some (.isub, 1, []) := by decide +kernel
theorem r188_106 : am_at 188 106 = some (.laload, 1, []) := by decide +kernel
theorem r188_107 : am_at 188 107 = some (.aload_n 0, 1, [0]) := by decide +kernel
theorem r188_108 : am_at 188 108 = some (.getfield 25, 3, [3, 4, 3, 197]) := by decide +kernel
theorem r188_111 : am_at 188 111 = some (.iload_n 1, 1, [1]) := by decide +kernel
theorem r188_112 : am_at 188 112 = some (.bipush (22), 2, []) := by decide +kernel
theorem r188_114 : am_at 188 114 = some (.isub, 1, []) := by decide +kernel
theorem r188_115 : am_at 188 115 = some (.iconst (1), 1, []) := by decide +kernel
theorem r188_116 : am_at 188 116 = some (.isub, 1, []) := by decide +kernel
theorem r188_117 : am_at 188 117 = some (.laload, 1, []) := by decide +kernel
theorem r188_118 : am_at 188 118 = some (.ladd, 1, []) := by decide +kernel
theorem r188_119 : am_at 188 119 = some (.lastore, 1, []) := by decide +kernel
theorem r188_120 : am_at 188 120 = some (.iinc 1 (1), 3, [1]) := by decide +kernel
theorem r188_123 : am_at 188 123 = some (.goto (-77), 3, [46]) := by decide +kernel
theorem r188_126 : am_at 188 126 = some (.return_, 1, []) := by decide +kernel
theorem rt188 : am_rtt 188 = some none := by decide +kernel
set_option maxRecDepth 100000 in
theorem pg188 : am_pg[188]? = some am_m188 := rfl
def z_bt (i : Nat) : Nat → Int64 := fun j => if j < i then Int64.ofNat (q_bin (j / 22) (j % 22)) else 0
theorem z_bt0 : z_bt 0 = fun _ => 0 := by
  funext j
  unfold z_bt
  rw [if_neg (by omega)]
theorem z_btS (i : Nat) : vp_updL (z_bt i) i (Int64.ofNat (q_bin (i / 22) (i % 22))) = z_bt (i + 1) := by
  funext j
  unfold vp_updL z_bt
  by_cases c : j = i
  · rw [if_pos c, if_pos (by omega), c]
  · rw [if_neg c]
    by_cases d : j < i
    · rw [if_pos d, if_pos (by omega)]
    · rw [if_neg d, if_neg (by omega)]
theorem z_btN {i : Nat} (h : i / 22 < i % 22) : z_bt i = z_bt (i + 1) := by
  funext j
  unfold z_bt
  by_cases c : j = i
  · rw [if_neg (by omega), if_pos (by omega), c, q_bin_gt _ _ h]; rfl
  · by_cases d : j < i
    · rw [if_pos d, if_pos (by omega)]
    · rw [if_neg d, if_neg (by omega)]
theorem z_btA {i : Nat} (h0 : ¬ i % 22 = 0) (h : ¬ i / 22 < i % 22) : z_bt i (i - 22) + z_bt i (i - 22 - 1) = Int64.ofNat (q_bin (i / 22) (i % 22)) := by
  have e1 : (i - 22) / 22 = i / 22 - 1 := by omega
  have e2 : (i - 22) % 22 = i % 22 := by omega
  have e3 : (i - 22 - 1) / 22 = i / 22 - 1 := by omega
  have e4 : (i - 22 - 1) % 22 = i % 22 - 1 := by omega
  unfold z_bt
  rw [if_pos (by omega), if_pos (by omega), e1, e2, e3, e4, ← Int64.ofNat_add]
  obtain ⟨f, hf⟩ : ∃ f, i / 22 = f + 1 := ⟨i / 22 - 1, by omega⟩
  obtain ⟨t, ht⟩ : ∃ t, i % 22 = t + 1 := ⟨i % 22 - 1, by omega⟩
  rw [hf, ht]
  show Int64.ofNat (q_bin f (t + 1) + q_bin f t) = Int64.ofNat (q_bin f t + q_bin f (t + 1))
  rw [Nat.add_comm]
def z_SL (a : Nat) (f : Nat → Int64) : am_AH := [c_O 3 [.ref (a + 1), .ref (a + 2), .ref (a + 3), .ref (a + 4), .ref (a + 5), .int 0], c_I 3 (fun _ => 0), c_I 28 (fun _ => 0), c_I 8 (fun _ => 0), c_J 64 (fun _ => 0), c_J 484 f]
def z_Se (a : Nat) : am_AH := z_SL a (z_bt 484)
theorem k188_L {d mc ms c s : Nat} {Q : am_O → am_AH → Prop} (hP : P.length = a) (hQ : Q (.inl none) (P ++ z_Se a)) : ∀ (k i : Nat) (u v : Value), i + k = 484 → am_X xs L 188 d mc ms 46 [.ref a, .int (Int32.ofNat i), u, v] [] (P ++ z_SL a (z_bt i)) c s Q
  | 0, i, u, v, hi => by
    obtain rfl : i = 484 := by omega
    refine x_ld (v := .int (Int32.ofNat 484)) r188_46 rfl rfl rfl ?_
    refine x_ld (v := .ref a) r188_47 rfl rfl rfl ?_
    refine z_gf (v := .ref (a + 5)) r188_48 (z_at hP 0 rfl) rfl rfl ?_
    refine z_alen (v := 484) r188_51 (z_at hP 5 rfl) rfl rfl ?_
    refine x_icgeT r188_52 (by decide) ?_
    exact x_ret (ret := none) (C := True) (v := none) r188_126 rt188 rfl rfl rfl rfl rfl rfl rfl rfl trivial hQ
  | k + 1, i, u, v, hi => by
    refine x_ld (v := .int (Int32.ofNat i)) r188_46 rfl rfl rfl ?_
    refine x_ld (v := .ref a) r188_47 rfl rfl rfl ?_
    refine z_gf (v := .ref (a + 5)) r188_48 (z_at hP 0 rfl) rfl rfl ?_
    refine z_alen (v := 484) r188_51 (z_at hP 5 rfl) rfl rfl ?_
    refine x_icgeF r188_52 (q_nle (a := i) (b := 484) (by omega) (by omega)) rfl ?_
    -- the next round
    have nx : am_X xs L 188 d mc ms 120 [.ref a, .int (Int32.ofNat i), .int (Int32.ofNat (i / 22)), .int (Int32.ofNat (i % 22))] [] (P ++ z_SL a (z_bt (i + 1))) c s Q := by
      refine x_sto (lc' := [.ref a, .int (Int32.ofNat (i + 1)), .int (Int32.ofNat (i / 22)), .int (Int32.ofNat (i % 22))]) (st' := []) r188_120 rfl rfl (by rw [← q_s1]; rfl) rfl ?_
      refine x_goto r188_123 ?_
      exact k188_L hP hQ k (i + 1) _ _ (by omega)
    refine x_ld (v := .int (Int32.ofNat i)) r188_55 rfl rfl rfl ?_
    refine x_bi (v := 22) r188_56 rfl rfl ?_
    refine x_ar r188_58 rfl (by decide) rfl ?_
    refine am_topI (v := Int32.ofNat (i / 22)) (q_div (a := i) (b := 22) (by omega) (by omega)).symm ?_
    refine x_sto (lc' := [.ref a, .int (Int32.ofNat i), .int (Int32.ofNat (i / 22)), v]) (st' := []) r188_59 rfl rfl rfl rfl ?_
    refine x_ld (v := .int (Int32.ofNat i)) r188_60 rfl rfl rfl ?_
    refine x_bi (v := 22) r188_61 rfl rfl ?_
    refine x_ar r188_63 rfl (by decide) rfl ?_
    refine am_topI (v := Int32.ofNat (i % 22)) (q_mod (a := i) (b := 22) (by omega) (by omega)).symm ?_
    refine x_sto (lc' := [.ref a, .int (Int32.ofNat i), .int (Int32.ofNat (i / 22)), .int (Int32.ofNat (i % 22))]) (st' := []) r188_64 rfl rfl rfl rfl ?_
    refine x_ld (v := .int (Int32.ofNat (i % 22))) r188_65 rfl rfl rfl ?_
    by_cases t0 : i % 22 = 0
    · refine x_ifneT r188_66 (by rw [t0]; rfl) rfl ?_
      refine x_ld (v := .ref a) r188_69 rfl rfl rfl ?_
      refine z_gf (v := .ref (a + 5)) r188_70 (z_at hP 0 rfl) rfl rfl ?_
      refine x_ld (v := .int (Int32.ofNat i)) r188_73 rfl rfl rfl ?_
      refine x_ar r188_74 rfl trivial rfl ?_
      refine z_las (e := i) (h' := P ++ z_SL a (z_bt (i + 1))) r188_75 (z_at hP 5 rfl) (Nat.le_of_ble_eq_true rfl) (q_in (n := 484) (by omega) (by omega)) (q_tn (by omega)) (z_set hP 5 _ (by rw [← z_btS, t0, q_bin_0]; rfl)) rfl ?_
      exact x_goto r188_76 nx
    · refine x_ifneF r188_66 (fun q => t0 (q_ofN (b := 0) (by omega) (by omega) q)) ?_
      refine x_ld (v := .int (Int32.ofNat (i % 22))) r188_79 rfl rfl rfl ?_
      refine x_ld (v := .int (Int32.ofNat (i / 22))) r188_80 rfl rfl rfl ?_
      by_cases t1 : i / 22 < i % 22
      · refine x_icgtT r188_81 (q_ylt (by omega) t1) ?_
        rw [z_btN t1]
        exact nx
      · refine x_icgtF r188_81 (q_nlt (by omega) (by omega)) rfl ?_
        refine x_ld (v := .int (Int32.ofNat i)) r188_84 rfl rfl rfl ?_
        refine x_bi (v := 22) r188_85 rfl rfl ?_
        refine x_ar r188_87 rfl trivial rfl ?_
        refine x_ic (v := 1) r188_88 rfl rfl ?_
        refine x_ar r188_89 rfl trivial rfl ?_
        refine am_topI (v := Int32.ofNat (i - 22 - 1)) (by rw [← q_sub (a := i - 22) (b := 1) (by omega), ← q_sub (a := i) (b := 22) (by omega)]; rfl) ?_
        refine x_ifltF r188_90 (q_nlt (a := 0) (b := i - 22 - 1) (by omega) (by omega)) rfl ?_
        refine x_ld (v := .ref a) r188_93 rfl rfl rfl ?_
        refine z_gf (v := .ref (a + 5)) r188_94 (z_at hP 0 rfl) rfl rfl ?_
        refine x_ld (v := .int (Int32.ofNat i)) r188_97 rfl rfl rfl ?_
        refine x_ld (v := .ref a) r188_98 rfl rfl rfl ?_
        refine z_gf (v := .ref (a + 5)) r188_99 (z_at hP 0 rfl) rfl rfl ?_
        refine x_ld (v := .int (Int32.ofNat i)) r188_102 rfl rfl rfl ?_
        refine x_bi (v := 22) r188_103 rfl rfl ?_
        refine x_ar r188_105 rfl trivial rfl ?_
        refine am_topI (v := Int32.ofNat (i - 22)) (q_sub (a := i) (b := 22) (by omega)).symm ?_
        refine z_lal (e := i - 22) r188_106 (z_at hP 5 rfl) (Nat.le_of_ble_eq_true rfl) (q_in (n := 484) (by omega) (by omega)) (q_tn (by omega)) rfl ?_
        refine x_ld (v := .ref a) r188_107 rfl rfl rfl ?_
        refine z_gf (v := .ref (a + 5)) r188_108 (z_at hP 0 rfl) rfl rfl ?_
        refine x_ld (v := .int (Int32.ofNat i)) r188_111 rfl rfl rfl ?_
        refine x_bi (v := 22) r188_112 rfl rfl ?_
        refine x_ar r188_114 rfl trivial rfl ?_
        refine x_ic (v := 1) r188_115 rfl rfl ?_
        refine x_ar r188_116 rfl trivial rfl ?_
        refine am_topI (v := Int32.ofNat (i - 22 - 1)) (by rw [← q_sub (a := i - 22) (b := 1) (by omega), ← q_sub (a := i) (b := 22) (by omega)]; rfl) ?_
        refine z_lal (e := i - 22 - 1) r188_117 (z_at hP 5 rfl) (Nat.le_of_ble_eq_true rfl) (q_in (n := 484) (by omega) (by omega)) (q_tn (by omega)) rfl ?_
        refine x_ar r188_118 rfl trivial rfl ?_
        refine am_topJ (v := Int64.ofNat (q_bin (i / 22) (i % 22))) (z_btA t0 t1).symm ?_
        refine z_las (e := i) (h' := P ++ z_SL a (z_bt (i + 1))) r188_119 (z_at hP 5 rfl) (Nat.le_of_ble_eq_true rfl) (q_in (n := 484) (by omega) (by omega)) (q_tn (by omega)) (z_set hP 5 _ (by rw [← z_btS]; rfl)) rfl ?_
        exact nx
theorem k188 (hP : P.length = a) (ha : a ≤ 999000) (hS : z_sc a P) : am_Z xs L 188 0 5 587 [.ref a] (P ++ [c_O 3 [.null, .null, .null, .null, .null, .int 0]]) (P ++ z_Se a) := by
  refine am_Zof (mi := am_m188) (lc := [.ref a, am_dead, am_dead, am_dead]) pg188 (Nat.le_of_ble_eq_true rfl) (am_rc2 rfl) rfl (fun Q hQ => ?_)
  refine x_ld (v := .ref a) r188_0 rfl rfl rfl ?_
  refine z_obj r188_1 (Nat.le_of_ble_eq_true rfl) rfl ?_
  refine x_ld (v := .ref a) r188_4 rfl rfl rfl ?_
  refine x_ic (v := 3) r188_5 rfl rfl ?_
  refine z_nai (n := a + 1) (z := 3) r188_6 (z_len hP rfl) (by omega) (z_sc_app hS (by omega) (fun m hm => z_alO (nv_0 (nv_0 (nv_0 (nv_0 (nv_0 (nv_i (nv_n))))))) (z_al0))) (nv_r (by omega) (nv_d (nv_d (nv_d (nv_n))))) (nv_r (by omega) (nv_n)) (by decide) rfl (Nat.le_of_ble_eq_true rfl) (Nat.le_of_ble_eq_true rfl) (Nat.le_of_ble_eq_true rfl) (h' := P ++ [c_O 3 [.null, .null, .null, .null, .null, .int 0], c_I 3 (fun _ => 0)]) (z_push _ _ _) rfl ?_
  refine z_pf3 (h' := P ++ [c_O 3 [.ref (a + 1), .null, .null, .null, .null, .int 0], c_I 3 (fun _ => 0)]) r188_8 (z_at hP 0 rfl) (Nat.le_of_ble_eq_true rfl) (z_set hP 0 _ rfl) rfl ?_
  refine x_ld (v := .ref a) r188_11 rfl rfl rfl ?_
  refine x_bi (v := 28) r188_12 rfl rfl ?_
  refine z_nai (n := a + 2) (z := 28) r188_14 (z_len hP rfl) (by omega) (z_sc_app hS (by omega) (fun m hm => z_alO (nv_r (by omega) (nv_0 (nv_0 (nv_0 (nv_0 (nv_i (nv_n))))))) (z_alI (z_al0)))) (nv_r (by omega) (nv_d (nv_d (nv_d (nv_n))))) (nv_r (by omega) (nv_n)) (by decide) rfl (Nat.le_of_ble_eq_true rfl) (Nat.le_of_ble_eq_true rfl) (Nat.le_of_ble_eq_true rfl) (h' := P ++ [c_O 3 [.ref (a + 1), .null, .null, .null, .null, .int 0], c_I 3 (fun _ => 0), c_I 28 (fun _ => 0)]) (z_push _ _ _) rfl ?_
  refine z_pf3 (h' := P ++ [c_O 3 [.ref (a + 1), .ref (a + 2), .null, .null, .null, .int 0], c_I 3 (fun _ => 0), c_I 28 (fun _ => 0)]) r188_16 (z_at hP 0 rfl) (Nat.le_of_ble_eq_true rfl) (z_set hP 0 _ rfl) rfl ?_
  refine x_ld (v := .ref a) r188_19 rfl rfl rfl ?_
  refine x_bi (v := 8) r188_20 rfl rfl ?_
  refine z_nai (n := a + 3) (z := 8) r188_22 (z_len hP rfl) (by omega) (z_sc_app hS (by omega) (fun m hm => z_alO (nv_r (by omega) (nv_r (by omega) (nv_0 (nv_0 (nv_0 (nv_i (nv_n))))))) (z_alI (z_alI (z_al0))))) (nv_r (by omega) (nv_d (nv_d (nv_d (nv_n))))) (nv_r (by omega) (nv_n)) (by decide) rfl (Nat.le_of_ble_eq_true rfl) (Nat.le_of_ble_eq_true rfl) (Nat.le_of_ble_eq_true rfl) (h' := P ++ [c_O 3 [.ref (a + 1), .ref (a + 2), .null, .null, .null, .int 0], c_I 3 (fun _ => 0), c_I 28 (fun _ => 0), c_I 8 (fun _ => 0)]) (z_push _ _ _) rfl ?_
  refine z_pf3 (h' := P ++ [c_O 3 [.ref (a + 1), .ref (a + 2), .ref (a + 3), .null, .null, .int 0], c_I 3 (fun _ => 0), c_I 28 (fun _ => 0), c_I 8 (fun _ => 0)]) r188_24 (z_at hP 0 rfl) (Nat.le_of_ble_eq_true rfl) (z_set hP 0 _ rfl) rfl ?_
  refine x_ld (v := .ref a) r188_27 rfl rfl rfl ?_
  refine x_bi (v := 64) r188_28 rfl rfl ?_
  refine z_naj (n := a + 4) (z := 64) r188_30 (z_len hP rfl) (by omega) (z_sc_app hS (by omega) (fun m hm => z_alO (nv_r (by omega) (nv_r (by omega) (nv_r (by omega) (nv_0 (nv_0 (nv_i (nv_n))))))) (z_alI (z_alI (z_alI (z_al0)))))) (nv_r (by omega) (nv_d (nv_d (nv_d (nv_n))))) (nv_r (by omega) (nv_n)) (by decide) rfl (Nat.le_of_ble_eq_true rfl) (Nat.le_of_ble_eq_true rfl) (Nat.le_of_ble_eq_true rfl) (h' := P ++ [c_O 3 [.ref (a + 1), .ref (a + 2), .ref (a + 3), .null, .null, .int 0], c_I 3 (fun _ => 0), c_I 28 (fun _ => 0), c_I 8 (fun _ => 0), c_J 64 (fun _ => 0)]) (z_push _ _ _) rfl ?_
  refine z_pf3 (h' := P ++ [c_O 3 [.ref (a + 1), .ref (a + 2), .ref (a + 3), .ref (a + 4), .null, .int 0], c_I 3 (fun _ => 0), c_I 28 (fun _ => 0), c_I 8 (fun _ => 0), c_J 64 (fun _ => 0)]) r188_32 (z_at hP 0 rfl) (Nat.le_of_ble_eq_true rfl) (z_set hP 0 _ rfl) rfl ?_
  refine x_ld (v := .ref a) r188_35 rfl rfl rfl ?_
  refine x_si (v := 484) r188_36 rfl rfl ?_
  refine z_naj (n := a + 5) (z := 484) r188_39 (z_len hP rfl) (by omega) (z_sc_app hS (by omega) (fun m hm => z_alO (nv_r (by omega) (nv_r (by omega) (nv_r (by omega) (nv_r (by omega) (nv_0 (nv_i (nv_n))))))) (z_alI (z_alI (z_alI (z_alJ (z_al0))))))) (nv_r (by omega) (nv_d (nv_d (nv_d (nv_n))))) (nv_r (by omega) (nv_n)) (by decide) rfl (Nat.le_of_ble_eq_true rfl) (Nat.le_of_ble_eq_true rfl) (Nat.le_of_ble_eq_true rfl) (h' := P ++ [c_O 3 [.ref (a + 1), .ref (a + 2), .ref (a + 3), .ref (a + 4), .null, .int 0], c_I 3 (fun _ => 0), c_I 28 (fun _ => 0), c_I 8 (fun _ => 0), c_J 64 (fun _ => 0), c_J 484 (fun _ => 0)]) (z_push _ _ _) rfl ?_
  refine z_pf3 (h' := P ++ [c_O 3 [.ref (a + 1), .ref (a + 2), .ref (a + 3), .ref (a + 4), .ref (a + 5), .int 0], c_I 3 (fun _ => 0), c_I 28 (fun _ => 0), c_I 8 (fun _ => 0), c_J 64 (fun _ => 0), c_J 484 (fun _ => 0)]) r188_41 (z_at hP 0 rfl) (Nat.le_of_ble_eq_true rfl) (z_set hP 0 _ rfl) rfl ?_
  refine x_ic (v := 0) r188_44 rfl rfl ?_
  refine x_sto (lc' := [.ref a, .int 0, am_dead, am_dead]) (st' := []) r188_45 rfl rfl rfl rfl ?_
  have h0 := k188_L (xs := xs) (L := L) (d := 0) (mc := 5) (ms := 587) (c := 5) (s := 587) hP hQ 484 0 am_dead am_dead rfl
  rw [z_bt0] at h0
  exact h0
end SC
