/-! makers (by wip/tools/gen_ctor.py): Chain, Table -/
section SB
variable {xs : Nat → Int32} {L : Nat} {P : am_AH} {a : Nat}
theorem r151_0 : am_at 151 0 = some (.aload_n 0, 1, [0]) := by decide +kernel
theorem r151_1 : am_at 151 1 = some (.invokespecial 3, 3, [1003, 0, 58]) := by decide +kernel
theorem r151_4 : am_at 151 4 = some (.aload_n 0, 1, [0]) := by decide +kernel
theorem r151_5 : am_at 151 5 = some (.bipush (28), 2, []) := by decide +kernel
theorem r151_7 : am_at 151 7 = some (.newarray .int, 2, [0]) := by decide +kernel
theorem r151_9 : am_at 151 9 = some (.putfield 9, 3, [0, 0, 3, 59]) := by decide +kernel
theorem r151_12 : am_at 151 12 = some (.aload_n 0, 1, [0]) := by decide +kernel
theorem r151_13 : am_at 151 13 = some (.bipush (28), 2, []) := by decide +kernel
theorem r151_15 : am_at 151 15 = some (.newarray .int, 2, [0]) := by decide +kernel
theorem r151_17 : am_at 151 17 = some (.putfield 15, 3, [0, 1, 3, 61]) := by decide +kernel
theorem r151_20 : am_at 151 20 = some (.aload_n 0, 1, [0]) := by decide +kernel
theorem r151_21 : am_at 151 21 = some (.bipush (28), 2, []) := by decide +kernel
theorem r151_23 : am_at 151 23 = some (.newarray .int, 2, [0]) := by decide +kernel
theorem r151_25 : am_at 151 25 = some (.putfield 18, 3, [0, 2, 3, 63]) := by decide +kernel
theorem r151_28 : am_at 151 28 = some (.aload_n 0, 1, [0]) := by decide +kernel
theorem r151_29 : am_at 151 29 = some (.bipush (28), 2, []) := by decide +kernel
theorem r151_31 : am_at 151 31 = some (.newarray .int, 2, [0]) := by decide +kernel
theorem r151_33 : am_at 151 33 = some (.putfield 21, 3, [0, 3, 3, 65]) := by decide +kernel
theorem r151_36 : am_at 151 36 = some (.aload_n 0, 1, [0]) := by decide +kernel
theorem r151_37 : am_at 151 37 = some (.iconst (-1), 1, []) := by decide +kernel
theorem r151_38 : am_at 151 38 = some (.putfield 24, 3, [0, 5, 0, 69]) := by decide +kernel
theorem r151_41 : am_at 151 41 = some (.aload_n 0, 1, [0]) := by decide +kernel
theorem r151_42 : am_at 151 42 = some (.iconst (-1), 1, []) := by decide +kernel
theorem r151_43 : am_at 151 43 = some (.putfield 28, 3, [0, 6, 0, 70]) := by decide +kernel
theorem r151_46 : am_at 151 46 = some (.return_, 1, []) := by decide +kernel
theorem rt151 : am_rtt 151 = some none := by decide +kernel
set_option maxRecDepth 100000 in
theorem pg151 : am_pg[151]? = some am_m151 := rfl
def z_Ch (a : Nat) : am_AH := [c_O 0 [.ref (a + 1), .ref (a + 2), .ref (a + 3), .ref (a + 4), .int 0, .int (-1), .int (-1)], c_I 28 (fun _ => 0), c_I 28 (fun _ => 0), c_I 28 (fun _ => 0), c_I 28 (fun _ => 0)]
theorem k151 (hP : P.length = a) (ha : a ≤ 999900) (hS : z_sc a P) : am_Z xs L 151 0 4 112 [.ref a] (P ++ [c_O 0 [.null, .null, .null, .null, .int 0, .int 0, .int 0]]) (P ++ z_Ch a) := by
  refine am_Zof (mi := am_m151) (lc := [.ref a]) pg151 (Nat.le_of_ble_eq_true rfl) (am_rc2 rfl) rfl (fun Q hQ => ?_)
  refine x_ld (v := .ref a) r151_0 rfl rfl rfl ?_
  refine z_obj r151_1 (Nat.le_of_ble_eq_true rfl) rfl ?_
  refine x_ld (v := .ref a) r151_4 rfl rfl rfl ?_
  refine x_bi (v := 28) r151_5 rfl rfl ?_
  refine z_nai (n := a + 1) (z := 28) r151_7 (z_len hP rfl) (by omega) (z_sc_app hS (by omega) (fun m hm => z_alO (nv_0 (nv_0 (nv_0 (nv_0 (nv_i (nv_i (nv_i (nv_n)))))))) (z_al0))) (nv_r (by omega) (nv_n)) (nv_r (by omega) (nv_n)) (by decide) rfl (Nat.le_of_ble_eq_true rfl) (Nat.le_of_ble_eq_true rfl) (Nat.le_of_ble_eq_true rfl) (h' := P ++ [c_O 0 [.null, .null, .null, .null, .int 0, .int 0, .int 0], c_I 28 (fun _ => 0)]) (z_push _ _ _) rfl ?_
  refine z_pf3 (h' := P ++ [c_O 0 [.ref (a + 1), .null, .null, .null, .int 0, .int 0, .int 0], c_I 28 (fun _ => 0)]) r151_9 (z_at hP 0 rfl) (Nat.le_of_ble_eq_true rfl) (z_set hP 0 _ rfl) rfl ?_
  refine x_ld (v := .ref a) r151_12 rfl rfl rfl ?_
  refine x_bi (v := 28) r151_13 rfl rfl ?_
  refine z_nai (n := a + 2) (z := 28) r151_15 (z_len hP rfl) (by omega) (z_sc_app hS (by omega) (fun m hm => z_alO (nv_r (by omega) (nv_0 (nv_0 (nv_0 (nv_i (nv_i (nv_i (nv_n)))))))) (z_alI (z_al0)))) (nv_r (by omega) (nv_n)) (nv_r (by omega) (nv_n)) (by decide) rfl (Nat.le_of_ble_eq_true rfl) (Nat.le_of_ble_eq_true rfl) (Nat.le_of_ble_eq_true rfl) (h' := P ++ [c_O 0 [.ref (a + 1), .null, .null, .null, .int 0, .int 0, .int 0], c_I 28 (fun _ => 0), c_I 28 (fun _ => 0)]) (z_push _ _ _) rfl ?_
  refine z_pf3 (h' := P ++ [c_O 0 [.ref (a + 1), .ref (a + 2), .null, .null, .int 0, .int 0, .int 0], c_I 28 (fun _ => 0), c_I 28 (fun _ => 0)]) r151_17 (z_at hP 0 rfl) (Nat.le_of_ble_eq_true rfl) (z_set hP 0 _ rfl) rfl ?_
  refine x_ld (v := .ref a) r151_20 rfl rfl rfl ?_
  refine x_bi (v := 28) r151_21 rfl rfl ?_
  refine z_nai (n := a + 3) (z := 28) r151_23 (z_len hP rfl) (by omega) (z_sc_app hS (by omega) (fun m hm => z_alO (nv_r (by omega) (nv_r (by omega) (nv_0 (nv_0 (nv_i (nv_i (nv_i (nv_n)))))))) (z_alI (z_alI (z_al0))))) (nv_r (by omega) (nv_n)) (nv_r (by omega) (nv_n)) (by decide) rfl (Nat.le_of_ble_eq_true rfl) (Nat.le_of_ble_eq_true rfl) (Nat.le_of_ble_eq_true rfl) (h' := P ++ [c_O 0 [.ref (a + 1), .ref (a + 2), .null, .null, .int 0, .int 0, .int 0], c_I 28 (fun _ => 0), c_I 28 (fun _ => 0), c_I 28 (fun _ => 0)]) (z_push _ _ _) rfl ?_
  refine z_pf3 (h' := P ++ [c_O 0 [.ref (a + 1), .ref (a + 2), .ref (a + 3), .null, .int 0, .int 0, .int 0], c_I 28 (fun _ => 0), c_I 28 (fun _ => 0), c_I 28 (fun _ => 0)]) r151_25 (z_at hP 0 rfl) (Nat.le_of_ble_eq_true rfl) (z_set hP 0 _ rfl) rfl ?_
  refine x_ld (v := .ref a) r151_28 rfl rfl rfl ?_
  refine x_bi (v := 28) r151_29 rfl rfl ?_
  refine z_nai (n := a + 4) (z := 28) r151_31 (z_len hP rfl) (by omega) (z_sc_app hS (by omega) (fun m hm => z_alO (nv_r (by omega) (nv_r (by omega) (nv_r (by omega) (nv_0 (nv_i (nv_i (nv_i (nv_n)))))))) (z_alI (z_alI (z_alI (z_al0)))))) (nv_r (by omega) (nv_n)) (nv_r (by omega) (nv_n)) (by decide) rfl (Nat.le_of_ble_eq_true rfl) (Nat.le_of_ble_eq_true rfl) (Nat.le_of_ble_eq_true rfl) (h' := P ++ [c_O 0 [.ref (a + 1), .ref (a + 2), .ref (a + 3), .null, .int 0, .int 0, .int 0], c_I 28 (fun _ => 0), c_I 28 (fun _ => 0), c_I 28 (fun _ => 0), c_I 28 (fun _ => 0)]) (z_push _ _ _) rfl ?_
  refine z_pf3 (h' := P ++ [c_O 0 [.ref (a + 1), .ref (a + 2), .ref (a + 3), .ref (a + 4), .int 0, .int 0, .int 0], c_I 28 (fun _ => 0), c_I 28 (fun _ => 0), c_I 28 (fun _ => 0), c_I 28 (fun _ => 0)]) r151_33 (z_at hP 0 rfl) (Nat.le_of_ble_eq_true rfl) (z_set hP 0 _ rfl) rfl ?_
  refine x_ld (v := .ref a) r151_36 rfl rfl rfl ?_
  refine x_ic (v := -1) r151_37 rfl rfl ?_
  refine z_pf0 (h' := P ++ [c_O 0 [.ref (a + 1), .ref (a + 2), .ref (a + 3), .ref (a + 4), .int 0, .int (-1), .int 0], c_I 28 (fun _ => 0), c_I 28 (fun _ => 0), c_I 28 (fun _ => 0), c_I 28 (fun _ => 0)]) r151_38 (z_at hP 0 rfl) (Nat.le_of_ble_eq_true rfl) (z_set hP 0 _ rfl) rfl ?_
  refine x_ld (v := .ref a) r151_41 rfl rfl rfl ?_
  refine x_ic (v := -1) r151_42 rfl rfl ?_
  refine z_pf0 (h' := P ++ [c_O 0 [.ref (a + 1), .ref (a + 2), .ref (a + 3), .ref (a + 4), .int 0, .int (-1), .int (-1)], c_I 28 (fun _ => 0), c_I 28 (fun _ => 0), c_I 28 (fun _ => 0), c_I 28 (fun _ => 0)]) r151_43 (z_at hP 0 rfl) (Nat.le_of_ble_eq_true rfl) (z_set hP 0 _ rfl) rfl ?_
  exact x_ret (ret := none) (C := True) (v := none) r151_46 rt151 rfl rfl rfl rfl rfl rfl rfl rfl trivial hQ
theorem r201_0 : am_at 201 0 = some (.aload_n 0, 1, [0]) := by decide +kernel
theorem r201_1 : am_at 201 1 = some (.invokespecial 3, 3, [1003, 0, 52]) := by decide +kernel
theorem r201_4 : am_at 201 4 = some (.aload_n 0, 1, [0]) := by decide +kernel
theorem r201_5 : am_at 201 5 = some (.new 9, 3, [0, 0, 53, 54, 22]) := by decide +kernel
theorem r201_8 : am_at 201 8 = some (.dup, 1, []) := by decide +kernel
theorem r201_9 : am_at 201 9 = some (.invokespecial 11, 3, [151, 1, 55, 1]) := by decide +kernel
theorem r201_12 : am_at 201 12 = some (.putfield 12, 3, [4, 0, 3, 87]) := by decide +kernel
theorem r201_15 : am_at 201 15 = some (.aload_n 0, 1, [0]) := by decide +kernel
theorem r201_16 : am_at 201 16 = some (.bipush (28), 2, []) := by decide +kernel
theorem r201_18 : am_at 201 18 = some (.newarray .int, 2, [0]) := by decide +kernel
theorem r201_20 : am_at 201 20 = some (.putfield 18, 3, [4, 1, 3, 90]) := by decide +kernel
theorem r201_23 : am_at 201 23 = some (.aload_n 0, 1, [0]) := by decide +kernel
theorem r201_24 : am_at 201 24 = some (.iconst (4), 1, []) := by decide +kernel
theorem r201_25 : am_at 201 25 = some (.newarray .int, 2, [0]) := by decide +kernel
theorem r201_27 : am_at 201 27 = some (.putfield 22, 3, [4, 2, 3, 91]) := by decide +kernel
theorem r201_30 : am_at 201 30 = some (.aload_n 0, 1, [0]) := by decide +kernel
theorem r201_31 : am_at 201 31 = some (.iconst (4), 1, []) := by decide +kernel
theorem r201_32 : am_at 201 32 = some (.newarray .int, 2, [0]) := by decide +kernel
theorem r201_34 : am_at 201 34 = some (.putfield 25, 3, [4, 3, 3, 93]) := by decide +kernel
theorem r201_37 : am_at 201 37 = some (.aload_n 0, 1, [0]) := by decide +kernel
theorem r201_38 : am_at 201 38 = some (.iconst (4), 1, []) := by decide +kernel
theorem r201_39 : am_at 201 39 = some (.newarray .int, 2, [0]) := by decide +kernel
theorem r201_41 : am_at 201 41 = some (.putfield 28, 3, [4, 4, 3, 96]) := by decide +kernel
theorem r201_44 : am_at 201 44 = some (.aload_n 0, 1, [0]) := by decide +kernel
theorem r201_45 : am_at 201 45 = some (.iconst (2), 1, []) := by decide +kernel
theorem r201_46 : am_at 201 46 = some (.newarray .int, 2, [0]) := by decide +kernel
theorem r201_48 : am_at 201 48 = some (.putfield 31, 3, [4, 5, 3, 98]) := by decide +kernel
theorem r201_51 : am_at 201 51 = some (.aload_n 0, 1, [0]) := by decide +kernel
theorem r201_52 : am_at 201 52 = some (.iconst (0), 1, []) := by decide +kernel
theorem r201_53 : am_at 201 53 = some (.putfield 34, 3, [4, 6, 0, 100]) := by decide +kernel
theorem r201_56 : am_at 201 56 = some (.aload_n 0, 1, [0]) := by decide +kernel
theorem r201_57 : am_at 201 57 = some (.iconst (-1), 1, []) := by decide +kernel
theorem r201_58 : am_at 201 58 = some (.putfield 38, 3, [4, 7, 0, 102]) := by decide +kernel
theorem r201_61 : am_at 201 61 = some (.aload_n 0, 1, [0]) := by decide +kernel
theorem r201_62 : am_at 201 62 = some (.iconst (-1), 1, []) := by decide +kernel
theorem r201_63 : am_at 201 63 = some (.putfield 41, 3, [4, 8, 0, 105]) := by decide +kernel
theorem r201_66 : am_at 201 66 = some (.aload_n 0, 1, [0]) := by decide +kernel
theorem r201_67 : am_at 201 67 = some (.iconst (-1), 1, []) := by decide +kernel
theorem r201_68 : am_at 201 68 = some (.putfield 44, 3, [4, 9, 0, 107]) := by decide +kernel
theorem r201_71 : am_at 201 71 = some (.aload_n 0, 1, [0]) := by decide +kernel
theorem r201_72 : am_at 201 72 = some (.bipush (20), 2, []) := by decide +kernel
theorem r201_74 : am_at 201 74 = some (.putfield 47, 3, [4, 10, 0, 109]) := by decide +kernel
theorem r201_77 : am_at 201 77 = some (.iconst (0), 1, []) := by decide +kernel
theorem r201_78 : am_at 201 78 = some (.istore_n 1, 1, [1]) := by decide +kernel
theorem r201_79 : am_at 201 79 = some (.iload_n 1, 1, [1]) := by decide +kernel
theorem r201_80 : am_at 201 80 = some (.aload_n 0, 1, [0]) := by decide +kernel
theorem r201_81 : am_at 201 81 = some (.getfield 18, 3, [4, 1, 3, 90]) := by decide +kernel
theorem r201_84 : am_at 201 84 = some (.arraylength, 1, []) := by decide +kernel
theorem r201_85 : am_at 201 85 = some (.if_icmp .ge (16), 3, [101]) := by decide +kernel
theorem r201_88 : am_at 201 88 = some (.aload_n 0, 1, [0]) := by decide +kernel
theorem r201_89 : am_at 201 89 = some (.getfield 18, 3, [4, 1, 3, 90]) := by decide +kernel
theorem r201_92 : am_at 201 92 = some (.iload_n 1, 1, [1]) := by decide +kernel
theorem r201_93 : am_at 201 93 = some (.iconst (5), 1, []) := by decide +kernel
theorem r201_94 : am_at 201 94 = some (.iastore, 1, []) := by decide +kernel
theorem r201_95 : am_at 201 95 = some (.iinc 1 (1), 3, [1]) := by decide +kernel
theorem r201_98 : am_at 201 98 = some (.goto (-19), 3, [79]) := by decide +kernel
theorem r201_101 : am_at 201 101 = some (.return_, 1, []) := by decide +kernel
theorem rt201 : am_rtt 201 = some none := by decide +kernel
set_option maxRecDepth 100000 in
theorem pg201 : am_pg[201]? = some am_m201 := rfl
def z_fv (i : Nat) : Nat → Int32 := fun j => if j < i then 5 else 0
theorem z_fv0 : z_fv 0 = fun _ => 0 := by
  funext j
  unfold z_fv
  rw [if_neg (by omega)]
theorem z_fvS (i : Nat) : upd (z_fv i) i 5 = z_fv (i + 1) := by
  funext j
  unfold upd z_fv
  by_cases c : j = i
  · rw [if_pos c, if_pos (by omega)]
  · rw [if_neg c]
    by_cases d : j < i
    · rw [if_pos d, if_pos (by omega)]
    · rw [if_neg d, if_neg (by omega)]
def z_TL (a : Nat) (f : Nat → Int32) : am_AH := [c_O 4 [.ref (a + 1), .ref (a + 6), .ref (a + 7), .ref (a + 8), .ref (a + 9), .ref (a + 10), .int 0, .int (-1), .int (-1), .int (-1), .int 20, .int 0, .int 0, .int 0, .int 0, .int 0], c_O 0 [.ref (a + 2), .ref (a + 3), .ref (a + 4), .ref (a + 5), .int 0, .int (-1), .int (-1)], c_I 28 (fun _ => 0), c_I 28 (fun _ => 0), c_I 28 (fun _ => 0), c_I 28 (fun _ => 0), c_I 28 f, c_I 4 (fun _ => 0), c_I 4 (fun _ => 0), c_I 4 (fun _ => 0), c_I 2 (fun _ => 0)]
def z_T (a : Nat) : am_AH := z_TL a (z_fv 28)
theorem k201_L {d mc ms c s : Nat} {Q : am_O → am_AH → Prop} (hP : P.length = a) (hQ : Q (.inl none) (P ++ z_T a)) : ∀ (k i : Nat), i + k = 28 → am_X xs L 201 d mc ms 79 [.ref a, .int (Int32.ofNat i)] [] (P ++ z_TL a (z_fv i)) c s Q
  | 0, i, hi => by
    obtain rfl : i = 28 := by omega
    refine x_ld (v := .int (Int32.ofNat 28)) r201_79 rfl rfl rfl ?_
    refine x_ld (v := .ref a) r201_80 rfl rfl rfl ?_
    refine z_gf (v := .ref (a + 6)) r201_81 (z_at hP 0 rfl) rfl rfl ?_
    refine z_alen r201_84 (z_at hP 6 rfl) rfl rfl ?_
    refine x_icgeT r201_85 (by decide) ?_
    exact x_ret (ret := none) (C := True) (v := none) r201_101 rt201 rfl rfl rfl rfl rfl rfl rfl rfl trivial hQ
  | k + 1, i, hi => by
    refine x_ld (v := .int (Int32.ofNat i)) r201_79 rfl rfl rfl ?_
    refine x_ld (v := .ref a) r201_80 rfl rfl rfl ?_
    refine z_gf (v := .ref (a + 6)) r201_81 (z_at hP 0 rfl) rfl rfl ?_
    refine z_alen r201_84 (z_at hP 6 rfl) rfl rfl ?_
    refine x_icgeF r201_85 (q_nle (a := i) (b := 28) (by omega) (by omega)) rfl ?_
    refine x_ld (v := .ref a) r201_88 rfl rfl rfl ?_
    refine z_gf (v := .ref (a + 6)) r201_89 (z_at hP 0 rfl) rfl rfl ?_
    refine x_ld (v := .int (Int32.ofNat i)) r201_92 rfl rfl rfl ?_
    refine x_ic (v := 5) r201_93 rfl rfl ?_
    refine z_ias (h' := P ++ z_TL a (z_fv (i + 1))) r201_94 (z_at hP 6 rfl) (Nat.le_of_ble_eq_true rfl) (q_in (n := 28) (by omega) (by omega)) (e := i) (q_tn (by omega)) (z_set hP 6 _ (by rw [z_fvS]; rfl)) rfl ?_
    refine x_sto (lc' := [.ref a, .int (Int32.ofNat (i + 1))]) (st' := []) r201_95 rfl rfl (by rw [← q_s1]; rfl) rfl ?_
    refine x_goto r201_98 ?_
    exact k201_L hP hQ k (i + 1) (by omega)
theorem k201 (hP : P.length = a) (ha : a ≤ 999800) (hS : z_sc a P) : am_Z xs L 201 1 10 161 [.ref a] (P ++ [c_O 4 [.null, .null, .null, .null, .null, .null, .int 0, .int 0, .int 0, .int 0, .int 0, .int 0, .int 0, .int 0, .int 0, .int 0]]) (P ++ z_T a) := by
  refine am_Zof (mi := am_m201) (lc := [.ref a, am_dead]) pg201 (Nat.le_of_ble_eq_true rfl) (am_rc2 rfl) rfl (fun Q hQ => ?_)
  refine x_ld (v := .ref a) r201_0 rfl rfl rfl ?_
  refine z_obj r201_1 (Nat.le_of_ble_eq_true rfl) rfl ?_
  refine x_ld (v := .ref a) r201_4 rfl rfl rfl ?_
  refine z_new (n := a + 1) (e := c_O 0 [.null, .null, .null, .null, .int 0, .int 0, .int 0]) (z := 7) r201_5 rfl (z_len hP rfl) (by omega) (z_sc_app hS (by omega) (fun m hm => z_alO (nv_0 (nv_0 (nv_0 (nv_0 (nv_0 (nv_0 (nv_i (nv_i (nv_i (nv_i (nv_i (nv_i (nv_i (nv_i (nv_i (nv_i (nv_n))))))))))))))))) (z_al0))) (nv_r (by omega) (nv_d (nv_n))) (nv_r (by omega) (nv_n)) rfl rfl (Nat.le_of_ble_eq_true rfl) (Nat.le_of_ble_eq_true rfl) (h' := P ++ [c_O 4 [.null, .null, .null, .null, .null, .null, .int 0, .int 0, .int 0, .int 0, .int 0, .int 0, .int 0, .int 0, .int 0, .int 0], c_O 0 [.null, .null, .null, .null, .int 0, .int 0, .int 0]]) (z_push _ _ _) rfl ?_
  refine x_ar r201_8 rfl trivial rfl ?_
  refine z_call (n := a + 2) (as := [.ref (a + 1)]) (rest := [.ref (a + 1), .ref a]) (h' := P ++ [c_O 4 [.null, .null, .null, .null, .null, .null, .int 0, .int 0, .int 0, .int 0, .int 0, .int 0, .int 0, .int 0, .int 0, .int 0], c_O 0 [.ref (a + 2), .ref (a + 3), .ref (a + 4), .ref (a + 5), .int 0, .int (-1), .int (-1)], c_I 28 (fun _ => 0), c_I 28 (fun _ => 0), c_I 28 (fun _ => 0), c_I 28 (fun _ => 0)]) r201_9 rfl rfl rfl (by decide) (Nat.le_of_ble_eq_true rfl) (z_mv (k151 (P := P ++ [c_O 4 [.null, .null, .null, .null, .null, .null, .int 0, .int 0, .int 0, .int 0, .int 0, .int 0, .int 0, .int 0, .int 0, .int 0]]) (a := a + 1) (z_len hP rfl) (by omega) (z_sc_app hS (by omega) (fun m hm => z_alO (nv_0 (nv_0 (nv_0 (nv_0 (nv_0 (nv_0 (nv_i (nv_i (nv_i (nv_i (nv_i (nv_i (nv_i (nv_i (nv_i (nv_i (nv_n))))))))))))))))) (z_al0)))) (List.append_assoc _ _ _) (List.append_assoc _ _ (z_Ch (a + 1)))) (by decide) (Nat.le_of_ble_eq_true rfl) (Nat.le_of_ble_eq_true rfl) (z_len hP rfl) (sc_r (by omega) (sc_d (sc_n))) (sc_r (by omega) (sc_r (by omega) (sc_n))) rfl ?_
  refine z_pf3 (h' := P ++ [c_O 4 [.ref (a + 1), .null, .null, .null, .null, .null, .int 0, .int 0, .int 0, .int 0, .int 0, .int 0, .int 0, .int 0, .int 0, .int 0], c_O 0 [.ref (a + 2), .ref (a + 3), .ref (a + 4), .ref (a + 5), .int 0, .int (-1), .int (-1)], c_I 28 (fun _ => 0), c_I 28 (fun _ => 0), c_I 28 (fun _ => 0), c_I 28 (fun _ => 0)]) r201_12 (z_at hP 0 rfl) (Nat.le_of_ble_eq_true rfl) (z_set hP 0 _ rfl) rfl ?_
  refine x_ld (v := .ref a) r201_15 rfl rfl rfl ?_
  refine x_bi (v := 28) r201_16 rfl rfl ?_
  refine z_nai (n := a + 6) (z := 28) r201_18 (z_len hP rfl) (by omega) (z_sc_app hS (by omega) (fun m hm => z_alO (nv_r (by omega) (nv_0 (nv_0 (nv_0 (nv_0 (nv_0 (nv_i (nv_i (nv_i (nv_i (nv_i (nv_i (nv_i (nv_i (nv_i (nv_i (nv_n))))))))))))))))) (z_alO (nv_r (by omega) (nv_r (by omega) (nv_r (by omega) (nv_r (by omega) (nv_i (nv_i (nv_i (nv_n)))))))) (z_alI (z_alI (z_alI (z_alI (z_al0)))))))) (nv_r (by omega) (nv_d (nv_n))) (nv_r (by omega) (nv_n)) (by decide) rfl (Nat.le_of_ble_eq_true rfl) (Nat.le_of_ble_eq_true rfl) (Nat.le_of_ble_eq_true rfl) (h' := P ++ [c_O 4 [.ref (a + 1), .null, .null, .null, .null, .null, .int 0, .int 0, .int 0, .int 0, .int 0, .int 0, .int 0, .int 0, .int 0, .int 0], c_O 0 [.ref (a + 2), .ref (a + 3), .ref (a + 4), .ref (a + 5), .int 0, .int (-1), .int (-1)], c_I 28 (fun _ => 0), c_I 28 (fun _ => 0), c_I 28 (fun _ => 0), c_I 28 (fun _ => 0), c_I 28 (fun _ => 0)]) (z_push _ _ _) rfl ?_
  refine z_pf3 (h' := P ++ [c_O 4 [.ref (a + 1), .ref (a + 6), .null, .null, .null, .null, .int 0, .int 0, .int 0, .int 0, .int 0, .int 0, .int 0, .int 0, .int 0, .int 0], c_O 0 [.ref (a + 2), .ref (a + 3), .ref (a + 4), .ref (a + 5), .int 0, .int (-1), .int (-1)], c_I 28 (fun _ => 0), c_I 28 (fun _ => 0), c_I 28 (fun _ => 0), c_I 28 (fun _ => 0), c_I 28 (fun _ => 0)]) r201_20 (z_at hP 0 rfl) (Nat.le_of_ble_eq_true rfl) (z_set hP 0 _ rfl) rfl ?_
  refine x_ld (v := .ref a) r201_23 rfl rfl rfl ?_
  refine x_ic (v := 4) r201_24 rfl rfl ?_
  refine z_nai (n := a + 7) (z := 4) r201_25 (z_len hP rfl) (by omega) (z_sc_app hS (by omega) (fun m hm => z_alO (nv_r (by omega) (nv_r (by omega) (nv_0 (nv_0 (nv_0 (nv_0 (nv_i (nv_i (nv_i (nv_i (nv_i (nv_i (nv_i (nv_i (nv_i (nv_i (nv_n))))))))))))))))) (z_alO (nv_r (by omega) (nv_r (by omega) (nv_r (by omega) (nv_r (by omega) (nv_i (nv_i (nv_i (nv_n)))))))) (z_alI (z_alI (z_alI (z_alI (z_alI (z_al0))))))))) (nv_r (by omega) (nv_d (nv_n))) (nv_r (by omega) (nv_n)) (by decide) rfl (Nat.le_of_ble_eq_true rfl) (Nat.le_of_ble_eq_true rfl) (Nat.le_of_ble_eq_true rfl) (h' := P ++ [c_O 4 [.ref (a + 1), .ref (a + 6), .null, .null, .null, .null, .int 0, .int 0, .int 0, .int 0, .int 0, .int 0, .int 0, .int 0, .int 0, .int 0], c_O 0 [.ref (a + 2), .ref (a + 3), .ref (a + 4), .ref (a + 5), .int 0, .int (-1), .int (-1)], c_I 28 (fun _ => 0), c_I 28 (fun _ => 0), c_I 28 (fun _ => 0), c_I 28 (fun _ => 0), c_I 28 (fun _ => 0), c_I 4 (fun _ => 0)]) (z_push _ _ _) rfl ?_
  refine z_pf3 (h' := P ++ [c_O 4 [.ref (a + 1), .ref (a + 6), .ref (a + 7), .null, .null, .null, .int 0, .int 0, .int 0, .int 0, .int 0, .int 0, .int 0, .int 0, .int 0, .int 0], c_O 0 [.ref (a + 2), .ref (a + 3), .ref (a + 4), .ref (a + 5), .int 0, .int (-1), .int (-1)], c_I 28 (fun _ => 0), c_I 28 (fun _ => 0), c_I 28 (fun _ => 0), c_I 28 (fun _ => 0), c_I 28 (fun _ => 0), c_I 4 (fun _ => 0)]) r201_27 (z_at hP 0 rfl) (Nat.le_of_ble_eq_true rfl) (z_set hP 0 _ rfl) rfl ?_
  refine x_ld (v := .ref a) r201_30 rfl rfl rfl ?_
  refine x_ic (v := 4) r201_31 rfl rfl ?_
  refine z_nai (n := a + 8) (z := 4) r201_32 (z_len hP rfl) (by omega) (z_sc_app hS (by omega) (fun m hm => z_alO (nv_r (by omega) (nv_r (by omega) (nv_r (by omega) (nv_0 (nv_0 (nv_0 (nv_i (nv_i (nv_i (nv_i (nv_i (nv_i (nv_i (nv_i (nv_i (nv_i (nv_n))))))))))))))))) (z_alO (nv_r (by omega) (nv_r (by omega) (nv_r (by omega) (nv_r (by omega) (nv_i (nv_i (nv_i (nv_n)))))))) (z_alI (z_alI (z_alI (z_alI (z_alI (z_alI (z_al0)))))))))) (nv_r (by omega) (nv_d (nv_n))) (nv_r (by omega) (nv_n)) (by decide) rfl (Nat.le_of_ble_eq_true rfl) (Nat.le_of_ble_eq_true rfl) (Nat.le_of_ble_eq_true rfl) (h' := P ++ [c_O 4 [.ref (a + 1), .ref (a + 6), .ref (a + 7), .null, .null, .null, .int 0, .int 0, .int 0, .int 0, .int 0, .int 0, .int 0, .int 0, .int 0, .int 0], c_O 0 [.ref (a + 2), .ref (a + 3), .ref (a + 4), .ref (a + 5), .int 0, .int (-1), .int (-1)], c_I 28 (fun _ => 0), c_I 28 (fun _ => 0), c_I 28 (fun _ => 0), c_I 28 (fun _ => 0), c_I 28 (fun _ => 0), c_I 4 (fun _ => 0), c_I 4 (fun _ => 0)]) (z_push _ _ _) rfl ?_
  refine z_pf3 (h' := P ++ [c_O 4 [.ref (a + 1), .ref (a + 6), .ref (a + 7), .ref (a + 8), .null, .null, .int 0, .int 0, .int 0, .int 0, .int 0, .int 0, .int 0, .int 0, .int 0, .int 0], c_O 0 [.ref (a + 2), .ref (a + 3), .ref (a + 4), .ref (a + 5), .int 0, .int (-1), .int (-1)], c_I 28 (fun _ => 0), c_I 28 (fun _ => 0), c_I 28 (fun _ => 0), c_I 28 (fun _ => 0), c_I 28 (fun _ => 0), c_I 4 (fun _ => 0), c_I 4 (fun _ => 0)]) r201_34 (z_at hP 0 rfl) (Nat.le_of_ble_eq_true rfl) (z_set hP 0 _ rfl) rfl ?_
  refine x_ld (v := .ref a) r201_37 rfl rfl rfl ?_
  refine x_ic (v := 4) r201_38 rfl rfl ?_
  refine z_nai (n := a + 9) (z := 4) r201_39 (z_len hP rfl) (by omega) (z_sc_app hS (by omega) (fun m hm => z_alO (nv_r (by omega) (nv_r (by omega) (nv_r (by omega) (nv_r (by omega) (nv_0 (nv_0 (nv_i (nv_i (nv_i (nv_i (nv_i (nv_i (nv_i (nv_i (nv_i (nv_i (nv_n))))))))))))))))) (z_alO (nv_r (by omega) (nv_r (by omega) (nv_r (by omega) (nv_r (by omega) (nv_i (nv_i (nv_i (nv_n)))))))) (z_alI (z_alI (z_alI (z_alI (z_alI (z_alI (z_alI (z_al0))))))))))) (nv_r (by omega) (nv_d (nv_n))) (nv_r (by omega) (nv_n)) (by decide) rfl (Nat.le_of_ble_eq_true rfl) (Nat.le_of_ble_eq_true rfl) (Nat.le_of_ble_eq_true rfl) (h' := P ++ [c_O 4 [.ref (a + 1), .ref (a + 6), .ref (a + 7), .ref (a + 8), .null, .null, .int 0, .int 0, .int 0, .int 0, .int 0, .int 0, .int 0, .int 0, .int 0, .int 0], c_O 0 [.ref (a + 2), .ref (a + 3), .ref (a + 4), .ref (a + 5), .int 0, .int (-1), .int (-1)], c_I 28 (fun _ => 0), c_I 28 (fun _ => 0), c_I 28 (fun _ => 0), c_I 28 (fun _ => 0), c_I 28 (fun _ => 0), c_I 4 (fun _ => 0), c_I 4 (fun _ => 0), c_I 4 (fun _ => 0)]) (z_push _ _ _) rfl ?_
  refine z_pf3 (h' := P ++ [c_O 4 [.ref (a + 1), .ref (a + 6), .ref (a + 7), .ref (a + 8), .ref (a + 9), .null, .int 0, .int 0, .int 0, .int 0, .int 0, .int 0, .int 0, .int 0, .int 0, .int 0], c_O 0 [.ref (a + 2), .ref (a + 3), .ref (a + 4), .ref (a + 5), .int 0, .int (-1), .int (-1)], c_I 28 (fun _ => 0), c_I 28 (fun _ => 0), c_I 28 (fun _ => 0), c_I 28 (fun _ => 0), c_I 28 (fun _ => 0), c_I 4 (fun _ => 0), c_I 4 (fun _ => 0), c_I 4 (fun _ => 0)]) r201_41 (z_at hP 0 rfl) (Nat.le_of_ble_eq_true rfl) (z_set hP 0 _ rfl) rfl ?_
  refine x_ld (v := .ref a) r201_44 rfl rfl rfl ?_
  refine x_ic (v := 2) r201_45 rfl rfl ?_
  refine z_nai (n := a + 10) (z := 2) r201_46 (z_len hP rfl) (by omega) (z_sc_app hS (by omega) (fun m hm => z_alO (nv_r (by omega) (nv_r (by omega) (nv_r (by omega) (nv_r (by omega) (nv_r (by omega) (nv_0 (nv_i (nv_i (nv_i (nv_i (nv_i (nv_i (nv_i (nv_i (nv_i (nv_i (nv_n))))))))))))))))) (z_alO (nv_r (by omega) (nv_r (by omega) (nv_r (by omega) (nv_r (by omega) (nv_i (nv_i (nv_i (nv_n)))))))) (z_alI (z_alI (z_alI (z_alI (z_alI (z_alI (z_alI (z_alI (z_al0)))))))))))) (nv_r (by omega) (nv_d (nv_n))) (nv_r (by omega) (nv_n)) (by decide) rfl (Nat.le_of_ble_eq_true rfl) (Nat.le_of_ble_eq_true rfl) (Nat.le_of_ble_eq_true rfl) (h' := P ++ [c_O 4 [.ref (a + 1), .ref (a + 6), .ref (a + 7), .ref (a + 8), .ref (a + 9), .null, .int 0, .int 0, .int 0, .int 0, .int 0, .int 0, .int 0, .int 0, .int 0, .int 0], c_O 0 [.ref (a + 2), .ref (a + 3), .ref (a + 4), .ref (a + 5), .int 0, .int (-1), .int (-1)], c_I 28 (fun _ => 0), c_I 28 (fun _ => 0), c_I 28 (fun _ => 0), c_I 28 (fun _ => 0), c_I 28 (fun _ => 0), c_I 4 (fun _ => 0), c_I 4 (fun _ => 0), c_I 4 (fun _ => 0), c_I 2 (fun _ => 0)]) (z_push _ _ _) rfl ?_
  refine z_pf3 (h' := P ++ [c_O 4 [.ref (a + 1), .ref (a + 6), .ref (a + 7), .ref (a + 8), .ref (a + 9), .ref (a + 10), .int 0, .int 0, .int 0, .int 0, .int 0, .int 0, .int 0, .int 0, .int 0, .int 0], c_O 0 [.ref (a + 2), .ref (a + 3), .ref (a + 4), .ref (a + 5), .int 0, .int (-1), .int (-1)], c_I 28 (fun _ => 0), c_I 28 (fun _ => 0), c_I 28 (fun _ => 0), c_I 28 (fun _ => 0), c_I 28 (fun _ => 0), c_I 4 (fun _ => 0), c_I 4 (fun _ => 0), c_I 4 (fun _ => 0), c_I 2 (fun _ => 0)]) r201_48 (z_at hP 0 rfl) (Nat.le_of_ble_eq_true rfl) (z_set hP 0 _ rfl) rfl ?_
  refine x_ld (v := .ref a) r201_51 rfl rfl rfl ?_
  refine x_ic (v := 0) r201_52 rfl rfl ?_
  refine z_pf0 (h' := P ++ [c_O 4 [.ref (a + 1), .ref (a + 6), .ref (a + 7), .ref (a + 8), .ref (a + 9), .ref (a + 10), .int 0, .int 0, .int 0, .int 0, .int 0, .int 0, .int 0, .int 0, .int 0, .int 0], c_O 0 [.ref (a + 2), .ref (a + 3), .ref (a + 4), .ref (a + 5), .int 0, .int (-1), .int (-1)], c_I 28 (fun _ => 0), c_I 28 (fun _ => 0), c_I 28 (fun _ => 0), c_I 28 (fun _ => 0), c_I 28 (fun _ => 0), c_I 4 (fun _ => 0), c_I 4 (fun _ => 0), c_I 4 (fun _ => 0), c_I 2 (fun _ => 0)]) r201_53 (z_at hP 0 rfl) (Nat.le_of_ble_eq_true rfl) (z_set hP 0 _ rfl) rfl ?_
  refine x_ld (v := .ref a) r201_56 rfl rfl rfl ?_
  refine x_ic (v := -1) r201_57 rfl rfl ?_
  refine z_pf0 (h' := P ++ [c_O 4 [.ref (a + 1), .ref (a + 6), .ref (a + 7), .ref (a + 8), .ref (a + 9), .ref (a + 10), .int 0, .int (-1), .int 0, .int 0, .int 0, .int 0, .int 0, .int 0, .int 0, .int 0], c_O 0 [.ref (a + 2), .ref (a + 3), .ref (a + 4), .ref (a + 5), .int 0, .int (-1), .int (-1)], c_I 28 (fun _ => 0), c_I 28 (fun _ => 0), c_I 28 (fun _ => 0), c_I 28 (fun _ => 0), c_I 28 (fun _ => 0), c_I 4 (fun _ => 0), c_I 4 (fun _ => 0), c_I 4 (fun _ => 0), c_I 2 (fun _ => 0)]) r201_58 (z_at hP 0 rfl) (Nat.le_of_ble_eq_true rfl) (z_set hP 0 _ rfl) rfl ?_
  refine x_ld (v := .ref a) r201_61 rfl rfl rfl ?_
  refine x_ic (v := -1) r201_62 rfl rfl ?_
  refine z_pf0 (h' := P ++ [c_O 4 [.ref (a + 1), .ref (a + 6), .ref (a + 7), .ref (a + 8), .ref (a + 9), .ref (a + 10), .int 0, .int (-1), .int (-1), .int 0, .int 0, .int 0, .int 0, .int 0, .int 0, .int 0], c_O 0 [.ref (a + 2), .ref (a + 3), .ref (a + 4), .ref (a + 5), .int 0, .int (-1), .int (-1)], c_I 28 (fun _ => 0), c_I 28 (fun _ => 0), c_I 28 (fun _ => 0), c_I 28 (fun _ => 0), c_I 28 (fun _ => 0), c_I 4 (fun _ => 0), c_I 4 (fun _ => 0), c_I 4 (fun _ => 0), c_I 2 (fun _ => 0)]) r201_63 (z_at hP 0 rfl) (Nat.le_of_ble_eq_true rfl) (z_set hP 0 _ rfl) rfl ?_
  refine x_ld (v := .ref a) r201_66 rfl rfl rfl ?_
  refine x_ic (v := -1) r201_67 rfl rfl ?_
  refine z_pf0 (h' := P ++ [c_O 4 [.ref (a + 1), .ref (a + 6), .ref (a + 7), .ref (a + 8), .ref (a + 9), .ref (a + 10), .int 0, .int (-1), .int (-1), .int (-1), .int 0, .int 0, .int 0, .int 0, .int 0, .int 0], c_O 0 [.ref (a + 2), .ref (a + 3), .ref (a + 4), .ref (a + 5), .int 0, .int (-1), .int (-1)], c_I 28 (fun _ => 0), c_I 28 (fun _ => 0), c_I 28 (fun _ => 0), c_I 28 (fun _ => 0), c_I 28 (fun _ => 0), c_I 4 (fun _ => 0), c_I 4 (fun _ => 0), c_I 4 (fun _ => 0), c_I 2 (fun _ => 0)]) r201_68 (z_at hP 0 rfl) (Nat.le_of_ble_eq_true rfl) (z_set hP 0 _ rfl) rfl ?_
  refine x_ld (v := .ref a) r201_71 rfl rfl rfl ?_
  refine x_bi (v := 20) r201_72 rfl rfl ?_
  refine z_pf0 (h' := P ++ [c_O 4 [.ref (a + 1), .ref (a + 6), .ref (a + 7), .ref (a + 8), .ref (a + 9), .ref (a + 10), .int 0, .int (-1), .int (-1), .int (-1), .int 20, .int 0, .int 0, .int 0, .int 0, .int 0], c_O 0 [.ref (a + 2), .ref (a + 3), .ref (a + 4), .ref (a + 5), .int 0, .int (-1), .int (-1)], c_I 28 (fun _ => 0), c_I 28 (fun _ => 0), c_I 28 (fun _ => 0), c_I 28 (fun _ => 0), c_I 28 (fun _ => 0), c_I 4 (fun _ => 0), c_I 4 (fun _ => 0), c_I 4 (fun _ => 0), c_I 2 (fun _ => 0)]) r201_74 (z_at hP 0 rfl) (Nat.le_of_ble_eq_true rfl) (z_set hP 0 _ rfl) rfl ?_
  refine x_ic (v := 0) r201_77 rfl rfl ?_
  refine x_sto (lc' := [.ref a, .int 0]) (st' := []) r201_78 rfl rfl rfl rfl ?_
  have h0 := k201_L (xs := xs) (L := L) (d := 1) (mc := 10) (ms := 161) (c := 10) (s := 161) hP hQ 28 0 rfl
  rw [z_fv0] at h0
  exact h0
end SB
