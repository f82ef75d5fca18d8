/-! the law: its loop, from its first row (by wip/tools/gen_tf.py) -/
section TF
variable {xs : Nat → Int32} {L N K i d mc ms c s : Nat} {D : am_D} {Q : am_O → am_AH → Prop}
theorem q_and31 (x : Int32) : ∃ k, k < 32 ∧ x &&& 31 = Int32.ofNat k := by
  refine ⟨(x &&& 31).toBitVec.toNat, ?_, ?_⟩
  · rw [Int32.toBitVec_and, BitVec.toNat_and]
    exact Nat.lt_of_le_of_lt Nat.and_le_right (by decide)
  · apply Int32.toBitVec_inj.mp
    apply BitVec.eq_of_toNat_eq
    show _ = (BitVec.ofNat 32 (x &&& 31).toBitVec.toNat).toNat
    rw [BitVec.toNat_ofNat, Nat.mod_eq_of_lt (BitVec.isLt _)]
theorem q_l5T (hL : L ≤ 2560) (hi : L ≤ i + 4) (hi2 : i ≤ 4000) : Int32.ofNat L - 5 < Int32.ofNat i := by
  by_cases c : 5 ≤ L
  · rw [show (5 : Int32) = Int32.ofNat 5 from rfl, q_sub c]
    exact q_ylt (by omega) (by omega)
  · have h0 : Int32.ofNat L - 5 < 0 := by
      obtain rfl | rfl | rfl | rfl | rfl : L = 0 ∨ L = 1 ∨ L = 2 ∨ L = 3 ∨ L = 4 := by omega
      all_goals decide
    exact Int32.lt_of_lt_of_le h0 (q_yle (a := 0) (b := i) (by omega) (by omega))
theorem q_l5F (hL : L ≤ 2560) (hi : i + 5 ≤ L) : ¬ Int32.ofNat L - 5 < Int32.ofNat i := by
  rw [show (5 : Int32) = Int32.ofNat 5 from rfl, q_sub (by omega)]
  exact q_nlt (by omega) (by omega)
theorem law_loop (hF1 : q_F1) (hF2 : q_F2) (hF3 : q_F3) (hL : L ≤ 2560) (hN : 2000 ≤ N) (hK44 : K = 44) (hC : q_Cc K ≤ N) (hd : 57 ≤ d) (hQ : ∀ h, Q (.inl (some (.int 1))) h) : ∀ (n i : Nat) (D : am_D) (c s : Nat), q_I D → L ≤ i + 5 * n + 4 → i ≤ L + 5 → c + n ≤ mc → s + 6 * n ≤ ms → am_X xs L 287 d mc ms 28 [.ref 1000002, .ref 0, .ref 106, .ref 124, .ref 125, .int (Int32.ofNat i), am_dead, am_dead, am_dead, am_dead] [] (am_mk D) c s Q := by
  intro n
  induction n with
  | zero =>
    intro i D c s hI hl hi hc hs
    refine x_ld (v := .int (Int32.ofNat i)) r287_28 rfl rfl rfl ?_
    refine x_ld (v := .ref 1000002) r287_30 rfl rfl rfl ?_
    refine y_alenX r287_31 rfl ?_
    refine x_ic (v := 5) r287_32 rfl rfl ?_
    refine x_ar r287_33 rfl trivial rfl ?_
    refine x_icgtT r287_34 (q_l5T hL (by omega) (by omega)) ?_
    refine x_ic (v := 1) r287_1962 rfl rfl ?_
    exact x_ret (ret := ret) (C := narrow .boolean (.int 1) = .int 1) (v := some (.int 1)) r287_1963 rt287 rfl rfl rfl rfl rfl rfl rfl rfl rfl (hQ _)
  | succ n ih =>
    intro i D c s hI hl hi hc hs
    by_cases g : i + 5 ≤ L
    · refine x_ld (v := .int (Int32.ofNat i)) r287_28 rfl rfl rfl ?_
      refine x_ld (v := .ref 1000002) r287_30 rfl rfl rfl ?_
      refine y_alenX r287_31 rfl ?_
      refine x_ic (v := 5) r287_32 rfl rfl ?_
      refine x_ar r287_33 rfl trivial rfl ?_
      refine x_icgtF r287_34 (q_l5F hL g) rfl ?_
      refine x_ld (v := .ref 1000002) r287_37 rfl rfl rfl ?_
      refine x_ld (v := .int (Int32.ofNat i)) r287_38 rfl rfl rfl ?_
      refine y_ialX (e := i) r287_40 (q_vx hL (by omega)) (q_tn (by omega)) rfl ?_
      refine x_bi (v := 31) r287_41 rfl rfl ?_
      refine x_ar r287_43 rfl trivial rfl ?_
      obtain ⟨k, hk, ek⟩ := q_and31 (xs i)
      refine am_topI (v := Int32.ofNat k) ek.symm ?_
      have nx : ∀ D' c' s', q_I D' → c' ≤ c + 1 → s' ≤ s + 6 → am_X xs L 287 d mc ms 1956 [.ref 1000002, .ref 0, .ref 106, .ref 124, .ref 125, .int (Int32.ofNat i), am_dead, am_dead, am_dead, am_dead] [] (am_mk D') c' s' Q := fun D' c' s' hI' hc' hs' => by
        refine x_sto (lc' := [.ref 1000002, .ref 0, .ref 106, .ref 124, .ref 125, .int (Int32.ofNat (i + 5)), am_dead, am_dead, am_dead, am_dead]) (st' := []) r287_1956 rfl rfl (by rw [← q_add i 5]; rfl) rfl ?_
        refine x_goto r287_1959 ?_
        exact ih (i + 5) D' c' s' hI' (by omega) (by omega) (by omega) (by omega)
      have hc1 : c + 1 ≤ mc := by omega
      have hs1 : s + 6 ≤ ms := by omega
      obtain rfl | rfl | rfl | rfl | rfl | rfl | rfl | rfl | rfl | rfl | rfl | rfl | rfl | rfl | rfl | rfl | rfl | rfl | rfl | rfl | rfl | rfl | rfl | rfl | rfl | rfl | rfl | rfl | rfl | rfl | rfl | rfl : k = 0 ∨ k = 1 ∨ k = 2 ∨ k = 3 ∨ k = 4 ∨ k = 5 ∨ k = 6 ∨ k = 7 ∨ k = 8 ∨ k = 9 ∨ k = 10 ∨ k = 11 ∨ k = 12 ∨ k = 13 ∨ k = 14 ∨ k = 15 ∨ k = 16 ∨ k = 17 ∨ k = 18 ∨ k = 19 ∨ k = 20 ∨ k = 21 ∨ k = 22 ∨ k = 23 ∨ k = 24 ∨ k = 25 ∨ k = 26 ∨ k = 27 ∨ k = 28 ∨ k = 29 ∨ k = 30 ∨ k = 31 := by omega
      · refine x_tsw (p' := 184) r287_44 rfl ?_
        exact law_0 g hL hN hI hc1 hs1 hd nx
      · refine x_tsw (p' := 252) r287_44 rfl ?_
        exact law_1 g hL hN hI hc1 hs1 hd nx
      · refine x_tsw (p' := 308) r287_44 rfl ?_
        exact law_2 g hL hN hI hc1 hs1 hd nx
      · refine x_tsw (p' := 364) r287_44 rfl ?_
        exact law_3 g hL hN hI hc1 hs1 hd nx
      · refine x_tsw (p' := 408) r287_44 rfl ?_
        exact law_4 g hL hN hI hc1 hs1 hd nx
      · refine x_tsw (p' := 488) r287_44 rfl ?_
        exact law_5 g hL hN hI hc1 hs1 hd nx
      · refine x_tsw (p' := 544) r287_44 rfl ?_
        exact law_6 g hL hN hI hc1 hs1 hd nx
      · refine x_tsw (p' := 600) r287_44 rfl ?_
        exact law_7 g hL hN hI hc1 hs1 hd nx
      · refine x_tsw (p' := 656) r287_44 rfl ?_
        exact law_8 g hL hN hI hc1 hs1 hd nx
      · refine x_tsw (p' := 712) r287_44 rfl ?_
        exact law_9 g hL hN hI hc1 hs1 hd nx
      · refine x_tsw (p' := 768) r287_44 rfl ?_
        exact law_10 g hL hN hI hc1 hs1 hd nx
      · refine x_tsw (p' := 781) r287_44 rfl ?_
        exact law_11 g hL hN hI hc1 hs1 hd nx
      · refine x_tsw (p' := 837) r287_44 rfl ?_
        exact law_12 g hL hN hI hc1 hs1 hd nx
      · refine x_tsw (p' := 881) r287_44 rfl ?_
        exact law_13 g hL hN hI hc1 hs1 hd nx
      · refine x_tsw (p' := 925) r287_44 rfl ?_
        exact law_14 g hL hN hI hc1 hs1 hd nx
      · refine x_tsw (p' := 938) r287_44 rfl ?_
        exact law_15 g hL hN hI hc1 hs1 hd nx
      · refine x_tsw (p' := 982) r287_44 rfl ?_
        exact law_16 g hL hN hI hc1 hs1 hd nx
      · refine x_tsw (p' := 1026) r287_44 rfl ?_
        exact law_17 g hL hN hI hc1 hs1 hd nx
      · refine x_tsw (p' := 1094) r287_44 rfl ?_
        exact law_18 g hL hN hI hc1 hs1 hd nx
      · refine x_tsw (p' := 1162) r287_44 rfl ?_
        exact law_19 g hL hN hI hc1 hs1 hd nx
      · refine x_tsw (p' := 1230) r287_44 rfl ?_
        exact law_20 g hL hN hI hc1 hs1 hd nx
      · refine x_tsw (p' := 1298) r287_44 rfl ?_
        exact law_21 g hL hN hI hc1 hs1 hd nx
      · refine x_tsw (p' := 1354) r287_44 rfl ?_
        exact law_22 g hL hN hI hc1 hs1 hd nx
      · refine x_tsw (p' := 1434) r287_44 rfl ?_
        exact law_23 g hL hN hI hc1 hs1 hd nx
      · refine x_tsw (p' := 1502) r287_44 rfl ?_
        exact law_24 g hL hN hI hc1 hs1 hd nx
      · refine x_tsw (p' := 1582) r287_44 rfl ?_
        exact law_25 g hL hN hI hc1 hs1 hd nx
      · refine x_tsw (p' := 1650) r287_44 rfl ?_
        exact law_26 g hL hN hF1 hI hc1 hs1 hd nx
      · refine x_tsw (p' := 1751) r287_44 rfl ?_
        exact law_27 g hL hN hI hc1 hs1 hd nx
      · refine x_tsw (p' := 1843) r287_44 rfl ?_
        exact law_28 g hL hN hK44 hC hI hc1 hs1 hd nx
      · refine x_tsw (p' := 1899) r287_44 rfl ?_
        exact law_29 g hL hN hF3 hI hc1 hs1 hd nx
      · refine x_tsw (p' := 1942) r287_44 rfl ?_
        exact law_30 g hL hN hF1 hF2 hF3 hK44 hC hI hc1 hs1 hd nx
      · refine x_tsw (p' := 1956) r287_44 rfl ?_
        exact nx D c s hI (by omega) (by omega)
    · refine x_ld (v := .int (Int32.ofNat i)) r287_28 rfl rfl rfl ?_
      refine x_ld (v := .ref 1000002) r287_30 rfl rfl rfl ?_
      refine y_alenX r287_31 rfl ?_
      refine x_ic (v := 5) r287_32 rfl rfl ?_
      refine x_ar r287_33 rfl trivial rfl ?_
      refine x_icgtT r287_34 (q_l5T hL (by omega) (by omega)) ?_
      refine x_ic (v := 1) r287_1962 rfl rfl ?_
      exact x_ret (ret := ret) (C := narrow .boolean (.int 1) = .int 1) (v := some (.int 1)) r287_1963 rt287 rfl rfl rfl rfl rfl rfl rfl rfl rfl (hQ _)
/-- all places that are named lie below -/
def z_bd (n : Nat) (e : va_E) : Bool := match e with
  | .inr (_, fs) => fs.all (fun v => match v with
    | .ref x => decide (x < n)
    | _ => true)
  | .inl (_, m, .inr (.inr (.inr (.inr f)))) => (List.range m).all (fun j => match f j with
    | some x => decide (x < n)
    | none => true)
  | _ => true
theorem z_bd_cl {n m : Nat} (hm : n ≤ m) {e : va_E} (h : z_bd n e = true) : z_cl m e = true := by
  match e, h with
  | .inr (ci, fs), h =>
    show am_nv m fs = true
    unfold am_nv
    have h : fs.all (fun v => match v with
      | .ref x => decide (x < n)
      | _ => true) = true := h
    rw [List.all_eq_true] at h ⊢
    intro v hv
    have := h v hv
    match v, this with
    | .ref x, this =>
      have hx : x < n := of_decide_eq_true this
      have : ¬ x = m := fun e => Nat.ne_of_lt (Nat.lt_of_lt_of_le hx hm) e
      simp [this]
    | .int _, _ => rfl
    | .long _, _ => rfl
    | .float _, _ => rfl
    | .double _, _ => rfl
    | .null, _ => rfl
    | .retAddr _, _ => rfl
  | .inl (_, k, .inr (.inr (.inr (.inr f)))), h =>
    show (List.range k).all (fun j => !(f j == some m)) = true
    have h : (List.range k).all (fun j => match f j with
      | some x => decide (x < n)
      | none => true) = true := h
    rw [List.all_eq_true] at h ⊢
    intro j hj
    have := h j hj
    cases hf : f j with
    | none => rfl
    | some x =>
      rw [hf] at this
      have hx : x < n := of_decide_eq_true this
      have : ¬ x = m := by omega
      simp [this]
  | .inl (_, _, .inl _), _ => rfl
  | .inl (_, _, .inr (.inl _)), _ => rfl
  | .inl (_, _, .inr (.inr (.inl _))), _ => rfl
  | .inl (_, _, .inr (.inr (.inr (.inl _)))), _ => rfl
theorem z_bd_sc {n : Nat} {h : am_AH} (hb : h.all (z_bd n) = true) : z_sc n h := fun m h1 h2 => by
  rw [z_fr, Bool.and_eq_true]
  refine ⟨by simpa using h2, ?_⟩
  rw [List.all_eq_true] at hb ⊢
  exact fun e he => z_bd_cl h1 (hb e he)
set_option maxRecDepth 100000 in
theorem z_b1 : z_sc 106 ([] ++ z_G 0) := z_bd_sc (by decide +kernel)
set_option maxRecDepth 100000 in
theorem z_b2 : z_sc 124 (([] ++ z_G 0) ++ z_Mo 106) := z_bd_sc (by decide +kernel)
set_option maxRecDepth 100000 in
theorem z_b3 : z_sc 125 ((([] ++ z_G 0) ++ z_Mo 106) ++ [c_J 1 (fun _ => 0)]) := z_bd_sc (by decide +kernel)
theorem z_n1 : ([] ++ z_G 0).length = 106 := rfl
theorem z_n2 : (([] ++ z_G 0) ++ z_Mo 106).length = 124 := rfl
theorem z_n3 : ((([] ++ z_G 0) ++ z_Mo 106) ++ [c_J 1 (fun _ => 0)]).length = 125 := rfl
theorem law_all (hF1 : q_F1) (hF2 : q_F2) (hF3 : q_F3) (hL : L ≤ 2560) (hQ : ∀ h, Q (.inl (some (.int 1))) h) : am_X xs L 287 60 1000 10000 0 [.ref 1000002, am_dead, am_dead, am_dead, am_dead, am_dead, am_dead, am_dead, am_dead, am_dead] [] [] 0 0 Q := by
  obtain ⟨K, hK44⟩ : ∃ K, K = 44 := ⟨44, rfl⟩
  obtain ⟨N, hN, hC⟩ : ∃ N, 2000 ≤ N ∧ q_Cc K ≤ N := ⟨2000 + q_Cc K, by omega, by omega⟩
  refine z_new (n := 0) (e := c_O 7 [.null, .null, .null, .null, .null, .null, .null, .int 0]) (z := 8) r287_0 rfl rfl (by decide) (z_sc_nil 0) (nv_b (by decide) (nv_d (nv_d (nv_d (nv_d (nv_d (nv_d (nv_d (nv_d (nv_d (nv_n))))))))))) nv_n rfl rfl (Nat.le_of_ble_eq_true rfl) (Nat.le_of_ble_eq_true rfl) (h' := [] ++ [c_O 7 [.null, .null, .null, .null, .null, .null, .null, .int 0]]) rfl rfl ?_
  refine x_ar r287_3 rfl trivial rfl ?_
  refine z_call (n := 1) (as := [.ref 0]) (rest := [.ref 0]) (h' := [] ++ z_G 0) r287_4 rfl rfl rfl (by decide) (Nat.le_of_ble_eq_true rfl) (k0 (P := []) (a := 0) rfl (by decide) (z_sc_nil 0)) (by decide) (Nat.le_of_ble_eq_true rfl) (Nat.le_of_ble_eq_true rfl) rfl (sc_r (by decide) (sc_d (sc_d (sc_d (sc_d (sc_d (sc_d (sc_d (sc_d (sc_d (sc_n))))))))))) (sc_r (by decide) sc_n) rfl ?_
  refine x_sto (lc' := [.ref 1000002, .ref 0, am_dead, am_dead, am_dead, am_dead, am_dead, am_dead, am_dead, am_dead]) (st' := []) r287_7 rfl rfl rfl rfl ?_
  refine z_new (n := 106) (e := c_O 8 [.int 0, .null, .int 0, .int 0, .null, .int 0, .int 0, .int 0, .int 0, .null, .null, .null, .null, .null, .null, .null, .null, .null, .null, .null, .null, .null, .null, .null, .int 0, .long 0]) (z := 26) r287_8 rfl z_n1 (by decide) z_b1 (nv_b (by decide) (nv_r (by decide) (nv_d (nv_d (nv_d (nv_d (nv_d (nv_d (nv_d (nv_d (nv_n))))))))))) nv_n rfl rfl (Nat.le_of_ble_eq_true rfl) (Nat.le_of_ble_eq_true rfl) (h' := ([] ++ z_G 0) ++ [c_O 8 [.int 0, .null, .int 0, .int 0, .null, .int 0, .int 0, .int 0, .int 0, .null, .null, .null, .null, .null, .null, .null, .null, .null, .null, .null, .null, .null, .null, .null, .int 0, .long 0]]) rfl rfl ?_
  refine x_ar r287_11 rfl trivial rfl ?_
  refine z_call (n := 107) (as := [.ref 106]) (rest := [.ref 106]) (h' := ([] ++ z_G 0) ++ z_Mo 106) r287_12 rfl rfl rfl (by decide) (Nat.le_of_ble_eq_true rfl) (k44 (P := [] ++ z_G 0) (a := 106) z_n1 (by decide) z_b1) (by decide) (Nat.le_of_ble_eq_true rfl) (Nat.le_of_ble_eq_true rfl) (z_len z_n1 rfl) (sc_r (by decide) (sc_r (by decide) (sc_d (sc_d (sc_d (sc_d (sc_d (sc_d (sc_d (sc_d (sc_n))))))))))) (sc_r (by decide) sc_n) rfl ?_
  refine x_sto (lc' := [.ref 1000002, .ref 0, .ref 106, am_dead, am_dead, am_dead, am_dead, am_dead, am_dead, am_dead]) (st' := []) r287_15 rfl rfl rfl rfl ?_
  refine x_ic (v := 1) r287_16 rfl rfl ?_
  refine z_naj (n := 124) (z := 1) r287_17 z_n2 (by decide) z_b2 (nv_b (by decide) (nv_r (by decide) (nv_r (by decide) (nv_d (nv_d (nv_d (nv_d (nv_d (nv_d (nv_d (nv_n))))))))))) nv_n (by decide) rfl (by decide) (Nat.le_of_ble_eq_true rfl) (Nat.le_of_ble_eq_true rfl) (h' := (([] ++ z_G 0) ++ z_Mo 106) ++ [c_J 1 (fun _ => 0)]) rfl rfl ?_
  refine x_sto (lc' := [.ref 1000002, .ref 0, .ref 106, .ref 124, am_dead, am_dead, am_dead, am_dead, am_dead, am_dead]) (st' := []) r287_19 rfl rfl rfl rfl ?_
  refine x_ic (v := 1) r287_20 rfl rfl ?_
  refine z_nad (n := 125) (z := 1) r287_21 z_n3 (by decide) z_b3 (nv_b (by decide) (nv_r (by decide) (nv_r (by decide) (nv_r (by decide) (nv_d (nv_d (nv_d (nv_d (nv_d (nv_d (nv_n))))))))))) nv_n (by decide) rfl (by decide) (Nat.le_of_ble_eq_true rfl) (Nat.le_of_ble_eq_true rfl) (h' := am_mk z_D) z_mk.symm rfl ?_
  refine x_sto (lc' := [.ref 1000002, .ref 0, .ref 106, .ref 124, .ref 125, am_dead, am_dead, am_dead, am_dead, am_dead]) (st' := []) r287_23 rfl rfl rfl rfl ?_
  refine x_ic (v := 0) r287_25 rfl rfl ?_
  refine x_sto (lc' := [.ref 1000002, .ref 0, .ref 106, .ref 124, .ref 125, .int (Int32.ofNat 0), am_dead, am_dead, am_dead, am_dead]) (st' := []) r287_26 rfl rfl rfl rfl ?_
  exact law_loop hF1 hF2 hF3 hL hN hK44 hC (by decide) hQ 512 0 z_D _ _ z_I (by omega) (by omega) (Nat.le_of_ble_eq_true rfl) (Nat.le_of_ble_eq_true rfl)
end TF
