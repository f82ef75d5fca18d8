/-! methods as functions, with their walks (by wip/tools/decomp.py): 196 199 200 222 223 224 243 245 261 262 275 277 278 279 280 -/
section XE
variable {xs : Nat → Int32} {L : Nat}
theorem r196_0 : am_at 196 0 = some (.aload_n 0, 1, [0]) := by decide +kernel
theorem r196_1 : am_at 196 1 = some (.getfield 18, 3, [3, 2, 3, 270]) := by decide +kernel
theorem r196_4 : am_at 196 4 = some (.iconst (0), 1, []) := by decide +kernel
theorem r196_5 : am_at 196 5 = some (.invokestatic 58, 3, [180, 2, 657, 0]) := by decide +kernel
theorem r196_8 : am_at 196 8 = some (.ifCond .le (5), 3, [13]) := by decide +kernel
theorem r196_11 : am_at 196 11 = some (.lconst 0, 1, []) := by decide +kernel
theorem r196_12 : am_at 196 12 = some (.lreturn, 1, []) := by decide +kernel
theorem r196_13 : am_at 196 13 = some (.aload_n 0, 1, [0]) := by decide +kernel
theorem r196_14 : am_at 196 14 = some (.getfield 11, 3, [3, 0, 3, 268]) := by decide +kernel
theorem r196_17 : am_at 196 17 = some (.iconst (0), 1, []) := by decide +kernel
theorem r196_18 : am_at 196 18 = some (.invokestatic 58, 3, [180, 2, 657, 0]) := by decide +kernel
theorem r196_21 : am_at 196 21 = some (.aload_n 0, 1, [0]) := by decide +kernel
theorem r196_22 : am_at 196 22 = some (.getfield 18, 3, [3, 2, 3, 270]) := by decide +kernel
theorem r196_25 : am_at 196 25 = some (.iconst (1), 1, []) := by decide +kernel
theorem r196_26 : am_at 196 26 = some (.invokestatic 58, 3, [180, 2, 657, 0]) := by decide +kernel
theorem r196_29 : am_at 196 29 = some (.isub, 1, []) := by decide +kernel
theorem r196_30 : am_at 196 30 = some (.istore_n 1, 1, [1]) := by decide +kernel
theorem r196_31 : am_at 196 31 = some (.aload_n 0, 1, [0]) := by decide +kernel
theorem r196_32 : am_at 196 32 = some (.getfield 11, 3, [3, 0, 3, 268]) := by decide +kernel
theorem r196_35 : am_at 196 35 = some (.iconst (1), 1, []) := by decide +kernel
theorem r196_36 : am_at 196 36 = some (.invokestatic 58, 3, [180, 2, 657, 0]) := by decide +kernel
theorem r196_39 : am_at 196 39 = some (.aload_n 0, 1, [0]) := by decide +kernel
theorem r196_40 : am_at 196 40 = some (.getfield 18, 3, [3, 2, 3, 270]) := by decide +kernel
theorem r196_43 : am_at 196 43 = some (.iconst (2), 1, []) := by decide +kernel
theorem r196_44 : am_at 196 44 = some (.invokestatic 58, 3, [180, 2, 657, 0]) := by decide +kernel
theorem r196_47 : am_at 196 47 = some (.isub, 1, []) := by decide +kernel
theorem r196_48 : am_at 196 48 = some (.istore_n 2, 1, [2]) := by decide +kernel
theorem r196_49 : am_at 196 49 = some (.aload_n 0, 1, [0]) := by decide +kernel
theorem r196_50 : am_at 196 50 = some (.getfield 18, 3, [3, 2, 3, 270]) := by decide +kernel
theorem r196_53 : am_at 196 53 = some (.iconst (3), 1, []) := by decide +kernel
theorem r196_54 : am_at 196 54 = some (.invokestatic 58, 3, [180, 2, 657, 0]) := by decide +kernel
theorem r196_57 : am_at 196 57 = some (.istore_n 3, 1, [3]) := by decide +kernel
theorem r196_58 : am_at 196 58 = some (.lconst 0, 1, []) := by decide +kernel
theorem r196_59 : am_at 196 59 = some (.lstore 4, 2, [4]) := by decide +kernel
theorem r196_61 : am_at 196 61 = some (.iconst (0), 1, []) := by decide +kernel
theorem r196_62 : am_at 196 62 = some (.istore 6, 2, [6]) := by decide +kernel
theorem r196_64 : am_at 196 64 = some (.iload 6, 2, [6]) := by decide +kernel
theorem r196_66 : am_at 196 66 = some (.iload_n 3, 1, [3]) := by decide +kernel
theorem r196_67 : am_at 196 67 = some (.if_icmp .gt (42), 3, [109]) := by decide +kernel
theorem r196_70 : am_at 196 70 = some (.iload 6, 2, [6]) := by decide +kernel
theorem r196_72 : am_at 196 72 = some (.iload_n 1, 1, [1]) := by decide +kernel
theorem r196_73 : am_at 196 73 = some (.if_icmp .gt (36), 3, [109]) := by decide +kernel
theorem r196_76 : am_at 196 76 = some (.lload 4, 2, [4]) := by decide +kernel
theorem r196_78 : am_at 196 78 = some (.aload_n 0, 1, [0]) := by decide +kernel
theorem r196_79 : am_at 196 79 = some (.iload_n 3, 1, [3]) := by decide +kernel
theorem r196_80 : am_at 196 80 = some (.iload 6, 2, [6]) := by decide +kernel
theorem r196_82 : am_at 196 82 = some (.invokevirtual 94, 3, [198, 3, 683, 0]) := by decide +kernel
theorem r196_85 : am_at 196 85 = some (.aload_n 0, 1, [0]) := by decide +kernel
theorem r196_86 : am_at 196 86 = some (.iload_n 1, 1, [1]) := by decide +kernel
theorem r196_87 : am_at 196 87 = some (.iload 6, 2, [6]) := by decide +kernel
theorem r196_89 : am_at 196 89 = some (.isub, 1, []) := by decide +kernel
theorem r196_90 : am_at 196 90 = some (.iload_n 2, 1, [2]) := by decide +kernel
theorem r196_91 : am_at 196 91 = some (.iload_n 3, 1, [3]) := by decide +kernel
theorem r196_92 : am_at 196 92 = some (.isub, 1, []) := by decide +kernel
theorem r196_93 : am_at 196 93 = some (.iload 6, 2, [6]) := by decide +kernel
theorem r196_95 : am_at 196 95 = some (.iadd, 1, []) := by decide +kernel
theorem r196_96 : am_at 196 96 = some (.invokevirtual 97, 3, [197, 3, 687, 0]) := by decide +kernel
theorem r196_99 : am_at 196 99 = some (.lmul, 1, []) := by decide +kernel
theorem r196_100 : am_at 196 100 = some (.ladd, 1, []) := by decide +kernel
theorem r196_101 : am_at 196 101 = some (.lstore 4, 2, [4]) := by decide +kernel
theorem r196_103 : am_at 196 103 = some (.iinc 6 (1), 3, [6]) := by decide +kernel
theorem r196_106 : am_at 196 106 = some (.goto (-42), 3, [64]) := by decide +kernel
theorem r196_109 : am_at 196 109 = some (.lload 4, 2, [4]) := by decide +kernel
theorem r196_111 : am_at 196 111 = some (.lreturn, 1, []) := by decide +kernel
theorem rt196 : am_rtt 196 = some (some .long) := by decide +kernel
set_option maxRecDepth 100000 in
theorem pg196 : am_pg[196]? = some am_m196 := rfl
theorem m196_L64_w {d : Nat} {N : Nat} {D : am_D} {v1 : Int32} {v2 : Int32} {v3 : Int32} {mc ms : Nat} {Q : am_O → am_AH → Prop} (hd : 3 ≤ d) : ∀ (n : Nat) (v4 : Int64) (v6 : Int32) {q : Int64} (h : m196_L64 N D v1 v2 v3  n v4 v6 = some q) (k0 : am_X xs L 196 d mc ms 109 [.ref 93, am_dead, am_dead, am_dead, .long q, am_dead, am_dead] [] (am_mk D) 0 0 Q), am_X xs L 196 d mc ms 64 [.ref 93, .int v1, .int v2, .int v3, .long v4, am_dead, .int v6] [] (am_mk D) 0 0 Q := by
  intro n
  induction n with
  | zero =>
    intro v4 v6 q h k0
    exact (nomatch (show none = some q from h))
  | succ n ih =>
    intro v4 v6 q h k0
    rw [m196_L64] at h
    refine x_ld (v := .int v6) r196_64 rfl rfl rfl ?_
    refine x_ld (v := .int v3) r196_66 rfl rfl rfl ?_
    rcases am_ifE h with ⟨c10, h⟩ | ⟨c10, h⟩
    · refine x_icgtT r196_67 c10 ?_
      refine x_forget (lc0 := [.ref 93, am_dead, am_dead, am_dead, .long v4, am_dead, am_dead]) ⟨Or.inl rfl, Or.inr ⟨rfl, rfl⟩, Or.inr ⟨rfl, rfl⟩, Or.inr ⟨rfl, rfl⟩, Or.inl rfl, Or.inl rfl, Or.inr ⟨rfl, rfl⟩, trivial⟩ ?_
      cases h
      exact k0
    · refine x_icgtF r196_67 c10 rfl ?_
      refine x_ld (v := .int v6) r196_70 rfl rfl rfl ?_
      refine x_ld (v := .int v1) r196_72 rfl rfl rfl ?_
      rcases am_ifE h with ⟨c11, h⟩ | ⟨c11, h⟩
      · refine x_icgtT r196_73 c11 ?_
        refine x_forget (lc0 := [.ref 93, am_dead, am_dead, am_dead, .long v4, am_dead, am_dead]) ⟨Or.inl rfl, Or.inr ⟨rfl, rfl⟩, Or.inr ⟨rfl, rfl⟩, Or.inr ⟨rfl, rfl⟩, Or.inl rfl, Or.inl rfl, Or.inr ⟨rfl, rfl⟩, trivial⟩ ?_
        cases h
        exact k0
      · refine x_icgtF r196_73 c11 rfl ?_
        refine x_ld (v := .long v4) r196_76 rfl rfl rfl ?_
        refine x_ld (v := .ref 93) r196_78 rfl rfl rfl ?_
        refine x_ld (v := .int v3) r196_79 rfl rfl rfl ?_
        refine x_ld (v := .int v6) r196_80 rfl rfl rfl ?_
        obtain ⟨q12, h13, h⟩ := Option.bind_eq_some_iff.mp h
        refine x_call1 (as := [.ref 93, .int v3, .int v6]) (rest := [.long v4]) r196_82 rfl rfl rfl (by decide) (Nat.le_of_ble_eq_true rfl) (m198_ok h13) (Nat.le_trans (by decide) hd) (Nat.zero_le _) (Nat.zero_le _) rfl ?_
        refine x_ld (v := .ref 93) r196_85 rfl rfl rfl ?_
        refine x_ld (v := .int v1) r196_86 rfl rfl rfl ?_
        refine x_ld (v := .int v6) r196_87 rfl rfl rfl ?_
        refine x_ar r196_89 rfl trivial rfl ?_
        refine x_ld (v := .int v2) r196_90 rfl rfl rfl ?_
        refine x_ld (v := .int v3) r196_91 rfl rfl rfl ?_
        refine x_ar r196_92 rfl trivial rfl ?_
        refine x_ld (v := .int v6) r196_93 rfl rfl rfl ?_
        refine x_ar r196_95 rfl trivial rfl ?_
        obtain ⟨q14, h15, h⟩ := Option.bind_eq_some_iff.mp h
        refine x_call1 (as := [.ref 93, .int (v1 - v6), .int ((v2 - v3) + v6)]) (rest := [.long q12, .long v4]) r196_96 rfl rfl rfl (by decide) (Nat.le_of_ble_eq_true rfl) (m197_ok h15) (Nat.le_trans (by decide) hd) (Nat.zero_le _) (Nat.zero_le _) rfl ?_
        refine x_ar r196_99 rfl trivial rfl ?_
        refine x_ar r196_100 rfl trivial rfl ?_
        obtain ⟨x16, e17, h⟩ := am_ltE h
        refine am_topJ e17 ?_
        refine x_sto (lc' := [.ref 93, .int v1, .int v2, .int v3, .long x16, am_dead, .int v6]) r196_101 rfl rfl rfl rfl ?_
        obtain ⟨x18, e19, h⟩ := am_ltE h
        refine x_sto (lc' := [.ref 93, .int v1, .int v2, .int v3, .long x16, am_dead, .int x18]) r196_103 rfl rfl (by subst e19; rfl) rfl ?_
        refine x_goto r196_106 ?_
        exact x_forget (lc0 := [.ref 93, .int v1, .int v2, .int v3, .long x16, am_dead, .int x18]) ⟨Or.inl rfl, Or.inl rfl, Or.inl rfl, Or.inl rfl, Or.inl rfl, Or.inl rfl, Or.inl rfl, trivial⟩ (ih x16 x18 h k0)
theorem m196_w {d mc ms : Nat} {N : Nat} {D : am_D} {Q : am_O → am_AH → Prop} (hd : 3 ≤ d) {r : Int64} (h : m196 N D = some r) (hQ : Q (.inl (some (.long r))) (am_mk D)) : am_X xs L 196 d mc ms 0 [.ref 93, am_dead, am_dead, am_dead, am_dead, am_dead, am_dead] [] (am_mk D) 0 0 Q := by
  unfold m196 at h
  refine x_ld (v := .ref 93) r196_0 rfl rfl rfl ?_
  refine y_gf (cd := 98) (v := .ref 96) r196_1 rfl rfl rfl ?_
  refine x_ic (v := 0) r196_4 rfl rfl ?_
  refine x_call1 (as := [.ref 96, .int (0 : Int32)]) (rest := []) r196_5 rfl rfl rfl (by decide) (Nat.le_of_ble_eq_true rfl) (am_rows_at (n := 8) rfl (by decide)) (Nat.le_trans (by decide) hd) (Nat.zero_le _) (Nat.zero_le _) rfl ?_
  rcases am_ifE h with ⟨c1, h⟩ | ⟨c1, h⟩
  · refine x_ifleT r196_8 c1 ?_
    refine x_ld (v := .ref 93) r196_13 rfl rfl rfl ?_
    refine y_gf (cd := 96) (v := .ref 94) r196_14 rfl rfl rfl ?_
    refine x_ic (v := 0) r196_17 rfl rfl ?_
    refine x_call1 (as := [.ref 94, .int (0 : Int32)]) (rest := []) r196_18 rfl rfl rfl (by decide) (Nat.le_of_ble_eq_true rfl) (am_rows_at (n := 3) rfl (by decide)) (Nat.le_trans (by decide) hd) (Nat.zero_le _) (Nat.zero_le _) rfl ?_
    refine x_ld (v := .ref 93) r196_21 rfl rfl rfl ?_
    refine y_gf (cd := 98) (v := .ref 96) r196_22 rfl rfl rfl ?_
    refine x_ic (v := 1) r196_25 rfl rfl ?_
    refine x_call1 (as := [.ref 96, .int (1 : Int32)]) (rest := [.int (am_rat (D.1 94) 3 (0 : Int32))]) r196_26 rfl rfl rfl (by decide) (Nat.le_of_ble_eq_true rfl) (am_rows_at (n := 8) rfl (by decide)) (Nat.le_trans (by decide) hd) (Nat.zero_le _) (Nat.zero_le _) rfl ?_
    refine x_ar r196_29 rfl trivial rfl ?_
    obtain ⟨x2, e3, h⟩ := am_ltE h
    refine am_topI e3 ?_
    refine x_sto (lc' := [.ref 93, .int x2, am_dead, am_dead, am_dead, am_dead, am_dead]) r196_30 rfl rfl rfl rfl ?_
    refine x_ld (v := .ref 93) r196_31 rfl rfl rfl ?_
    refine y_gf (cd := 96) (v := .ref 94) r196_32 rfl rfl rfl ?_
    refine x_ic (v := 1) r196_35 rfl rfl ?_
    refine x_call1 (as := [.ref 94, .int (1 : Int32)]) (rest := []) r196_36 rfl rfl rfl (by decide) (Nat.le_of_ble_eq_true rfl) (am_rows_at (n := 3) rfl (by decide)) (Nat.le_trans (by decide) hd) (Nat.zero_le _) (Nat.zero_le _) rfl ?_
    refine x_ld (v := .ref 93) r196_39 rfl rfl rfl ?_
    refine y_gf (cd := 98) (v := .ref 96) r196_40 rfl rfl rfl ?_
    refine x_ic (v := 2) r196_43 rfl rfl ?_
    refine x_call1 (as := [.ref 96, .int (2 : Int32)]) (rest := [.int (am_rat (D.1 94) 3 (1 : Int32))]) r196_44 rfl rfl rfl (by decide) (Nat.le_of_ble_eq_true rfl) (am_rows_at (n := 8) rfl (by decide)) (Nat.le_trans (by decide) hd) (Nat.zero_le _) (Nat.zero_le _) rfl ?_
    refine x_ar r196_47 rfl trivial rfl ?_
    obtain ⟨x4, e5, h⟩ := am_ltE h
    refine am_topI e5 ?_
    refine x_sto (lc' := [.ref 93, .int x2, .int x4, am_dead, am_dead, am_dead, am_dead]) r196_48 rfl rfl rfl rfl ?_
    refine x_ld (v := .ref 93) r196_49 rfl rfl rfl ?_
    refine y_gf (cd := 98) (v := .ref 96) r196_50 rfl rfl rfl ?_
    refine x_ic (v := 3) r196_53 rfl rfl ?_
    refine x_call1 (as := [.ref 96, .int (3 : Int32)]) (rest := []) r196_54 rfl rfl rfl (by decide) (Nat.le_of_ble_eq_true rfl) (am_rows_at (n := 8) rfl (by decide)) (Nat.le_trans (by decide) hd) (Nat.zero_le _) (Nat.zero_le _) rfl ?_
    obtain ⟨x6, e7, h⟩ := am_ltE h
    refine am_topI e7 ?_
    refine x_sto (lc' := [.ref 93, .int x2, .int x4, .int x6, am_dead, am_dead, am_dead]) r196_57 rfl rfl rfl rfl ?_
    refine x_ar r196_58 rfl trivial rfl ?_
    obtain ⟨x8, e9, h⟩ := am_ltE h
    refine am_topJ e9 ?_
    refine x_sto (lc' := [.ref 93, .int x2, .int x4, .int x6, .long x8, am_dead, am_dead]) r196_59 rfl rfl rfl rfl ?_
    refine x_ic (v := 0) r196_61 rfl rfl ?_
    refine x_sto (lc' := [.ref 93, .int x2, .int x4, .int x6, .long x8, am_dead, .int (0 : Int32)]) r196_62 rfl rfl rfl rfl ?_
    obtain ⟨q20, h21, h⟩ := Option.bind_eq_some_iff.mp h
    refine x_forget (lc0 := [.ref 93, .int x2, .int x4, .int x6, .long x8, am_dead, .int (0 : Int32)]) ⟨Or.inl rfl, Or.inl rfl, Or.inl rfl, Or.inl rfl, Or.inl rfl, Or.inl rfl, Or.inl rfl, trivial⟩ (m196_L64_w hd N x8 (0 : Int32) h21 ?_)
    refine x_ld (v := .long q20) r196_109 rfl rfl rfl ?_
    cases h
    exact x_ret (ret := some .long) (C := True) (v := some (.long _)) r196_111 rt196 rfl rfl rfl rfl rfl rfl rfl rfl trivial hQ
  · refine x_ifleF r196_8 c1 rfl ?_
    refine x_ar r196_11 rfl trivial rfl ?_
    cases h
    exact x_ret (ret := some .long) (C := True) (v := some (.long _)) r196_12 rt196 rfl rfl rfl rfl rfl rfl rfl rfl trivial hQ
theorem m196_ok {N : Nat} {D : am_D} {r : Int64} (h : m196 N D = some r) : am_Y xs L 196 3 0 0 [.ref 93] D (.inl (some (.long r))) D := am_Yof (mi := am_m196) (lc := [.ref 93, am_dead, am_dead, am_dead, am_dead, am_dead, am_dead]) pg196 (Nat.le_of_ble_eq_true rfl) (am_rc1 (ci := 3) rfl rfl rfl rfl rfl) rfl (fun Q hQ => m196_w (Nat.le_refl _) h hQ)
theorem r199_0 : am_at 199 0 = some (.iload_n 1, 1, [1]) := by decide +kernel
theorem r199_1 : am_at 199 1 = some (.aload_n 0, 1, [0]) := by decide +kernel
theorem r199_2 : am_at 199 2 = some (.getfield 28, 3, [3, 5, 0, 273]) := by decide +kernel
theorem r199_5 : am_at 199 5 = some (.isub, 1, []) := by decide +kernel
theorem r199_6 : am_at 199 6 = some (.iconst (4), 1, []) := by decide +kernel
theorem r199_7 : am_at 199 7 = some (.iadd, 1, []) := by decide +kernel
theorem r199_8 : am_at 199 8 = some (.iconst (1), 1, []) := by decide +kernel
theorem r199_9 : am_at 199 9 = some (.isub, 1, []) := by decide +kernel
theorem r199_10 : am_at 199 10 = some (.iconst (4), 1, []) := by decide +kernel
theorem r199_11 : am_at 199 11 = some (.irem, 1, []) := by decide +kernel
theorem r199_12 : am_at 199 12 = some (.istore_n 3, 1, [3]) := by decide +kernel
theorem r199_13 : am_at 199 13 = some (.iload_n 2, 1, [2]) := by decide +kernel
theorem r199_14 : am_at 199 14 = some (.ifCond .lt (27), 3, [41]) := by decide +kernel
theorem r199_17 : am_at 199 17 = some (.iload_n 3, 1, [3]) := by decide +kernel
theorem r199_18 : am_at 199 18 = some (.iconst (3), 1, []) := by decide +kernel
theorem r199_19 : am_at 199 19 = some (.if_icmp .ge (22), 3, [41]) := by decide +kernel
theorem r199_22 : am_at 199 22 = some (.iload_n 2, 1, [2]) := by decide +kernel
theorem r199_23 : am_at 199 23 = some (.iload_n 3, 1, [3]) := by decide +kernel
theorem r199_24 : am_at 199 24 = some (.ishr, 1, []) := by decide +kernel
theorem r199_25 : am_at 199 25 = some (.iconst (1), 1, []) := by decide +kernel
theorem r199_26 : am_at 199 26 = some (.iand, 1, []) := by decide +kernel
theorem r199_27 : am_at 199 27 = some (.ifCond .eq (14), 3, [41]) := by decide +kernel
theorem r199_30 : am_at 199 30 = some (.aload_n 0, 1, [0]) := by decide +kernel
theorem r199_31 : am_at 199 31 = some (.getfield 11, 3, [3, 0, 3, 268]) := by decide +kernel
theorem r199_34 : am_at 199 34 = some (.iload_n 3, 1, [3]) := by decide +kernel
theorem r199_35 : am_at 199 35 = some (.invokestatic 58, 3, [180, 2, 657, 0]) := by decide +kernel
theorem r199_38 : am_at 199 38 = some (.ifCond .gt (5), 3, [43]) := by decide +kernel
theorem r199_41 : am_at 199 41 = some (.lconst 0, 1, []) := by decide +kernel
theorem r199_42 : am_at 199 42 = some (.lreturn, 1, []) := by decide +kernel
theorem r199_43 : am_at 199 43 = some (.aload_n 0, 1, [0]) := by decide +kernel
theorem r199_44 : am_at 199 44 = some (.getfield 18, 3, [3, 2, 3, 270]) := by decide +kernel
theorem r199_47 : am_at 199 47 = some (.iload_n 2, 1, [2]) := by decide +kernel
theorem r199_48 : am_at 199 48 = some (.iconst (-1), 1, []) := by decide +kernel
theorem r199_49 : am_at 199 49 = some (.invokestatic 55, 3, [182, 3, 658, 0]) := by decide +kernel
theorem r199_52 : am_at 199 52 = some (.aload_n 0, 1, [0]) := by decide +kernel
theorem r199_53 : am_at 199 53 = some (.getfield 11, 3, [3, 0, 3, 268]) := by decide +kernel
theorem r199_56 : am_at 199 56 = some (.iload_n 3, 1, [3]) := by decide +kernel
theorem r199_57 : am_at 199 57 = some (.iconst (-1), 1, []) := by decide +kernel
theorem r199_58 : am_at 199 58 = some (.invokestatic 55, 3, [182, 3, 658, 0]) := by decide +kernel
theorem r199_61 : am_at 199 61 = some (.aload_n 0, 1, [0]) := by decide +kernel
theorem r199_62 : am_at 199 62 = some (.invokevirtual 100, 3, [196, 1, 708, 0]) := by decide +kernel
theorem r199_65 : am_at 199 65 = some (.lstore 4, 2, [4]) := by decide +kernel
theorem r199_67 : am_at 199 67 = some (.aload_n 0, 1, [0]) := by decide +kernel
theorem r199_68 : am_at 199 68 = some (.getfield 18, 3, [3, 2, 3, 270]) := by decide +kernel
theorem r199_71 : am_at 199 71 = some (.iload_n 2, 1, [2]) := by decide +kernel
theorem r199_72 : am_at 199 72 = some (.iconst (1), 1, []) := by decide +kernel
theorem r199_73 : am_at 199 73 = some (.invokestatic 55, 3, [182, 3, 658, 0]) := by decide +kernel
theorem r199_76 : am_at 199 76 = some (.aload_n 0, 1, [0]) := by decide +kernel
theorem r199_77 : am_at 199 77 = some (.getfield 11, 3, [3, 0, 3, 268]) := by decide +kernel
theorem r199_80 : am_at 199 80 = some (.iload_n 3, 1, [3]) := by decide +kernel
theorem r199_81 : am_at 199 81 = some (.iconst (1), 1, []) := by decide +kernel
theorem r199_82 : am_at 199 82 = some (.invokestatic 55, 3, [182, 3, 658, 0]) := by decide +kernel
theorem r199_85 : am_at 199 85 = some (.lload 4, 2, [4]) := by decide +kernel
theorem r199_87 : am_at 199 87 = some (.lreturn, 1, []) := by decide +kernel
theorem rt199 : am_rtt 199 = some (some .long) := by decide +kernel
set_option maxRecDepth 100000 in
theorem pg199 : am_pg[199]? = some am_m199 := rfl
theorem m199_w {d mc ms : Nat} {N : Nat} {D : am_D} {v1 : Int32} {v2 : Int32} {Q : am_O → am_AH → Prop} (hd : 4 ≤ d) {r : Int64 × am_D} (h : m199 N D v1 v2 = some r) (hQ : Q (.inl (some (.long r.1))) (am_mk r.2)) : am_X xs L 199 d mc ms 0 [.ref 93, .int v1, .int v2, am_dead, am_dead, am_dead] [] (am_mk D) 0 0 Q := by
  unfold m199 at h
  refine x_ld (v := .int v1) r199_0 rfl rfl rfl ?_
  refine x_ld (v := .ref 93) r199_1 rfl rfl rfl ?_
  refine y_gf (cd := 0) (v := .int (D.1 93 5)) r199_2 rfl rfl rfl ?_
  refine x_ar r199_5 rfl trivial rfl ?_
  refine x_ic (v := 4) r199_6 rfl rfl ?_
  refine x_ar r199_7 rfl trivial rfl ?_
  refine x_ic (v := 1) r199_8 rfl rfl ?_
  refine x_ar r199_9 rfl trivial rfl ?_
  refine x_ic (v := 4) r199_10 rfl rfl ?_
  refine x_ar r199_11 rfl (by decide) rfl ?_
  obtain ⟨x1, e2, h⟩ := am_ltE h
  refine am_topI e2 ?_
  refine x_sto (lc' := [.ref 93, .int v1, .int v2, .int x1, am_dead, am_dead]) r199_12 rfl rfl rfl rfl ?_
  refine x_ld (v := .int v2) r199_13 rfl rfl rfl ?_
  rcases am_ifE h with ⟨c3, h⟩ | ⟨c3, h⟩
  · refine x_ifltT r199_14 c3 ?_
    refine x_ar r199_41 rfl trivial rfl ?_
    cases h
    exact x_ret (ret := some .long) (C := True) (v := some (.long _)) r199_42 rt199 rfl rfl rfl rfl rfl rfl rfl rfl trivial hQ
  · refine x_ifltF r199_14 c3 rfl ?_
    refine x_ld (v := .int x1) r199_17 rfl rfl rfl ?_
    refine x_ic (v := 3) r199_18 rfl rfl ?_
    rcases am_ifE h with ⟨c4, h⟩ | ⟨c4, h⟩
    · refine x_icgeT r199_19 c4 ?_
      refine x_ar r199_41 rfl trivial rfl ?_
      cases h
      exact x_ret (ret := some .long) (C := True) (v := some (.long _)) r199_42 rt199 rfl rfl rfl rfl rfl rfl rfl rfl trivial hQ
    · refine x_icgeF r199_19 c4 rfl ?_
      refine x_ld (v := .int v2) r199_22 rfl rfl rfl ?_
      refine x_ld (v := .int x1) r199_23 rfl rfl rfl ?_
      refine x_ar r199_24 rfl trivial rfl ?_
      refine x_ic (v := 1) r199_25 rfl rfl ?_
      refine x_ar r199_26 rfl trivial rfl ?_
      rcases am_ifE h with ⟨c5, h⟩ | ⟨c5, h⟩
      · refine x_ifeqT r199_27 c5 ?_
        refine x_ar r199_41 rfl trivial rfl ?_
        cases h
        exact x_ret (ret := some .long) (C := True) (v := some (.long _)) r199_42 rt199 rfl rfl rfl rfl rfl rfl rfl rfl trivial hQ
      · refine x_ifeqF r199_27 c5 rfl ?_
        refine x_ld (v := .ref 93) r199_30 rfl rfl rfl ?_
        refine y_gf (cd := 96) (v := .ref 94) r199_31 rfl rfl rfl ?_
        refine x_ld (v := .int x1) r199_34 rfl rfl rfl ?_
        refine x_call1 (as := [.ref 94, .int x1]) (rest := []) r199_35 rfl rfl rfl (by decide) (Nat.le_of_ble_eq_true rfl) (am_rows_at (n := 3) rfl (by decide)) (Nat.le_trans (by decide) hd) (Nat.zero_le _) (Nat.zero_le _) rfl ?_
        rcases am_ifE h with ⟨c6, h⟩ | ⟨c6, h⟩
        · refine x_ifgtT r199_38 c6 ?_
          refine x_ld (v := .ref 93) r199_43 rfl rfl rfl ?_
          refine y_gf (cd := 98) (v := .ref 96) r199_44 rfl rfl rfl ?_
          refine x_ld (v := .int v2) r199_47 rfl rfl rfl ?_
          refine x_ic (v := -1) r199_48 rfl rfl ?_
          obtain ⟨D7, e8, h⟩ := am_ltE h
          refine x_call0 (as := [.ref 96, .int v2, .int (-1 : Int32)]) (rest := []) r199_49 rfl rfl rfl (by decide) (Nat.le_of_ble_eq_true rfl) (am_rows_add (n := 8) rfl (by decide) e8) (Nat.le_trans (by decide) hd) (Nat.zero_le _) (Nat.zero_le _) rfl ?_
          refine x_ld (v := .ref 93) r199_52 rfl rfl rfl ?_
          refine y_gf (cd := 96) (v := .ref 94) r199_53 rfl rfl rfl ?_
          refine x_ld (v := .int x1) r199_56 rfl rfl rfl ?_
          refine x_ic (v := -1) r199_57 rfl rfl ?_
          obtain ⟨D9, e10, h⟩ := am_ltE h
          refine x_call0 (as := [.ref 94, .int x1, .int (-1 : Int32)]) (rest := []) r199_58 rfl rfl rfl (by decide) (Nat.le_of_ble_eq_true rfl) (am_rows_add (n := 3) rfl (by decide) e10) (Nat.le_trans (by decide) hd) (Nat.zero_le _) (Nat.zero_le _) rfl ?_
          refine x_ld (v := .ref 93) r199_61 rfl rfl rfl ?_
          obtain ⟨q11, h12, h⟩ := Option.bind_eq_some_iff.mp h
          refine x_call1 (as := [.ref 93]) (rest := []) r199_62 rfl rfl rfl (by decide) (Nat.le_of_ble_eq_true rfl) (m196_ok h12) (Nat.le_trans (by decide) hd) (Nat.zero_le _) (Nat.zero_le _) rfl ?_
          refine x_sto (lc' := [.ref 93, .int v1, .int v2, .int x1, .long q11, am_dead]) r199_65 rfl rfl rfl rfl ?_
          refine x_ld (v := .ref 93) r199_67 rfl rfl rfl ?_
          refine y_gf (cd := 98) (v := .ref 96) r199_68 rfl rfl rfl ?_
          refine x_ld (v := .int v2) r199_71 rfl rfl rfl ?_
          refine x_ic (v := 1) r199_72 rfl rfl ?_
          obtain ⟨D13, e14, h⟩ := am_ltE h
          refine x_call0 (as := [.ref 96, .int v2, .int (1 : Int32)]) (rest := []) r199_73 rfl rfl rfl (by decide) (Nat.le_of_ble_eq_true rfl) (am_rows_add (n := 8) rfl (by decide) e14) (Nat.le_trans (by decide) hd) (Nat.zero_le _) (Nat.zero_le _) rfl ?_
          refine x_ld (v := .ref 93) r199_76 rfl rfl rfl ?_
          refine y_gf (cd := 96) (v := .ref 94) r199_77 rfl rfl rfl ?_
          refine x_ld (v := .int x1) r199_80 rfl rfl rfl ?_
          refine x_ic (v := 1) r199_81 rfl rfl ?_
          obtain ⟨D15, e16, h⟩ := am_ltE h
          refine x_call0 (as := [.ref 94, .int x1, .int (1 : Int32)]) (rest := []) r199_82 rfl rfl rfl (by decide) (Nat.le_of_ble_eq_true rfl) (am_rows_add (n := 3) rfl (by decide) e16) (Nat.le_trans (by decide) hd) (Nat.zero_le _) (Nat.zero_le _) rfl ?_
          refine x_ld (v := .long q11) r199_85 rfl rfl rfl ?_
          cases h
          exact x_ret (ret := some .long) (C := True) (v := some (.long _)) r199_87 rt199 rfl rfl rfl rfl rfl rfl rfl rfl trivial hQ
        · refine x_ifgtF r199_38 c6 rfl ?_
          refine x_ar r199_41 rfl trivial rfl ?_
          cases h
          exact x_ret (ret := some .long) (C := True) (v := some (.long _)) r199_42 rt199 rfl rfl rfl rfl rfl rfl rfl rfl trivial hQ
theorem m199_ok {N : Nat} {D : am_D} {v1 : Int32} {v2 : Int32} {r : Int64 × am_D} (h : m199 N D v1 v2 = some r) : am_Y xs L 199 4 0 0 [.ref 93, .int v1, .int v2] D (.inl (some (.long r.1))) r.2 := am_Yof (mi := am_m199) (lc := [.ref 93, .int v1, .int v2, am_dead, am_dead, am_dead]) pg199 (Nat.le_of_ble_eq_true rfl) (am_rc1 (ci := 3) rfl rfl rfl rfl rfl) rfl (fun Q hQ => m199_w (Nat.le_refl _) h hQ)
theorem r200_0 : am_at 200 0 = some (.iconst (0), 1, []) := by decide +kernel
theorem r200_1 : am_at 200 1 = some (.istore 4, 2, [4]) := by decide +kernel
theorem r200_3 : am_at 200 3 = some (.iconst (1), 1, []) := by decide +kernel
theorem r200_4 : am_at 200 4 = some (.istore 5, 2, [5]) := by decide +kernel
theorem r200_6 : am_at 200 6 = some (.iload 5, 2, [5]) := by decide +kernel
theorem r200_8 : am_at 200 8 = some (.aload_n 0, 1, [0]) := by decide +kernel
theorem r200_9 : am_at 200 9 = some (.getfield 18, 3, [3, 2, 3, 270]) := by decide +kernel
theorem r200_12 : am_at 200 12 = some (.arraylength, 1, []) := by decide +kernel
theorem r200_13 : am_at 200 13 = some (.if_icmp .ge (43), 3, [56]) := by decide +kernel
theorem r200_16 : am_at 200 16 = some (.aload_n 0, 1, [0]) := by decide +kernel
theorem r200_17 : am_at 200 17 = some (.getfield 18, 3, [3, 2, 3, 270]) := by decide +kernel
theorem r200_20 : am_at 200 20 = some (.iload 5, 2, [5]) := by decide +kernel
theorem r200_22 : am_at 200 22 = some (.iaload, 1, []) := by decide +kernel
theorem r200_23 : am_at 200 23 = some (.ifCond .le (27), 3, [50]) := by decide +kernel
theorem r200_26 : am_at 200 26 = some (.aload_n 0, 1, [0]) := by decide +kernel
theorem r200_27 : am_at 200 27 = some (.iload_n 1, 1, [1]) := by decide +kernel
theorem r200_28 : am_at 200 28 = some (.iload 5, 2, [5]) := by decide +kernel
theorem r200_30 : am_at 200 30 = some (.invokevirtual 104, 3, [199, 3, 717, 0]) := by decide +kernel
theorem r200_33 : am_at 200 33 = some (.lload_n 2, 1, [2]) := by decide +kernel
theorem r200_34 : am_at 200 34 = some (.lcmp, 1, []) := by decide +kernel
theorem r200_35 : am_at 200 35 = some (.ifCond .ne (15), 3, [50]) := by decide +kernel
theorem r200_38 : am_at 200 38 = some (.iload 4, 2, [4]) := by decide +kernel
theorem r200_40 : am_at 200 40 = some (.aload_n 0, 1, [0]) := by decide +kernel
theorem r200_41 : am_at 200 41 = some (.getfield 18, 3, [3, 2, 3, 270]) := by decide +kernel
theorem r200_44 : am_at 200 44 = some (.iload 5, 2, [5]) := by decide +kernel
theorem r200_46 : am_at 200 46 = some (.iaload, 1, []) := by decide +kernel
theorem r200_47 : am_at 200 47 = some (.iadd, 1, []) := by decide +kernel
theorem r200_48 : am_at 200 48 = some (.istore 4, 2, [4]) := by decide +kernel
theorem r200_50 : am_at 200 50 = some (.iinc 5 (1), 3, [5]) := by decide +kernel
theorem r200_53 : am_at 200 53 = some (.goto (-47), 3, [6]) := by decide +kernel
theorem r200_56 : am_at 200 56 = some (.iload 4, 2, [4]) := by decide +kernel
theorem r200_58 : am_at 200 58 = some (.ireturn, 1, []) := by decide +kernel
theorem rt200 : am_rtt 200 = some (some .int) := by decide +kernel
set_option maxRecDepth 100000 in
theorem pg200 : am_pg[200]? = some am_m200 := rfl
theorem m200_L6_w {d : Nat} {N : Nat} {v1 : Int32} {v2 : Int64} {mc ms : Nat} {Q : am_O → am_AH → Prop} (hd : 5 ≤ d) : ∀ (n : Nat) (D : am_D) (v4 : Int32) (v5 : Int32) {q : Int32 × am_D} (h : m200_L6 N v1 v2  n D v4 v5 = some q) (k0 : am_X xs L 200 d mc ms 56 [.ref 93, am_dead, am_dead, am_dead, .int q.1, am_dead] [] (am_mk q.2) 0 0 Q), am_X xs L 200 d mc ms 6 [.ref 93, .int v1, .long v2, am_dead, .int v4, .int v5] [] (am_mk D) 0 0 Q := by
  intro n
  induction n with
  | zero =>
    intro D v4 v5 q h k0
    exact (nomatch (show none = some q from h))
  | succ n ih =>
    intro D v4 v5 q h k0
    rw [m200_L6] at h
    refine x_ld (v := .int v5) r200_6 rfl rfl rfl ?_
    refine x_ld (v := .ref 93) r200_8 rfl rfl rfl ?_
    refine y_gf (cd := 98) (v := .ref 96) r200_9 rfl rfl rfl ?_
    refine y_alen (tag := 0) (n := 8) (v := 8) r200_12 rfl rfl rfl ?_
    rcases am_ifE h with ⟨c1, h⟩ | ⟨c1, h⟩
    · refine x_icgeT r200_13 c1 ?_
      refine x_forget (lc0 := [.ref 93, am_dead, am_dead, am_dead, .int v4, am_dead]) ⟨Or.inl rfl, Or.inr ⟨rfl, rfl⟩, Or.inr ⟨rfl, rfl⟩, Or.inl rfl, Or.inl rfl, Or.inr ⟨rfl, rfl⟩, trivial⟩ ?_
      cases h
      exact k0
    · refine x_icgeF r200_13 c1 rfl ?_
      refine x_ld (v := .ref 93) r200_16 rfl rfl rfl ?_
      refine y_gf (cd := 98) (v := .ref 96) r200_17 rfl rfl rfl ?_
      refine x_ld (v := .int v5) r200_20 rfl rfl rfl ?_
      obtain ⟨g2, h⟩ := am_gdE h
      refine y_ial (n := 8) r200_22 rfl (by decide) g2 rfl rfl ?_
      obtain ⟨q3, h5, h⟩ := Option.bind_eq_some_iff.mp h
      have kj4 : am_X xs L 200 d mc ms 50 [.ref 93, .int v1, .long v2, am_dead, .int q3.1, .int v5] [] (am_mk q3.2) 0 0 Q := by
        obtain ⟨x13, e14, h⟩ := am_ltE h
        refine x_sto (lc' := [.ref 93, .int v1, .long v2, am_dead, .int q3.1, .int x13]) r200_50 rfl rfl (by subst e14; rfl) rfl ?_
        refine x_goto r200_53 ?_
        exact x_forget (lc0 := [.ref 93, .int v1, .long v2, am_dead, .int q3.1, .int x13]) ⟨Or.inl rfl, Or.inl rfl, Or.inl rfl, Or.inl rfl, Or.inl rfl, Or.inl rfl, trivial⟩ (ih q3.2 q3.1 x13 h k0)
      rcases am_ifE h5 with ⟨c6, h5⟩ | ⟨c6, h5⟩
      · refine x_ifleT r200_23 c6 ?_
        cases h5
        exact kj4
      · refine x_ifleF r200_23 c6 rfl ?_
        refine x_ld (v := .ref 93) r200_26 rfl rfl rfl ?_
        refine x_ld (v := .int v1) r200_27 rfl rfl rfl ?_
        refine x_ld (v := .int v5) r200_28 rfl rfl rfl ?_
        obtain ⟨q7, h8, h5⟩ := Option.bind_eq_some_iff.mp h5
        refine x_call1 (as := [.ref 93, .int v1, .int v5]) (rest := []) r200_30 rfl rfl rfl (by decide) (Nat.le_of_ble_eq_true rfl) (m199_ok h8) (Nat.le_trans (by decide) hd) (Nat.zero_le _) (Nat.zero_le _) rfl ?_
        refine x_ld (v := .long v2) r200_33 rfl rfl rfl ?_
        refine x_ar r200_34 rfl trivial rfl ?_
        rcases am_ifE h5 with ⟨c9, h5⟩ | ⟨c9, h5⟩
        · refine x_ifneT r200_35 c9 rfl ?_
          refine x_ld (v := .int v4) r200_38 rfl rfl rfl ?_
          refine x_ld (v := .ref 93) r200_40 rfl rfl rfl ?_
          refine y_gf (cd := 98) (v := .ref 96) r200_41 rfl rfl rfl ?_
          refine x_ld (v := .int v5) r200_44 rfl rfl rfl ?_
          obtain ⟨g10, h5⟩ := am_gdE h5
          refine y_ial (n := 8) r200_46 rfl (by decide) g10 rfl rfl ?_
          refine x_ar r200_47 rfl trivial rfl ?_
          obtain ⟨x11, e12, h5⟩ := am_ltE h5
          refine am_topI e12 ?_
          refine x_sto (lc' := [.ref 93, .int v1, .long v2, am_dead, .int x11, .int v5]) r200_48 rfl rfl rfl rfl ?_
          cases h5
          exact kj4
        · refine x_ifneF r200_35 c9 ?_
          cases h5
          exact kj4
theorem m200_w {d mc ms : Nat} {N : Nat} {D : am_D} {v1 : Int32} {v2 : Int64} {Q : am_O → am_AH → Prop} (hd : 5 ≤ d) {r : Int32 × am_D} (h : m200 N D v1 v2 = some r) (hQ : Q (.inl (some (.int r.1))) (am_mk r.2)) : am_X xs L 200 d mc ms 0 [.ref 93, .int v1, .long v2, am_dead, am_dead, am_dead] [] (am_mk D) 0 0 Q := by
  unfold m200 at h
  refine x_ic (v := 0) r200_0 rfl rfl ?_
  refine x_sto (lc' := [.ref 93, .int v1, .long v2, am_dead, .int (0 : Int32), am_dead]) r200_1 rfl rfl rfl rfl ?_
  refine x_ic (v := 1) r200_3 rfl rfl ?_
  refine x_sto (lc' := [.ref 93, .int v1, .long v2, am_dead, .int (0 : Int32), .int (1 : Int32)]) r200_4 rfl rfl rfl rfl ?_
  obtain ⟨q15, h16, h⟩ := Option.bind_eq_some_iff.mp h
  refine x_forget (lc0 := [.ref 93, .int v1, .long v2, am_dead, .int (0 : Int32), .int (1 : Int32)]) ⟨Or.inl rfl, Or.inl rfl, Or.inl rfl, Or.inl rfl, Or.inl rfl, Or.inl rfl, trivial⟩ (m200_L6_w hd N D (0 : Int32) (1 : Int32) h16 ?_)
  refine x_ld (v := .int q15.1) r200_56 rfl rfl rfl ?_
  cases h
  exact x_ret (ret := some .int) (C := True) (v := some (.int _)) r200_58 rt200 rfl rfl rfl rfl rfl rfl rfl rfl trivial hQ
theorem m200_ok {N : Nat} {D : am_D} {v1 : Int32} {v2 : Int64} {r : Int32 × am_D} (h : m200 N D v1 v2 = some r) : am_Y xs L 200 5 0 0 [.ref 93, .int v1, .long v2] D (.inl (some (.int r.1))) r.2 := am_Yof (mi := am_m200) (lc := [.ref 93, .int v1, .long v2, am_dead, am_dead, am_dead]) pg200 (Nat.le_of_ble_eq_true rfl) (am_rc1 (ci := 3) rfl rfl rfl rfl rfl) rfl (fun Q hQ => m200_w (Nat.le_refl _) h hQ)
theorem r222_0 : am_at 222 0 = some (.aload_n 0, 1, [0]) := by decide +kernel
theorem r222_1 : am_at 222 1 = some (.getfield 12, 3, [4, 0, 3, 160]) := by decide +kernel
theorem r222_4 : am_at 222 4 = some (.iload_n 2, 1, [2]) := by decide +kernel
theorem r222_5 : am_at 222 5 = some (.iload_n 3, 1, [3]) := by decide +kernel
theorem r222_6 : am_at 222 6 = some (.invokevirtual 149, 3, [161, 3, 914, 0]) := by decide +kernel
theorem r222_9 : am_at 222 9 = some (.invokestatic 152, 3, [256, 1, 927, 0]) := by decide +kernel
theorem r222_12 : am_at 222 12 = some (.istore 4, 2, [4]) := by decide +kernel
theorem r222_14 : am_at 222 14 = some (.aload_n 0, 1, [0]) := by decide +kernel
theorem r222_15 : am_at 222 15 = some (.iload_n 1, 1, [1]) := by decide +kernel
theorem r222_16 : am_at 222 16 = some (.invokevirtual 103, 3, [204, 2, 395, 0]) := by decide +kernel
theorem r222_19 : am_at 222 19 = some (.iconst (1), 1, []) := by decide +kernel
theorem r222_20 : am_at 222 20 = some (.if_icmp .ne (20), 3, [40]) := by decide +kernel
theorem r222_23 : am_at 222 23 = some (.iload 4, 2, [4]) := by decide +kernel
theorem r222_25 : am_at 222 25 = some (.aload_n 0, 1, [0]) := by decide +kernel
theorem r222_26 : am_at 222 26 = some (.invokevirtual 155, 3, [211, 1, 928, 0]) := by decide +kernel
theorem r222_29 : am_at 222 29 = some (.aload_n 0, 1, [0]) := by decide +kernel
theorem r222_30 : am_at 222 30 = some (.iload_n 1, 1, [1]) := by decide +kernel
theorem r222_31 : am_at 222 31 = some (.invokevirtual 106, 3, [205, 2, 403, 0]) := by decide +kernel
theorem r222_34 : am_at 222 34 = some (.isub, 1, []) := by decide +kernel
theorem r222_35 : am_at 222 35 = some (.iconst (5), 1, []) := by decide +kernel
theorem r222_36 : am_at 222 36 = some (.idiv, 1, []) := by decide +kernel
theorem r222_37 : am_at 222 37 = some (.iadd, 1, []) := by decide +kernel
theorem r222_38 : am_at 222 38 = some (.istore 4, 2, [4]) := by decide +kernel
theorem r222_40 : am_at 222 40 = some (.iload 4, 2, [4]) := by decide +kernel
theorem r222_42 : am_at 222 42 = some (.ireturn, 1, []) := by decide +kernel
theorem rt222 : am_rtt 222 = some (some .int) := by decide +kernel
set_option maxRecDepth 100000 in
theorem pg222 : am_pg[222]? = some am_m222 := rfl
theorem m222_w {d mc ms : Nat} {N : Nat} {D : am_D} {v1 : Int32} {v2 : Int32} {v3 : Int32} {Q : am_O → am_AH → Prop} (hd : 5 ≤ d) {r : Int32} (h : m222 N D v1 v2 v3 = some r) (hQ : Q (.inl (some (.int r))) (am_mk D)) : am_X xs L 222 d mc ms 0 [.ref 1, .int v1, .int v2, .int v3, am_dead] [] (am_mk D) 0 0 Q := by
  unfold m222 at h
  refine x_ld (v := .ref 1) r222_0 rfl rfl rfl ?_
  refine y_gf (cd := 4) (v := .ref 2) r222_1 rfl rfl rfl ?_
  refine x_ld (v := .int v2) r222_4 rfl rfl rfl ?_
  refine x_ld (v := .int v3) r222_5 rfl rfl rfl ?_
  refine x_call1 (as := [.ref 2, .int v2, .int v3]) (rest := []) r222_6 rfl rfl rfl (by decide) (Nat.le_of_ble_eq_true rfl) (m161_ok rfl) (Nat.le_trans (by decide) hd) (Nat.zero_le _) (Nat.zero_le _) rfl ?_
  refine x_call1 (as := [.int (m161 D v2 v3)]) (rest := []) r222_9 rfl rfl rfl (by decide) (Nat.le_of_ble_eq_true rfl) (m256_ok rfl) (Nat.le_trans (by decide) hd) (Nat.zero_le _) (Nat.zero_le _) rfl ?_
  obtain ⟨x1, e2, h⟩ := am_ltE h
  refine am_topI e2 ?_
  refine x_sto (lc' := [.ref 1, .int v1, .int v2, .int v3, .int x1]) r222_12 rfl rfl rfl rfl ?_
  refine x_ld (v := .ref 1) r222_14 rfl rfl rfl ?_
  refine x_ld (v := .int v1) r222_15 rfl rfl rfl ?_
  obtain ⟨q3, h4, h⟩ := Option.bind_eq_some_iff.mp h
  refine x_call1 (as := [.ref 1, .int v1]) (rest := []) r222_16 rfl rfl rfl (by decide) (Nat.le_of_ble_eq_true rfl) (m204_ok h4) (Nat.le_trans (by decide) hd) (Nat.zero_le _) (Nat.zero_le _) rfl ?_
  refine x_ic (v := 1) r222_19 rfl rfl ?_
  rcases am_ifE h with ⟨c5, h⟩ | ⟨c5, h⟩
  · refine x_icneT r222_20 c5 rfl ?_
    refine x_ld (v := .int x1) r222_23 rfl rfl rfl ?_
    refine x_ld (v := .ref 1) r222_25 rfl rfl rfl ?_
    obtain ⟨q6, h7, h⟩ := Option.bind_eq_some_iff.mp h
    refine x_call1 (as := [.ref 1]) (rest := [.int x1]) r222_26 rfl rfl rfl (by decide) (Nat.le_of_ble_eq_true rfl) (m211_ok h7) (Nat.le_trans (by decide) hd) (Nat.zero_le _) (Nat.zero_le _) rfl ?_
    refine x_ld (v := .ref 1) r222_29 rfl rfl rfl ?_
    refine x_ld (v := .int v1) r222_30 rfl rfl rfl ?_
    obtain ⟨q8, h9, h⟩ := Option.bind_eq_some_iff.mp h
    refine x_call1 (as := [.ref 1, .int v1]) (rest := [.int q6, .int x1]) r222_31 rfl rfl rfl (by decide) (Nat.le_of_ble_eq_true rfl) (m205_ok h9) (Nat.le_trans (by decide) hd) (Nat.zero_le _) (Nat.zero_le _) rfl ?_
    refine x_ar r222_34 rfl trivial rfl ?_
    refine x_ic (v := 5) r222_35 rfl rfl ?_
    refine x_ar r222_36 rfl (by decide) rfl ?_
    refine x_ar r222_37 rfl trivial rfl ?_
    obtain ⟨x10, e11, h⟩ := am_ltE h
    refine am_topI e11 ?_
    refine x_sto (lc' := [.ref 1, .int v1, .int v2, .int v3, .int x10]) r222_38 rfl rfl rfl rfl ?_
    refine x_ld (v := .int x10) r222_40 rfl rfl rfl ?_
    cases h
    exact x_ret (ret := some .int) (C := True) (v := some (.int _)) r222_42 rt222 rfl rfl rfl rfl rfl rfl rfl rfl trivial hQ
  · refine x_icneF r222_20 c5 ?_
    refine x_ld (v := .int x1) r222_40 rfl rfl rfl ?_
    cases h
    exact x_ret (ret := some .int) (C := True) (v := some (.int _)) r222_42 rt222 rfl rfl rfl rfl rfl rfl rfl rfl trivial hQ
theorem m222_ok {N : Nat} {D : am_D} {v1 : Int32} {v2 : Int32} {v3 : Int32} {r : Int32} (h : m222 N D v1 v2 v3 = some r) : am_Y xs L 222 5 0 0 [.ref 1, .int v1, .int v2, .int v3] D (.inl (some (.int r))) D := am_Yof (mi := am_m222) (lc := [.ref 1, .int v1, .int v2, .int v3, am_dead]) pg222 (Nat.le_of_ble_eq_true rfl) (am_rc1 (ci := 4) rfl rfl rfl rfl rfl) rfl (fun Q hQ => m222_w (Nat.le_refl _) h hQ)
theorem r223_0 : am_at 223 0 = some (.aload_n 0, 1, [0]) := by decide +kernel
theorem r223_1 : am_at 223 1 = some (.iload_n 1, 1, [1]) := by decide +kernel
theorem r223_2 : am_at 223 2 = some (.iload_n 2, 1, [2]) := by decide +kernel
theorem r223_3 : am_at 223 3 = some (.iload_n 3, 1, [3]) := by decide +kernel
theorem r223_4 : am_at 223 4 = some (.invokevirtual 158, 3, [222, 4, 910, 0]) := by decide +kernel
theorem r223_7 : am_at 223 7 = some (.istore 4, 2, [4]) := by decide +kernel
theorem r223_9 : am_at 223 9 = some (.aload_n 0, 1, [0]) := by decide +kernel
theorem r223_10 : am_at 223 10 = some (.getfield 12, 3, [4, 0, 3, 160]) := by decide +kernel
theorem r223_13 : am_at 223 13 = some (.iload_n 2, 1, [2]) := by decide +kernel
theorem r223_14 : am_at 223 14 = some (.iload_n 3, 1, [3]) := by decide +kernel
theorem r223_15 : am_at 223 15 = some (.iload_n 1, 1, [1]) := by decide +kernel
theorem r223_16 : am_at 223 16 = some (.invokevirtual 162, 3, [164, 4, 929, 0]) := by decide +kernel
theorem r223_19 : am_at 223 19 = some (.aload_n 0, 1, [0]) := by decide +kernel
theorem r223_20 : am_at 223 20 = some (.getfield 18, 3, [4, 1, 3, 163]) := by decide +kernel
theorem r223_23 : am_at 223 23 = some (.iload_n 2, 1, [2]) := by decide +kernel
theorem r223_24 : am_at 223 24 = some (.iconst (4), 1, []) := by decide +kernel
theorem r223_25 : am_at 223 25 = some (.invokestatic 112, 3, [181, 3, 833, 0]) := by decide +kernel
theorem r223_28 : am_at 223 28 = some (.aload_n 0, 1, [0]) := by decide +kernel
theorem r223_29 : am_at 223 29 = some (.getfield 31, 3, [4, 5, 3, 171]) := by decide +kernel
theorem r223_32 : am_at 223 32 = some (.iload_n 1, 1, [1]) := by decide +kernel
theorem r223_33 : am_at 223 33 = some (.invokestatic 166, 3, [187, 1, 939, 0]) := by decide +kernel
theorem r223_36 : am_at 223 36 = some (.iload 4, 2, [4]) := by decide +kernel
theorem r223_38 : am_at 223 38 = some (.invokestatic 169, 3, [182, 3, 940, 0]) := by decide +kernel
theorem r223_41 : am_at 223 41 = some (.aload_n 0, 1, [0]) := by decide +kernel
theorem r223_42 : am_at 223 42 = some (.iload_n 1, 1, [1]) := by decide +kernel
theorem r223_43 : am_at 223 43 = some (.putfield 44, 3, [4, 9, 0, 180]) := by decide +kernel
theorem r223_46 : am_at 223 46 = some (.aload_n 0, 1, [0]) := by decide +kernel
theorem r223_47 : am_at 223 47 = some (.iconst (0), 1, []) := by decide +kernel
theorem r223_48 : am_at 223 48 = some (.putfield 60, 3, [4, 11, 0, 184]) := by decide +kernel
theorem r223_51 : am_at 223 51 = some (.aload_n 0, 1, [0]) := by decide +kernel
theorem r223_52 : am_at 223 52 = some (.dup, 1, []) := by decide +kernel
theorem r223_53 : am_at 223 53 = some (.getfield 66, 3, [4, 13, 0, 189]) := by decide +kernel
theorem r223_56 : am_at 223 56 = some (.iconst (1), 1, []) := by decide +kernel
theorem r223_57 : am_at 223 57 = some (.iadd, 1, []) := by decide +kernel
theorem r223_58 : am_at 223 58 = some (.putfield 66, 3, [4, 13, 0, 189]) := by decide +kernel
theorem r223_61 : am_at 223 61 = some (.aload_n 0, 1, [0]) := by decide +kernel
theorem r223_62 : am_at 223 62 = some (.iload_n 1, 1, [1]) := by decide +kernel
theorem r223_63 : am_at 223 63 = some (.invokevirtual 103, 3, [204, 2, 395, 0]) := by decide +kernel
theorem r223_66 : am_at 223 66 = some (.ifCond .ne (10), 3, [76]) := by decide +kernel
theorem r223_69 : am_at 223 69 = some (.aload_n 0, 1, [0]) := by decide +kernel
theorem r223_70 : am_at 223 70 = some (.invokevirtual 171, 3, [227, 1, 941, 0]) := by decide +kernel
theorem r223_73 : am_at 223 73 = some (.goto (11), 3, [84]) := by decide +kernel
theorem r223_76 : am_at 223 76 = some (.aload_n 0, 1, [0]) := by decide +kernel
theorem r223_77 : am_at 223 77 = some (.iload_n 1, 1, [1]) := by decide +kernel
theorem r223_78 : am_at 223 78 = some (.invokestatic 131, 3, [185, 1, 871, 0]) := by decide +kernel
theorem r223_81 : am_at 223 81 = some (.putfield 38, 3, [4, 7, 0, 175]) := by decide +kernel
theorem r223_84 : am_at 223 84 = some (.iload 4, 2, [4]) := by decide +kernel
theorem r223_86 : am_at 223 86 = some (.ireturn, 1, []) := by decide +kernel
theorem rt223 : am_rtt 223 = some (some .int) := by decide +kernel
set_option maxRecDepth 100000 in
theorem pg223 : am_pg[223]? = some am_m223 := rfl
theorem m223_w {d mc ms : Nat} {N : Nat} {D : am_D} {v1 : Int32} {v2 : Int32} {v3 : Int32} {Q : am_O → am_AH → Prop} (hd : 6 ≤ d) {r : Int32 × am_D} (h : m223 N D v1 v2 v3 = some r) (hQ : Q (.inl (some (.int r.1))) (am_mk r.2)) : am_X xs L 223 d mc ms 0 [.ref 1, .int v1, .int v2, .int v3, am_dead] [] (am_mk D) 0 0 Q := by
  unfold m223 at h
  refine x_ld (v := .ref 1) r223_0 rfl rfl rfl ?_
  refine x_ld (v := .int v1) r223_1 rfl rfl rfl ?_
  refine x_ld (v := .int v2) r223_2 rfl rfl rfl ?_
  refine x_ld (v := .int v3) r223_3 rfl rfl rfl ?_
  obtain ⟨q1, h2, h⟩ := Option.bind_eq_some_iff.mp h
  refine x_call1 (as := [.ref 1, .int v1, .int v2, .int v3]) (rest := []) r223_4 rfl rfl rfl (by decide) (Nat.le_of_ble_eq_true rfl) (m222_ok h2) (Nat.le_trans (by decide) hd) (Nat.zero_le _) (Nat.zero_le _) rfl ?_
  refine x_sto (lc' := [.ref 1, .int v1, .int v2, .int v3, .int q1]) r223_7 rfl rfl rfl rfl ?_
  refine x_ld (v := .ref 1) r223_9 rfl rfl rfl ?_
  refine y_gf (cd := 4) (v := .ref 2) r223_10 rfl rfl rfl ?_
  refine x_ld (v := .int v2) r223_13 rfl rfl rfl ?_
  refine x_ld (v := .int v3) r223_14 rfl rfl rfl ?_
  refine x_ld (v := .int v1) r223_15 rfl rfl rfl ?_
  obtain ⟨q3, h4, h⟩ := Option.bind_eq_some_iff.mp h
  refine x_call0 (as := [.ref 2, .int v2, .int v3, .int v1]) (rest := []) r223_16 rfl rfl rfl (by decide) (Nat.le_of_ble_eq_true rfl) (m164_ok h4) (Nat.le_trans (by decide) hd) (Nat.zero_le _) (Nat.zero_le _) rfl ?_
  refine x_ld (v := .ref 1) r223_19 rfl rfl rfl ?_
  refine y_gf (cd := 9) (v := .ref 7) r223_20 rfl rfl rfl ?_
  refine x_ld (v := .int v2) r223_23 rfl rfl rfl ?_
  refine x_ic (v := 4) r223_24 rfl rfl ?_
  obtain ⟨D5, e6, h⟩ := am_ltE h
  refine x_call0 (as := [.ref 7, .int v2, .int (4 : Int32)]) (rest := []) r223_25 rfl rfl rfl (by decide) (Nat.le_of_ble_eq_true rfl) (am_rows_put (n := 28) rfl (by decide) e6) (Nat.le_trans (by decide) hd) (Nat.zero_le _) (Nat.zero_le _) rfl ?_
  refine x_ld (v := .ref 1) r223_28 rfl rfl rfl ?_
  refine y_gf (cd := 13) (v := .ref 11) r223_29 rfl rfl rfl ?_
  refine x_ld (v := .int v1) r223_32 rfl rfl rfl ?_
  refine x_call1 (as := [.int v1]) (rest := [.ref 11]) r223_33 rfl rfl rfl (by decide) (Nat.le_of_ble_eq_true rfl) (m187_ok rfl) (Nat.le_trans (by decide) hd) (Nat.zero_le _) (Nat.zero_le _) rfl ?_
  refine x_ld (v := .int q1) r223_36 rfl rfl rfl ?_
  obtain ⟨D7, e8, h⟩ := am_ltE h
  refine x_call0 (as := [.ref 11, .int (m187 v1), .int q1]) (rest := []) r223_38 rfl rfl rfl (by decide) (Nat.le_of_ble_eq_true rfl) (am_rows_add (n := 2) rfl (by decide) e8) (Nat.le_trans (by decide) hd) (Nat.zero_le _) (Nat.zero_le _) rfl ?_
  refine x_ld (v := .ref 1) r223_41 rfl rfl rfl ?_
  refine x_ld (v := .int v1) r223_42 rfl rfl rfl ?_
  obtain ⟨D9, e10, h⟩ := am_ltE h
  refine y_pf0 r223_43 rfl e10 rfl ?_
  refine x_ld (v := .ref 1) r223_46 rfl rfl rfl ?_
  refine x_ic (v := 0) r223_47 rfl rfl ?_
  obtain ⟨D11, e12, h⟩ := am_ltE h
  refine y_pf0 r223_48 rfl e12 rfl ?_
  refine x_ld (v := .ref 1) r223_51 rfl rfl rfl ?_
  refine x_ar r223_52 rfl trivial rfl ?_
  refine y_gf (cd := 0) (v := .int (D11.1 1 13)) r223_53 rfl rfl rfl ?_
  refine x_ic (v := 1) r223_56 rfl rfl ?_
  refine x_ar r223_57 rfl trivial rfl ?_
  obtain ⟨D13, e14, h⟩ := am_ltE h
  refine y_pf0 r223_58 rfl e14 rfl ?_
  refine x_ld (v := .ref 1) r223_61 rfl rfl rfl ?_
  refine x_ld (v := .int v1) r223_62 rfl rfl rfl ?_
  obtain ⟨q15, h16, h⟩ := Option.bind_eq_some_iff.mp h
  refine x_call1 (as := [.ref 1, .int v1]) (rest := []) r223_63 rfl rfl rfl (by decide) (Nat.le_of_ble_eq_true rfl) (m204_ok h16) (Nat.le_trans (by decide) hd) (Nat.zero_le _) (Nat.zero_le _) rfl ?_
  rcases am_ifE h with ⟨c17, h⟩ | ⟨c17, h⟩
  · refine x_ifneT r223_66 c17 rfl ?_
    refine x_ld (v := .ref 1) r223_69 rfl rfl rfl ?_
    obtain ⟨q18, h19, h⟩ := am_ltE h
    replace h19 := h19.symm
    refine x_call0 (as := [.ref 1]) (rest := []) r223_70 rfl rfl rfl (by decide) (Nat.le_of_ble_eq_true rfl) (m227_ok h19) (Nat.le_trans (by decide) hd) (Nat.zero_le _) (Nat.zero_le _) rfl ?_
    refine x_goto r223_73 ?_
    refine x_ld (v := .int q1) r223_84 rfl rfl rfl ?_
    cases h
    exact x_ret (ret := some .int) (C := True) (v := some (.int _)) r223_86 rt223 rfl rfl rfl rfl rfl rfl rfl rfl trivial hQ
  · refine x_ifneF r223_66 c17 ?_
    refine x_ld (v := .ref 1) r223_76 rfl rfl rfl ?_
    refine x_ld (v := .int v1) r223_77 rfl rfl rfl ?_
    refine x_call1 (as := [.int v1]) (rest := [.ref 1]) r223_78 rfl rfl rfl (by decide) (Nat.le_of_ble_eq_true rfl) (m185_ok rfl) (Nat.le_trans (by decide) hd) (Nat.zero_le _) (Nat.zero_le _) rfl ?_
    obtain ⟨D20, e21, h⟩ := am_ltE h
    refine y_pf0 r223_81 rfl e21 rfl ?_
    refine x_ld (v := .int q1) r223_84 rfl rfl rfl ?_
    cases h
    exact x_ret (ret := some .int) (C := True) (v := some (.int _)) r223_86 rt223 rfl rfl rfl rfl rfl rfl rfl rfl trivial hQ
theorem m223_ok {N : Nat} {D : am_D} {v1 : Int32} {v2 : Int32} {v3 : Int32} {r : Int32 × am_D} (h : m223 N D v1 v2 v3 = some r) : am_Y xs L 223 6 0 0 [.ref 1, .int v1, .int v2, .int v3] D (.inl (some (.int r.1))) r.2 := am_Yof (mi := am_m223) (lc := [.ref 1, .int v1, .int v2, .int v3, am_dead]) pg223 (Nat.le_of_ble_eq_true rfl) (am_rc1 (ci := 4) rfl rfl rfl rfl rfl) rfl (fun Q hQ => m223_w (Nat.le_refl _) h hQ)
theorem r224_0 : am_at 224 0 = some (.aload_n 0, 1, [0]) := by decide +kernel
theorem r224_1 : am_at 224 1 = some (.getfield 22, 3, [4, 2, 3, 164]) := by decide +kernel
theorem r224_4 : am_at 224 4 = some (.iload_n 1, 1, [1]) := by decide +kernel
theorem r224_5 : am_at 224 5 = some (.invokestatic 75, 3, [180, 2, 557, 0]) := by decide +kernel
theorem r224_8 : am_at 224 8 = some (.ifCond .le (45), 3, [53]) := by decide +kernel
theorem r224_11 : am_at 224 11 = some (.aload_n 0, 1, [0]) := by decide +kernel
theorem r224_12 : am_at 224 12 = some (.getfield 12, 3, [4, 0, 3, 160]) := by decide +kernel
theorem r224_15 : am_at 224 15 = some (.iconst (0), 1, []) := by decide +kernel
theorem r224_16 : am_at 224 16 = some (.invokevirtual 174, 3, [156, 2, 957, 0]) := by decide +kernel
theorem r224_19 : am_at 224 19 = some (.invokestatic 177, 3, [225, 1, 958, 0]) := by decide +kernel
theorem r224_22 : am_at 224 22 = some (.aload_n 0, 1, [0]) := by decide +kernel
theorem r224_23 : am_at 224 23 = some (.getfield 12, 3, [4, 0, 3, 160]) := by decide +kernel
theorem r224_26 : am_at 224 26 = some (.iconst (1), 1, []) := by decide +kernel
theorem r224_27 : am_at 224 27 = some (.invokevirtual 174, 3, [156, 2, 957, 0]) := by decide +kernel
theorem r224_30 : am_at 224 30 = some (.invokestatic 177, 3, [225, 1, 958, 0]) := by decide +kernel
theorem r224_33 : am_at 224 33 = some (.ior, 1, []) := by decide +kernel
theorem r224_34 : am_at 224 34 = some (.istore_n 2, 1, [2]) := by decide +kernel
theorem r224_35 : am_at 224 35 = some (.aload_n 0, 1, [0]) := by decide +kernel
theorem r224_36 : am_at 224 36 = some (.getfield 25, 3, [4, 3, 3, 166]) := by decide +kernel
theorem r224_39 : am_at 224 39 = some (.iload_n 1, 1, [1]) := by decide +kernel
theorem r224_40 : am_at 224 40 = some (.aload_n 0, 1, [0]) := by decide +kernel
theorem r224_41 : am_at 224 41 = some (.getfield 25, 3, [4, 3, 3, 166]) := by decide +kernel
theorem r224_44 : am_at 224 44 = some (.iload_n 1, 1, [1]) := by decide +kernel
theorem r224_45 : am_at 224 45 = some (.invokestatic 75, 3, [180, 2, 557, 0]) := by decide +kernel
theorem r224_48 : am_at 224 48 = some (.iload_n 2, 1, [2]) := by decide +kernel
theorem r224_49 : am_at 224 49 = some (.ior, 1, []) := by decide +kernel
theorem r224_50 : am_at 224 50 = some (.invokestatic 112, 3, [181, 3, 833, 0]) := by decide +kernel
theorem r224_53 : am_at 224 53 = some (.aload_n 0, 1, [0]) := by decide +kernel
theorem r224_54 : am_at 224 54 = some (.getfield 28, 3, [4, 4, 3, 169]) := by decide +kernel
theorem r224_57 : am_at 224 57 = some (.iload_n 1, 1, [1]) := by decide +kernel
theorem r224_58 : am_at 224 58 = some (.iconst (1), 1, []) := by decide +kernel
theorem r224_59 : am_at 224 59 = some (.invokestatic 169, 3, [182, 3, 940, 0]) := by decide +kernel
theorem r224_62 : am_at 224 62 = some (.aload_n 0, 1, [0]) := by decide +kernel
theorem r224_63 : am_at 224 63 = some (.dup, 1, []) := by decide +kernel
theorem r224_64 : am_at 224 64 = some (.getfield 69, 3, [4, 14, 0, 191]) := by decide +kernel
theorem r224_67 : am_at 224 67 = some (.iconst (1), 1, []) := by decide +kernel
theorem r224_68 : am_at 224 68 = some (.iadd, 1, []) := by decide +kernel
theorem r224_69 : am_at 224 69 = some (.putfield 69, 3, [4, 14, 0, 191]) := by decide +kernel
theorem r224_72 : am_at 224 72 = some (.aload_n 0, 1, [0]) := by decide +kernel
theorem r224_73 : am_at 224 73 = some (.dup, 1, []) := by decide +kernel
theorem r224_74 : am_at 224 74 = some (.getfield 60, 3, [4, 11, 0, 184]) := by decide +kernel
theorem r224_77 : am_at 224 77 = some (.iconst (1), 1, []) := by decide +kernel
theorem r224_78 : am_at 224 78 = some (.iadd, 1, []) := by decide +kernel
theorem r224_79 : am_at 224 79 = some (.putfield 60, 3, [4, 11, 0, 184]) := by decide +kernel
theorem r224_82 : am_at 224 82 = some (.aload_n 0, 1, [0]) := by decide +kernel
theorem r224_83 : am_at 224 83 = some (.getfield 60, 3, [4, 11, 0, 184]) := by decide +kernel
theorem r224_86 : am_at 224 86 = some (.iconst (4), 1, []) := by decide +kernel
theorem r224_87 : am_at 224 87 = some (.if_icmp .lt (14), 3, [101]) := by decide +kernel
theorem r224_90 : am_at 224 90 = some (.aload_n 0, 1, [0]) := by decide +kernel
theorem r224_91 : am_at 224 91 = some (.invokevirtual 180, 3, [226, 1, 961, 0]) := by decide +kernel
theorem r224_94 : am_at 224 94 = some (.aload_n 0, 1, [0]) := by decide +kernel
theorem r224_95 : am_at 224 95 = some (.invokevirtual 171, 3, [227, 1, 941, 0]) := by decide +kernel
theorem r224_98 : am_at 224 98 = some (.goto (11), 3, [109]) := by decide +kernel
theorem r224_101 : am_at 224 101 = some (.aload_n 0, 1, [0]) := by decide +kernel
theorem r224_102 : am_at 224 102 = some (.iload_n 1, 1, [1]) := by decide +kernel
theorem r224_103 : am_at 224 103 = some (.invokestatic 131, 3, [185, 1, 871, 0]) := by decide +kernel
theorem r224_106 : am_at 224 106 = some (.putfield 38, 3, [4, 7, 0, 175]) := by decide +kernel
theorem r224_109 : am_at 224 109 = some (.aload_n 0, 1, [0]) := by decide +kernel
theorem r224_110 : am_at 224 110 = some (.getfield 60, 3, [4, 11, 0, 184]) := by decide +kernel
theorem r224_113 : am_at 224 113 = some (.ireturn, 1, []) := by decide +kernel
theorem rt224 : am_rtt 224 = some (some .int) := by decide +kernel
set_option maxRecDepth 100000 in
theorem pg224 : am_pg[224]? = some am_m224 := rfl
theorem m224_w {d mc ms : Nat} {N : Nat} {D : am_D} {v1 : Int32} {Q : am_O → am_AH → Prop} (hd : 4 ≤ d) {r : Int32 × am_D} (h : m224 N D v1 = some r) (hQ : Q (.inl (some (.int r.1))) (am_mk r.2)) : am_X xs L 224 d mc ms 0 [.ref 1, .int v1, am_dead] [] (am_mk D) 0 0 Q := by
  unfold m224 at h
  refine x_ld (v := .ref 1) r224_0 rfl rfl rfl ?_
  refine y_gf (cd := 10) (v := .ref 8) r224_1 rfl rfl rfl ?_
  refine x_ld (v := .int v1) r224_4 rfl rfl rfl ?_
  refine x_call1 (as := [.ref 8, .int v1]) (rest := []) r224_5 rfl rfl rfl (by decide) (Nat.le_of_ble_eq_true rfl) (am_rows_at (n := 4) rfl (by decide)) (Nat.le_trans (by decide) hd) (Nat.zero_le _) (Nat.zero_le _) rfl ?_
  obtain ⟨q1, h3, h⟩ := am_ltE h
  replace h3 := h3.symm
  have kj2 : am_X xs L 224 d mc ms 53 [.ref 1, .int v1, am_dead] [] (am_mk q1) 0 0 Q := by
    refine x_ld (v := .ref 1) r224_53 rfl rfl rfl ?_
    refine y_gf (cd := 12) (v := .ref 10) r224_54 rfl rfl rfl ?_
    refine x_ld (v := .int v1) r224_57 rfl rfl rfl ?_
    refine x_ic (v := 1) r224_58 rfl rfl ?_
    obtain ⟨D9, e10, h⟩ := am_ltE h
    refine x_call0 (as := [.ref 10, .int v1, .int (1 : Int32)]) (rest := []) r224_59 rfl rfl rfl (by decide) (Nat.le_of_ble_eq_true rfl) (am_rows_add (n := 4) rfl (by decide) e10) (Nat.le_trans (by decide) hd) (Nat.zero_le _) (Nat.zero_le _) rfl ?_
    refine x_ld (v := .ref 1) r224_62 rfl rfl rfl ?_
    refine x_ar r224_63 rfl trivial rfl ?_
    refine y_gf (cd := 0) (v := .int (D9.1 1 14)) r224_64 rfl rfl rfl ?_
    refine x_ic (v := 1) r224_67 rfl rfl ?_
    refine x_ar r224_68 rfl trivial rfl ?_
    obtain ⟨D11, e12, h⟩ := am_ltE h
    refine y_pf0 r224_69 rfl e12 rfl ?_
    refine x_ld (v := .ref 1) r224_72 rfl rfl rfl ?_
    refine x_ar r224_73 rfl trivial rfl ?_
    refine y_gf (cd := 0) (v := .int (D11.1 1 11)) r224_74 rfl rfl rfl ?_
    refine x_ic (v := 1) r224_77 rfl rfl ?_
    refine x_ar r224_78 rfl trivial rfl ?_
    obtain ⟨D13, e14, h⟩ := am_ltE h
    refine y_pf0 r224_79 rfl e14 rfl ?_
    refine x_ld (v := .ref 1) r224_82 rfl rfl rfl ?_
    refine y_gf (cd := 0) (v := .int (D13.1 1 11)) r224_83 rfl rfl rfl ?_
    refine x_ic (v := 4) r224_86 rfl rfl ?_
    rcases am_ifE h with ⟨c15, h⟩ | ⟨c15, h⟩
    · refine x_icltT r224_87 c15 ?_
      refine x_ld (v := .ref 1) r224_101 rfl rfl rfl ?_
      refine x_ld (v := .int v1) r224_102 rfl rfl rfl ?_
      refine x_call1 (as := [.int v1]) (rest := [.ref 1]) r224_103 rfl rfl rfl (by decide) (Nat.le_of_ble_eq_true rfl) (m185_ok rfl) (Nat.le_trans (by decide) hd) (Nat.zero_le _) (Nat.zero_le _) rfl ?_
      obtain ⟨D16, e17, h⟩ := am_ltE h
      refine y_pf0 r224_106 rfl e17 rfl ?_
      refine x_ld (v := .ref 1) r224_109 rfl rfl rfl ?_
      refine y_gf (cd := 0) (v := .int (D16.1 1 11)) r224_110 rfl rfl rfl ?_
      cases h
      exact x_ret (ret := some .int) (C := True) (v := some (.int _)) r224_113 rt224 rfl rfl rfl rfl rfl rfl rfl rfl trivial hQ
    · refine x_icltF r224_87 c15 rfl ?_
      refine x_ld (v := .ref 1) r224_90 rfl rfl rfl ?_
      obtain ⟨q18, h19, h⟩ := Option.bind_eq_some_iff.mp h
      refine x_call0 (as := [.ref 1]) (rest := []) r224_91 rfl rfl rfl (by decide) (Nat.le_of_ble_eq_true rfl) (m226_ok h19) (Nat.le_trans (by decide) hd) (Nat.zero_le _) (Nat.zero_le _) rfl ?_
      refine x_ld (v := .ref 1) r224_94 rfl rfl rfl ?_
      obtain ⟨q20, h21, h⟩ := am_ltE h
      replace h21 := h21.symm
      refine x_call0 (as := [.ref 1]) (rest := []) r224_95 rfl rfl rfl (by decide) (Nat.le_of_ble_eq_true rfl) (m227_ok h21) (Nat.le_trans (by decide) hd) (Nat.zero_le _) (Nat.zero_le _) rfl ?_
      refine x_goto r224_98 ?_
      refine x_ld (v := .ref 1) r224_109 rfl rfl rfl ?_
      refine y_gf (cd := 0) (v := .int (q20.1 1 11)) r224_110 rfl rfl rfl ?_
      cases h
      exact x_ret (ret := some .int) (C := True) (v := some (.int _)) r224_113 rt224 rfl rfl rfl rfl rfl rfl rfl rfl trivial hQ
  rcases am_ifE h3 with ⟨c4, h3⟩ | ⟨c4, h3⟩
  · refine x_ifleT r224_8 c4 ?_
    subst h3
    exact kj2
  · refine x_ifleF r224_8 c4 rfl ?_
    refine x_ld (v := .ref 1) r224_11 rfl rfl rfl ?_
    refine y_gf (cd := 4) (v := .ref 2) r224_12 rfl rfl rfl ?_
    refine x_ic (v := 0) r224_15 rfl rfl ?_
    refine x_call1 (as := [.ref 2, .int (0 : Int32)]) (rest := []) r224_16 rfl rfl rfl (by decide) (Nat.le_of_ble_eq_true rfl) (m156_ok rfl) (Nat.le_trans (by decide) hd) (Nat.zero_le _) (Nat.zero_le _) rfl ?_
    refine x_call1 (as := [.int (m156 D (0 : Int32))]) (rest := []) r224_19 rfl rfl rfl (by decide) (Nat.le_of_ble_eq_true rfl) (m225_ok rfl) (Nat.le_trans (by decide) hd) (Nat.zero_le _) (Nat.zero_le _) rfl ?_
    refine x_ld (v := .ref 1) r224_22 rfl rfl rfl ?_
    refine y_gf (cd := 4) (v := .ref 2) r224_23 rfl rfl rfl ?_
    refine x_ic (v := 1) r224_26 rfl rfl ?_
    refine x_call1 (as := [.ref 2, .int (1 : Int32)]) (rest := [.int (m225 (m156 D (0 : Int32)))]) r224_27 rfl rfl rfl (by decide) (Nat.le_of_ble_eq_true rfl) (m156_ok rfl) (Nat.le_trans (by decide) hd) (Nat.zero_le _) (Nat.zero_le _) rfl ?_
    refine x_call1 (as := [.int (m156 D (1 : Int32))]) (rest := [.int (m225 (m156 D (0 : Int32)))]) r224_30 rfl rfl rfl (by decide) (Nat.le_of_ble_eq_true rfl) (m225_ok rfl) (Nat.le_trans (by decide) hd) (Nat.zero_le _) (Nat.zero_le _) rfl ?_
    refine x_ar r224_33 rfl trivial rfl ?_
    obtain ⟨x5, e6, h3⟩ := am_ltE h3
    refine am_topI e6 ?_
    refine x_sto (lc' := [.ref 1, .int v1, .int x5]) r224_34 rfl rfl rfl rfl ?_
    refine x_ld (v := .ref 1) r224_35 rfl rfl rfl ?_
    refine y_gf (cd := 11) (v := .ref 9) r224_36 rfl rfl rfl ?_
    refine x_ld (v := .int v1) r224_39 rfl rfl rfl ?_
    refine x_ld (v := .ref 1) r224_40 rfl rfl rfl ?_
    refine y_gf (cd := 11) (v := .ref 9) r224_41 rfl rfl rfl ?_
    refine x_ld (v := .int v1) r224_44 rfl rfl rfl ?_
    refine x_call1 (as := [.ref 9, .int v1]) (rest := [.int v1, .ref 9]) r224_45 rfl rfl rfl (by decide) (Nat.le_of_ble_eq_true rfl) (am_rows_at (n := 4) rfl (by decide)) (Nat.le_trans (by decide) hd) (Nat.zero_le _) (Nat.zero_le _) rfl ?_
    refine x_ld (v := .int x5) r224_48 rfl rfl rfl ?_
    refine x_ar r224_49 rfl trivial rfl ?_
    obtain ⟨D7, e8, h3⟩ := am_ltE h3
    refine x_call0 (as := [.ref 9, .int v1, .int ((am_rat (D.1 9) 4 v1) ||| x5)]) (rest := []) r224_50 rfl rfl rfl (by decide) (Nat.le_of_ble_eq_true rfl) (am_rows_put (n := 4) rfl (by decide) e8) (Nat.le_trans (by decide) hd) (Nat.zero_le _) (Nat.zero_le _) rfl ?_
    refine x_forget (lc0 := [.ref 1, .int v1, am_dead]) ⟨Or.inl rfl, Or.inl rfl, Or.inr ⟨rfl, rfl⟩, trivial⟩ ?_
    subst h3
    exact kj2
theorem m224_ok {N : Nat} {D : am_D} {v1 : Int32} {r : Int32 × am_D} (h : m224 N D v1 = some r) : am_Y xs L 224 4 0 0 [.ref 1, .int v1] D (.inl (some (.int r.1))) r.2 := am_Yof (mi := am_m224) (lc := [.ref 1, .int v1, am_dead]) pg224 (Nat.le_of_ble_eq_true rfl) (am_rc1 (ci := 4) rfl rfl rfl rfl rfl) rfl (fun Q hQ => m224_w (Nat.le_refl _) h hQ)
theorem r243_0 : am_at 243 0 = some (.iload_n 0, 1, [0]) := by decide +kernel
theorem r243_1 : am_at 243 1 = some (.bipush (10), 2, []) := by decide +kernel
theorem r243_3 : am_at 243 3 = some (.if_icmp .lt (17), 3, [20]) := by decide +kernel
theorem r243_6 : am_at 243 6 = some (.iload_n 0, 1, [0]) := by decide +kernel
theorem r243_7 : am_at 243 7 = some (.iload_n 1, 1, [1]) := by decide +kernel
theorem r243_8 : am_at 243 8 = some (.invokestatic 56, 3, [247, 2, 1039, 0]) := by decide +kernel
theorem r243_11 : am_at 243 11 = some (.ifCond .eq (7), 3, [18]) := by decide +kernel
theorem r243_14 : am_at 243 14 = some (.iconst (3), 1, []) := by decide +kernel
theorem r243_15 : am_at 243 15 = some (.goto (4), 3, [19]) := by decide +kernel
theorem r243_18 : am_at 243 18 = some (.iconst (-1), 1, []) := by decide +kernel
theorem r243_19 : am_at 243 19 = some (.ireturn, 1, []) := by decide +kernel
theorem r243_20 : am_at 243 20 = some (.iload_n 0, 1, [0]) := by decide +kernel
theorem r243_21 : am_at 243 21 = some (.tableswitch (144) (0) (6) #[43, 48, 60, 65, 83, 101, 119], 43, [165, 0, 64, 1, 69, 2, 81, 3, 86, 4, 104, 5, 122, 6, 140]) := by decide +kernel
theorem r243_64 : am_at 243 64 = some (.iload_n 1, 1, [1]) := by decide +kernel
theorem r243_65 : am_at 243 65 = some (.invokestatic 60, 3, [244, 1, 1045, 0]) := by decide +kernel
theorem r243_68 : am_at 243 68 = some (.ireturn, 1, []) := by decide +kernel
theorem r243_69 : am_at 243 69 = some (.iload_n 1, 1, [1]) := by decide +kernel
theorem r243_70 : am_at 243 70 = some (.bipush (59), 2, []) := by decide +kernel
theorem r243_72 : am_at 243 72 = some (.if_icmp .ne (7), 3, [79]) := by decide +kernel
theorem r243_75 : am_at 243 75 = some (.iconst (0), 1, []) := by decide +kernel
theorem r243_76 : am_at 243 76 = some (.goto (4), 3, [80]) := by decide +kernel
theorem r243_79 : am_at 243 79 = some (.iconst (-1), 1, []) := by decide +kernel
theorem r243_80 : am_at 243 80 = some (.ireturn, 1, []) := by decide +kernel
theorem r243_81 : am_at 243 81 = some (.iload_n 1, 1, [1]) := by decide +kernel
theorem r243_82 : am_at 243 82 = some (.invokestatic 63, 3, [246, 1, 1048, 0]) := by decide +kernel
theorem r243_85 : am_at 243 85 = some (.ireturn, 1, []) := by decide +kernel
theorem r243_86 : am_at 243 86 = some (.iload_n 1, 1, [1]) := by decide +kernel
theorem r243_87 : am_at 243 87 = some (.bipush (60), 2, []) := by decide +kernel
theorem r243_89 : am_at 243 89 = some (.if_icmp .eq (9), 3, [98]) := by decide +kernel
theorem r243_92 : am_at 243 92 = some (.iload_n 1, 1, [1]) := by decide +kernel
theorem r243_93 : am_at 243 93 = some (.bipush (62), 2, []) := by decide +kernel
theorem r243_95 : am_at 243 95 = some (.if_icmp .ne (7), 3, [102]) := by decide +kernel
theorem r243_98 : am_at 243 98 = some (.iconst (1), 1, []) := by decide +kernel
theorem r243_99 : am_at 243 99 = some (.goto (4), 3, [103]) := by decide +kernel
theorem r243_102 : am_at 243 102 = some (.iconst (-1), 1, []) := by decide +kernel
theorem r243_103 : am_at 243 103 = some (.ireturn, 1, []) := by decide +kernel
theorem r243_104 : am_at 243 104 = some (.iload_n 1, 1, [1]) := by decide +kernel
theorem r243_105 : am_at 243 105 = some (.bipush (43), 2, []) := by decide +kernel
theorem r243_107 : am_at 243 107 = some (.if_icmp .eq (9), 3, [116]) := by decide +kernel
theorem r243_110 : am_at 243 110 = some (.iload_n 1, 1, [1]) := by decide +kernel
theorem r243_111 : am_at 243 111 = some (.bipush (45), 2, []) := by decide +kernel
theorem r243_113 : am_at 243 113 = some (.if_icmp .ne (7), 3, [120]) := by decide +kernel
theorem r243_116 : am_at 243 116 = some (.iconst (1), 1, []) := by decide +kernel
theorem r243_117 : am_at 243 117 = some (.goto (4), 3, [121]) := by decide +kernel
theorem r243_120 : am_at 243 120 = some (.iconst (-1), 1, []) := by decide +kernel
theorem r243_121 : am_at 243 121 = some (.ireturn, 1, []) := by decide +kernel
theorem r243_122 : am_at 243 122 = some (.iload_n 1, 1, [1]) := by decide +kernel
theorem r243_123 : am_at 243 123 = some (.bipush (49), 2, []) := by decide +kernel
theorem r243_125 : am_at 243 125 = some (.bipush (57), 2, []) := by decide +kernel
theorem r243_127 : am_at 243 127 = some (.invokestatic 42, 3, [248, 3, 1042, 0]) := by decide +kernel
theorem r243_130 : am_at 243 130 = some (.ifCond .eq (8), 3, [138]) := by decide +kernel
theorem r243_133 : am_at 243 133 = some (.bipush (6), 2, []) := by decide +kernel
theorem r243_135 : am_at 243 135 = some (.goto (4), 3, [139]) := by decide +kernel
theorem r243_138 : am_at 243 138 = some (.iconst (-1), 1, []) := by decide +kernel
theorem r243_139 : am_at 243 139 = some (.ireturn, 1, []) := by decide +kernel
theorem r243_140 : am_at 243 140 = some (.iload_n 1, 1, [1]) := by decide +kernel
theorem r243_141 : am_at 243 141 = some (.bipush (48), 2, []) := by decide +kernel
theorem r243_143 : am_at 243 143 = some (.bipush (57), 2, []) := by decide +kernel
theorem r243_145 : am_at 243 145 = some (.invokestatic 42, 3, [248, 3, 1042, 0]) := by decide +kernel
theorem r243_148 : am_at 243 148 = some (.ifCond .eq (5), 3, [153]) := by decide +kernel
theorem r243_151 : am_at 243 151 = some (.iconst (1), 1, []) := by decide +kernel
theorem r243_152 : am_at 243 152 = some (.ireturn, 1, []) := by decide +kernel
theorem r243_153 : am_at 243 153 = some (.iload_n 1, 1, [1]) := by decide +kernel
theorem r243_154 : am_at 243 154 = some (.bipush (59), 2, []) := by decide +kernel
theorem r243_156 : am_at 243 156 = some (.if_icmp .ne (7), 3, [163]) := by decide +kernel
theorem r243_159 : am_at 243 159 = some (.iconst (0), 1, []) := by decide +kernel
theorem r243_160 : am_at 243 160 = some (.goto (4), 3, [164]) := by decide +kernel
theorem r243_163 : am_at 243 163 = some (.iconst (-1), 1, []) := by decide +kernel
theorem r243_164 : am_at 243 164 = some (.ireturn, 1, []) := by decide +kernel
theorem r243_165 : am_at 243 165 = some (.iconst (-1), 1, []) := by decide +kernel
theorem r243_166 : am_at 243 166 = some (.ireturn, 1, []) := by decide +kernel
theorem rt243 : am_rtt 243 = some (some .int) := by decide +kernel
set_option maxRecDepth 100000 in
theorem pg243 : am_pg[243]? = some am_m243 := rfl
theorem m243_w {d mc ms : Nat} {D : am_D} {v0 : Int32} {v1 : Int32} {Q : am_O → am_AH → Prop} (hd : 3 ≤ d) {r : Int32} (h : m243 v0 v1 = r) (hQ : Q (.inl (some (.int r))) (am_mk D)) : am_X xs L 243 d mc ms 0 [.int v0, .int v1] [] (am_mk D) 0 0 Q := by
  unfold m243 at h
  refine x_ld (v := .int v0) r243_0 rfl rfl rfl ?_
  refine x_bi (v := 10) r243_1 rfl rfl ?_
  rcases am_ifE h with ⟨c1, h⟩ | ⟨c1, h⟩
  · refine x_icltT r243_3 c1 ?_
    refine x_ld (v := .int v0) r243_20 rfl rfl rfl ?_
    rcases am_ifE h with ⟨c2, h⟩ | ⟨c2, h⟩
    · refine x_tsw (p' := 64) r243_21 (am_swT c2) ?_
      refine x_ld (v := .int v1) r243_64 rfl rfl rfl ?_
      refine x_call1 (as := [.int v1]) (rest := []) r243_65 rfl rfl rfl (by decide) (Nat.le_of_ble_eq_true rfl) (m244_ok rfl) (Nat.le_trans (by decide) hd) (Nat.zero_le _) (Nat.zero_le _) rfl ?_
      subst h
      exact x_ret (ret := some .int) (C := True) (v := some (.int _)) r243_68 rt243 rfl rfl rfl rfl rfl rfl rfl rfl trivial hQ
    · rcases am_ifE h with ⟨c3, h⟩ | ⟨c3, h⟩
      · refine x_tsw (p' := 69) r243_21 (am_swF c2 (am_swT c3)) ?_
        refine x_ld (v := .int v1) r243_69 rfl rfl rfl ?_
        refine x_bi (v := 59) r243_70 rfl rfl ?_
        rcases am_ifE h with ⟨c4, h⟩ | ⟨c4, h⟩
        · refine x_icneT r243_72 c4 rfl ?_
          refine x_ic (v := 0) r243_75 rfl rfl ?_
          refine x_goto r243_76 ?_
          subst h
          exact x_ret (ret := some .int) (C := True) (v := some (.int _)) r243_80 rt243 rfl rfl rfl rfl rfl rfl rfl rfl trivial hQ
        · refine x_icneF r243_72 c4 ?_
          refine x_ic (v := -1) r243_79 rfl rfl ?_
          subst h
          exact x_ret (ret := some .int) (C := True) (v := some (.int _)) r243_80 rt243 rfl rfl rfl rfl rfl rfl rfl rfl trivial hQ
      · rcases am_ifE h with ⟨c5, h⟩ | ⟨c5, h⟩
        · refine x_tsw (p' := 81) r243_21 (am_swF c2 (am_swF c3 (am_swT c5))) ?_
          refine x_ld (v := .int v1) r243_81 rfl rfl rfl ?_
          refine x_call1 (as := [.int v1]) (rest := []) r243_82 rfl rfl rfl (by decide) (Nat.le_of_ble_eq_true rfl) (m246_ok rfl) (Nat.le_trans (by decide) hd) (Nat.zero_le _) (Nat.zero_le _) rfl ?_
          subst h
          exact x_ret (ret := some .int) (C := True) (v := some (.int _)) r243_85 rt243 rfl rfl rfl rfl rfl rfl rfl rfl trivial hQ
        · rcases am_ifE h with ⟨c6, h⟩ | ⟨c6, h⟩
          · refine x_tsw (p' := 86) r243_21 (am_swF c2 (am_swF c3 (am_swF c5 (am_swT c6)))) ?_
            refine x_ld (v := .int v1) r243_86 rfl rfl rfl ?_
            refine x_bi (v := 60) r243_87 rfl rfl ?_
            rcases am_ifE h with ⟨c7, h⟩ | ⟨c7, h⟩
            · refine x_iceqT r243_89 c7 ?_
              refine x_ic (v := 1) r243_98 rfl rfl ?_
              refine x_goto r243_99 ?_
              subst h
              exact x_ret (ret := some .int) (C := True) (v := some (.int _)) r243_103 rt243 rfl rfl rfl rfl rfl rfl rfl rfl trivial hQ
            · refine x_iceqF r243_89 c7 rfl ?_
              refine x_ld (v := .int v1) r243_92 rfl rfl rfl ?_
              refine x_bi (v := 62) r243_93 rfl rfl ?_
              rcases am_ifE h with ⟨c8, h⟩ | ⟨c8, h⟩
              · refine x_icneT r243_95 c8 rfl ?_
                refine x_ic (v := 1) r243_98 rfl rfl ?_
                refine x_goto r243_99 ?_
                subst h
                exact x_ret (ret := some .int) (C := True) (v := some (.int _)) r243_103 rt243 rfl rfl rfl rfl rfl rfl rfl rfl trivial hQ
              · refine x_icneF r243_95 c8 ?_
                refine x_ic (v := -1) r243_102 rfl rfl ?_
                subst h
                exact x_ret (ret := some .int) (C := True) (v := some (.int _)) r243_103 rt243 rfl rfl rfl rfl rfl rfl rfl rfl trivial hQ
          · rcases am_ifE h with ⟨c9, h⟩ | ⟨c9, h⟩
            · refine x_tsw (p' := 104) r243_21 (am_swF c2 (am_swF c3 (am_swF c5 (am_swF c6 (am_swT c9))))) ?_
              refine x_ld (v := .int v1) r243_104 rfl rfl rfl ?_
              refine x_bi (v := 43) r243_105 rfl rfl ?_
              rcases am_ifE h with ⟨c10, h⟩ | ⟨c10, h⟩
              · refine x_iceqT r243_107 c10 ?_
                refine x_ic (v := 1) r243_116 rfl rfl ?_
                refine x_goto r243_117 ?_
                subst h
                exact x_ret (ret := some .int) (C := True) (v := some (.int _)) r243_121 rt243 rfl rfl rfl rfl rfl rfl rfl rfl trivial hQ
              · refine x_iceqF r243_107 c10 rfl ?_
                refine x_ld (v := .int v1) r243_110 rfl rfl rfl ?_
                refine x_bi (v := 45) r243_111 rfl rfl ?_
                rcases am_ifE h with ⟨c11, h⟩ | ⟨c11, h⟩
                · refine x_icneT r243_113 c11 rfl ?_
                  refine x_ic (v := 1) r243_116 rfl rfl ?_
                  refine x_goto r243_117 ?_
                  subst h
                  exact x_ret (ret := some .int) (C := True) (v := some (.int _)) r243_121 rt243 rfl rfl rfl rfl rfl rfl rfl rfl trivial hQ
                · refine x_icneF r243_113 c11 ?_
                  refine x_ic (v := -1) r243_120 rfl rfl ?_
                  subst h
                  exact x_ret (ret := some .int) (C := True) (v := some (.int _)) r243_121 rt243 rfl rfl rfl rfl rfl rfl rfl rfl trivial hQ
            · rcases am_ifE h with ⟨c12, h⟩ | ⟨c12, h⟩
              · refine x_tsw (p' := 122) r243_21 (am_swF c2 (am_swF c3 (am_swF c5 (am_swF c6 (am_swF c9 (am_swT c12)))))) ?_
                refine x_ld (v := .int v1) r243_122 rfl rfl rfl ?_
                refine x_bi (v := 49) r243_123 rfl rfl ?_
                refine x_bi (v := 57) r243_125 rfl rfl ?_
                refine x_call1 (as := [.int v1, .int (49 : Int32), .int (57 : Int32)]) (rest := []) r243_127 rfl rfl rfl (by decide) (Nat.le_of_ble_eq_true rfl) (m248_ok rfl) (Nat.le_trans (by decide) hd) (Nat.zero_le _) (Nat.zero_le _) rfl ?_
                rcases am_ifE h with ⟨c13, h⟩ | ⟨c13, h⟩
                · refine x_ifeqT r243_130 c13 ?_
                  refine x_ic (v := -1) r243_138 rfl rfl ?_
                  subst h
                  exact x_ret (ret := some .int) (C := True) (v := some (.int _)) r243_139 rt243 rfl rfl rfl rfl rfl rfl rfl rfl trivial hQ
                · refine x_ifeqF r243_130 c13 rfl ?_
                  refine x_bi (v := 6) r243_133 rfl rfl ?_
                  refine x_goto r243_135 ?_
                  subst h
                  exact x_ret (ret := some .int) (C := True) (v := some (.int _)) r243_139 rt243 rfl rfl rfl rfl rfl rfl rfl rfl trivial hQ
              · rcases am_ifE h with ⟨c14, h⟩ | ⟨c14, h⟩
                · refine x_tsw (p' := 140) r243_21 (am_swF c2 (am_swF c3 (am_swF c5 (am_swF c6 (am_swF c9 (am_swF c12 (am_swT c14))))))) ?_
                  refine x_ld (v := .int v1) r243_140 rfl rfl rfl ?_
                  refine x_bi (v := 48) r243_141 rfl rfl ?_
                  refine x_bi (v := 57) r243_143 rfl rfl ?_
                  refine x_call1 (as := [.int v1, .int (48 : Int32), .int (57 : Int32)]) (rest := []) r243_145 rfl rfl rfl (by decide) (Nat.le_of_ble_eq_true rfl) (m248_ok rfl) (Nat.le_trans (by decide) hd) (Nat.zero_le _) (Nat.zero_le _) rfl ?_
                  rcases am_ifE h with ⟨c15, h⟩ | ⟨c15, h⟩
                  · refine x_ifeqT r243_148 c15 ?_
                    refine x_ld (v := .int v1) r243_153 rfl rfl rfl ?_
                    refine x_bi (v := 59) r243_154 rfl rfl ?_
                    rcases am_ifE h with ⟨c16, h⟩ | ⟨c16, h⟩
                    · refine x_icneT r243_156 c16 rfl ?_
                      refine x_ic (v := 0) r243_159 rfl rfl ?_
                      refine x_goto r243_160 ?_
                      subst h
                      exact x_ret (ret := some .int) (C := True) (v := some (.int _)) r243_164 rt243 rfl rfl rfl rfl rfl rfl rfl rfl trivial hQ
                    · refine x_icneF r243_156 c16 ?_
                      refine x_ic (v := -1) r243_163 rfl rfl ?_
                      subst h
                      exact x_ret (ret := some .int) (C := True) (v := some (.int _)) r243_164 rt243 rfl rfl rfl rfl rfl rfl rfl rfl trivial hQ
                  · refine x_ifeqF r243_148 c15 rfl ?_
                    refine x_ic (v := 1) r243_151 rfl rfl ?_
                    subst h
                    exact x_ret (ret := some .int) (C := True) (v := some (.int _)) r243_152 rt243 rfl rfl rfl rfl rfl rfl rfl rfl trivial hQ
                · refine x_tsw (p' := 165) r243_21 (am_swF c2 (am_swF c3 (am_swF c5 (am_swF c6 (am_swF c9 (am_swF c12 (am_swF c14 (rfl)))))))) ?_
                  refine x_ic (v := -1) r243_165 rfl rfl ?_
                  subst h
                  exact x_ret (ret := some .int) (C := True) (v := some (.int _)) r243_166 rt243 rfl rfl rfl rfl rfl rfl rfl rfl trivial hQ
  · refine x_icltF r243_3 c1 rfl ?_
    refine x_ld (v := .int v0) r243_6 rfl rfl rfl ?_
    refine x_ld (v := .int v1) r243_7 rfl rfl rfl ?_
    refine x_call1 (as := [.int v0, .int v1]) (rest := []) r243_8 rfl rfl rfl (by decide) (Nat.le_of_ble_eq_true rfl) (m247_ok rfl) (Nat.le_trans (by decide) hd) (Nat.zero_le _) (Nat.zero_le _) rfl ?_
    rcases am_ifE h with ⟨c17, h⟩ | ⟨c17, h⟩
    · refine x_ifeqT r243_11 c17 ?_
      refine x_ic (v := -1) r243_18 rfl rfl ?_
      subst h
      exact x_ret (ret := some .int) (C := True) (v := some (.int _)) r243_19 rt243 rfl rfl rfl rfl rfl rfl rfl rfl trivial hQ
    · refine x_ifeqF r243_11 c17 rfl ?_
      refine x_ic (v := 3) r243_14 rfl rfl ?_
      refine x_goto r243_15 ?_
      subst h
      exact x_ret (ret := some .int) (C := True) (v := some (.int _)) r243_19 rt243 rfl rfl rfl rfl rfl rfl rfl rfl trivial hQ
theorem m243_ok {D : am_D} {v0 : Int32} {v1 : Int32} {r : Int32} (h : m243 v0 v1 = r) : am_Y xs L 243 3 0 0 [.int v0, .int v1] D (.inl (some (.int r))) D := am_Yof (mi := am_m243) (lc := [.int v0, .int v1]) pg243 (Nat.le_of_ble_eq_true rfl) (am_rc0 rfl) rfl (fun Q hQ => m243_w (Nat.le_refl _) h hQ)
theorem r245_0 : am_at 245 0 = some (.iload_n 0, 1, [0]) := by decide +kernel
theorem r245_1 : am_at 245 1 = some (.bipush (10), 2, []) := by decide +kernel
theorem r245_3 : am_at 245 3 = some (.if_icmp .lt (17), 3, [20]) := by decide +kernel
theorem r245_6 : am_at 245 6 = some (.iload_n 0, 1, [0]) := by decide +kernel
theorem r245_7 : am_at 245 7 = some (.iload_n 1, 1, [1]) := by decide +kernel
theorem r245_8 : am_at 245 8 = some (.invokestatic 56, 3, [247, 2, 1039, 0]) := by decide +kernel
theorem r245_11 : am_at 245 11 = some (.ifCond .eq (7), 3, [18]) := by decide +kernel
theorem r245_14 : am_at 245 14 = some (.iconst (1), 1, []) := by decide +kernel
theorem r245_15 : am_at 245 15 = some (.goto (4), 3, [19]) := by decide +kernel
theorem r245_18 : am_at 245 18 = some (.iconst (-1), 1, []) := by decide +kernel
theorem r245_19 : am_at 245 19 = some (.ireturn, 1, []) := by decide +kernel
theorem r245_20 : am_at 245 20 = some (.iload_n 0, 1, [0]) := by decide +kernel
theorem r245_21 : am_at 245 21 = some (.tableswitch (102) (0) (7) #[47, 82, 77, 102, 102, 102, 102, 65], 47, [123, 0, 68, 1, 103, 2, 98, 3, 123, 4, 123, 5, 123, 6, 123, 7, 86]) := by decide +kernel
theorem r245_68 : am_at 245 68 = some (.iload_n 1, 1, [1]) := by decide +kernel
theorem r245_69 : am_at 245 69 = some (.bipush (48), 2, []) := by decide +kernel
theorem r245_71 : am_at 245 71 = some (.bipush (51), 2, []) := by decide +kernel
theorem r245_73 : am_at 245 73 = some (.invokestatic 42, 3, [248, 3, 1042, 0]) := by decide +kernel
theorem r245_76 : am_at 245 76 = some (.ifCond .eq (8), 3, [84]) := by decide +kernel
theorem r245_79 : am_at 245 79 = some (.bipush (7), 2, []) := by decide +kernel
theorem r245_81 : am_at 245 81 = some (.goto (4), 3, [85]) := by decide +kernel
theorem r245_84 : am_at 245 84 = some (.iconst (-1), 1, []) := by decide +kernel
theorem r245_85 : am_at 245 85 = some (.ireturn, 1, []) := by decide +kernel
theorem r245_86 : am_at 245 86 = some (.iload_n 1, 1, [1]) := by decide +kernel
theorem r245_87 : am_at 245 87 = some (.bipush (58), 2, []) := by decide +kernel
theorem r245_89 : am_at 245 89 = some (.if_icmp .ne (7), 3, [96]) := by decide +kernel
theorem r245_92 : am_at 245 92 = some (.iconst (2), 1, []) := by decide +kernel
theorem r245_93 : am_at 245 93 = some (.goto (4), 3, [97]) := by decide +kernel
theorem r245_96 : am_at 245 96 = some (.iconst (-1), 1, []) := by decide +kernel
theorem r245_97 : am_at 245 97 = some (.ireturn, 1, []) := by decide +kernel
theorem r245_98 : am_at 245 98 = some (.iload_n 1, 1, [1]) := by decide +kernel
theorem r245_99 : am_at 245 99 = some (.invokestatic 63, 3, [246, 1, 1048, 0]) := by decide +kernel
theorem r245_102 : am_at 245 102 = some (.ireturn, 1, []) := by decide +kernel
theorem r245_103 : am_at 245 103 = some (.iload_n 1, 1, [1]) := by decide +kernel
theorem r245_104 : am_at 245 104 = some (.bipush (44), 2, []) := by decide +kernel
theorem r245_106 : am_at 245 106 = some (.if_icmp .ne (5), 3, [111]) := by decide +kernel
theorem r245_109 : am_at 245 109 = some (.iconst (2), 1, []) := by decide +kernel
theorem r245_110 : am_at 245 110 = some (.ireturn, 1, []) := by decide +kernel
theorem r245_111 : am_at 245 111 = some (.iload_n 1, 1, [1]) := by decide +kernel
theorem r245_112 : am_at 245 112 = some (.bipush (59), 2, []) := by decide +kernel
theorem r245_114 : am_at 245 114 = some (.if_icmp .ne (7), 3, [121]) := by decide +kernel
theorem r245_117 : am_at 245 117 = some (.iconst (0), 1, []) := by decide +kernel
theorem r245_118 : am_at 245 118 = some (.goto (4), 3, [122]) := by decide +kernel
theorem r245_121 : am_at 245 121 = some (.iconst (-1), 1, []) := by decide +kernel
theorem r245_122 : am_at 245 122 = some (.ireturn, 1, []) := by decide +kernel
theorem r245_123 : am_at 245 123 = some (.iconst (-1), 1, []) := by decide +kernel
theorem r245_124 : am_at 245 124 = some (.ireturn, 1, []) := by decide +kernel
theorem rt245 : am_rtt 245 = some (some .int) := by decide +kernel
set_option maxRecDepth 100000 in
theorem pg245 : am_pg[245]? = some am_m245 := rfl
theorem m245_w {d mc ms : Nat} {D : am_D} {v0 : Int32} {v1 : Int32} {Q : am_O → am_AH → Prop} (hd : 3 ≤ d) {r : Int32} (h : m245 v0 v1 = r) (hQ : Q (.inl (some (.int r))) (am_mk D)) : am_X xs L 245 d mc ms 0 [.int v0, .int v1] [] (am_mk D) 0 0 Q := by
  unfold m245 at h
  refine x_ld (v := .int v0) r245_0 rfl rfl rfl ?_
  refine x_bi (v := 10) r245_1 rfl rfl ?_
  rcases am_ifE h with ⟨c1, h⟩ | ⟨c1, h⟩
  · refine x_icltT r245_3 c1 ?_
    refine x_ld (v := .int v0) r245_20 rfl rfl rfl ?_
    rcases am_ifE h with ⟨c2, h⟩ | ⟨c2, h⟩
    · refine x_tsw (p' := 68) r245_21 (am_swT c2) ?_
      refine x_ld (v := .int v1) r245_68 rfl rfl rfl ?_
      refine x_bi (v := 48) r245_69 rfl rfl ?_
      refine x_bi (v := 51) r245_71 rfl rfl ?_
      refine x_call1 (as := [.int v1, .int (48 : Int32), .int (51 : Int32)]) (rest := []) r245_73 rfl rfl rfl (by decide) (Nat.le_of_ble_eq_true rfl) (m248_ok rfl) (Nat.le_trans (by decide) hd) (Nat.zero_le _) (Nat.zero_le _) rfl ?_
      rcases am_ifE h with ⟨c3, h⟩ | ⟨c3, h⟩
      · refine x_ifeqT r245_76 c3 ?_
        refine x_ic (v := -1) r245_84 rfl rfl ?_
        subst h
        exact x_ret (ret := some .int) (C := True) (v := some (.int _)) r245_85 rt245 rfl rfl rfl rfl rfl rfl rfl rfl trivial hQ
      · refine x_ifeqF r245_76 c3 rfl ?_
        refine x_bi (v := 7) r245_79 rfl rfl ?_
        refine x_goto r245_81 ?_
        subst h
        exact x_ret (ret := some .int) (C := True) (v := some (.int _)) r245_85 rt245 rfl rfl rfl rfl rfl rfl rfl rfl trivial hQ
    · rcases am_ifE h with ⟨c4, h⟩ | ⟨c4, h⟩
      · refine x_tsw (p' := 103) r245_21 (am_swF c2 (am_swT c4)) ?_
        refine x_ld (v := .int v1) r245_103 rfl rfl rfl ?_
        refine x_bi (v := 44) r245_104 rfl rfl ?_
        rcases am_ifE h with ⟨c5, h⟩ | ⟨c5, h⟩
        · refine x_icneT r245_106 c5 rfl ?_
          refine x_ic (v := 2) r245_109 rfl rfl ?_
          subst h
          exact x_ret (ret := some .int) (C := True) (v := some (.int _)) r245_110 rt245 rfl rfl rfl rfl rfl rfl rfl rfl trivial hQ
        · refine x_icneF r245_106 c5 ?_
          refine x_ld (v := .int v1) r245_111 rfl rfl rfl ?_
          refine x_bi (v := 59) r245_112 rfl rfl ?_
          rcases am_ifE h with ⟨c6, h⟩ | ⟨c6, h⟩
          · refine x_icneT r245_114 c6 rfl ?_
            refine x_ic (v := 0) r245_117 rfl rfl ?_
            refine x_goto r245_118 ?_
            subst h
            exact x_ret (ret := some .int) (C := True) (v := some (.int _)) r245_122 rt245 rfl rfl rfl rfl rfl rfl rfl rfl trivial hQ
          · refine x_icneF r245_114 c6 ?_
            refine x_ic (v := -1) r245_121 rfl rfl ?_
            subst h
            exact x_ret (ret := some .int) (C := True) (v := some (.int _)) r245_122 rt245 rfl rfl rfl rfl rfl rfl rfl rfl trivial hQ
      · rcases am_ifE h with ⟨c7, h⟩ | ⟨c7, h⟩
        · refine x_tsw (p' := 98) r245_21 (am_swF c2 (am_swF c4 (am_swT c7))) ?_
          refine x_ld (v := .int v1) r245_98 rfl rfl rfl ?_
          refine x_call1 (as := [.int v1]) (rest := []) r245_99 rfl rfl rfl (by decide) (Nat.le_of_ble_eq_true rfl) (m246_ok rfl) (Nat.le_trans (by decide) hd) (Nat.zero_le _) (Nat.zero_le _) rfl ?_
          subst h
          exact x_ret (ret := some .int) (C := True) (v := some (.int _)) r245_102 rt245 rfl rfl rfl rfl rfl rfl rfl rfl trivial hQ
        · rcases am_ifE h with ⟨c8, h⟩ | ⟨c8, h⟩
          · refine x_tsw (p' := 123) r245_21 (am_swF c2 (am_swF c4 (am_swF c7 (am_swT c8)))) ?_
            refine x_ic (v := -1) r245_123 rfl rfl ?_
            subst h
            exact x_ret (ret := some .int) (C := True) (v := some (.int _)) r245_124 rt245 rfl rfl rfl rfl rfl rfl rfl rfl trivial hQ
          · rcases am_ifE h with ⟨c9, h⟩ | ⟨c9, h⟩
            · refine x_tsw (p' := 123) r245_21 (am_swF c2 (am_swF c4 (am_swF c7 (am_swF c8 (am_swT c9))))) ?_
              refine x_ic (v := -1) r245_123 rfl rfl ?_
              subst h
              exact x_ret (ret := some .int) (C := True) (v := some (.int _)) r245_124 rt245 rfl rfl rfl rfl rfl rfl rfl rfl trivial hQ
            · rcases am_ifE h with ⟨c10, h⟩ | ⟨c10, h⟩
              · refine x_tsw (p' := 123) r245_21 (am_swF c2 (am_swF c4 (am_swF c7 (am_swF c8 (am_swF c9 (am_swT c10)))))) ?_
                refine x_ic (v := -1) r245_123 rfl rfl ?_
                subst h
                exact x_ret (ret := some .int) (C := True) (v := some (.int _)) r245_124 rt245 rfl rfl rfl rfl rfl rfl rfl rfl trivial hQ
              · rcases am_ifE h with ⟨c11, h⟩ | ⟨c11, h⟩
                · refine x_tsw (p' := 123) r245_21 (am_swF c2 (am_swF c4 (am_swF c7 (am_swF c8 (am_swF c9 (am_swF c10 (am_swT c11))))))) ?_
                  refine x_ic (v := -1) r245_123 rfl rfl ?_
                  subst h
                  exact x_ret (ret := some .int) (C := True) (v := some (.int _)) r245_124 rt245 rfl rfl rfl rfl rfl rfl rfl rfl trivial hQ
                · rcases am_ifE h with ⟨c12, h⟩ | ⟨c12, h⟩
                  · refine x_tsw (p' := 86) r245_21 (am_swF c2 (am_swF c4 (am_swF c7 (am_swF c8 (am_swF c9 (am_swF c10 (am_swF c11 (am_swT c12)))))))) ?_
                    refine x_ld (v := .int v1) r245_86 rfl rfl rfl ?_
                    refine x_bi (v := 58) r245_87 rfl rfl ?_
                    rcases am_ifE h with ⟨c13, h⟩ | ⟨c13, h⟩
                    · refine x_icneT r245_89 c13 rfl ?_
                      refine x_ic (v := 2) r245_92 rfl rfl ?_
                      refine x_goto r245_93 ?_
                      subst h
                      exact x_ret (ret := some .int) (C := True) (v := some (.int _)) r245_97 rt245 rfl rfl rfl rfl rfl rfl rfl rfl trivial hQ
                    · refine x_icneF r245_89 c13 ?_
                      refine x_ic (v := -1) r245_96 rfl rfl ?_
                      subst h
                      exact x_ret (ret := some .int) (C := True) (v := some (.int _)) r245_97 rt245 rfl rfl rfl rfl rfl rfl rfl rfl trivial hQ
                  · refine x_tsw (p' := 123) r245_21 (am_swF c2 (am_swF c4 (am_swF c7 (am_swF c8 (am_swF c9 (am_swF c10 (am_swF c11 (am_swF c12 (rfl))))))))) ?_
                    refine x_ic (v := -1) r245_123 rfl rfl ?_
                    subst h
                    exact x_ret (ret := some .int) (C := True) (v := some (.int _)) r245_124 rt245 rfl rfl rfl rfl rfl rfl rfl rfl trivial hQ
  · refine x_icltF r245_3 c1 rfl ?_
    refine x_ld (v := .int v0) r245_6 rfl rfl rfl ?_
    refine x_ld (v := .int v1) r245_7 rfl rfl rfl ?_
    refine x_call1 (as := [.int v0, .int v1]) (rest := []) r245_8 rfl rfl rfl (by decide) (Nat.le_of_ble_eq_true rfl) (m247_ok rfl) (Nat.le_trans (by decide) hd) (Nat.zero_le _) (Nat.zero_le _) rfl ?_
    rcases am_ifE h with ⟨c14, h⟩ | ⟨c14, h⟩
    · refine x_ifeqT r245_11 c14 ?_
      refine x_ic (v := -1) r245_18 rfl rfl ?_
      subst h
      exact x_ret (ret := some .int) (C := True) (v := some (.int _)) r245_19 rt245 rfl rfl rfl rfl rfl rfl rfl rfl trivial hQ
    · refine x_ifeqF r245_11 c14 rfl ?_
      refine x_ic (v := 1) r245_14 rfl rfl ?_
      refine x_goto r245_15 ?_
      subst h
      exact x_ret (ret := some .int) (C := True) (v := some (.int _)) r245_19 rt245 rfl rfl rfl rfl rfl rfl rfl rfl trivial hQ
theorem m245_ok {D : am_D} {v0 : Int32} {v1 : Int32} {r : Int32} (h : m245 v0 v1 = r) : am_Y xs L 245 3 0 0 [.int v0, .int v1] D (.inl (some (.int r))) D := am_Yof (mi := am_m245) (lc := [.int v0, .int v1]) pg245 (Nat.le_of_ble_eq_true rfl) (am_rc0 rfl) rfl (fun Q hQ => m245_w (Nat.le_refl _) h hQ)
theorem r261_0 : am_at 261 0 = some (.aload_n 2, 1, [2]) := by decide +kernel
theorem r261_1 : am_at 261 1 = some (.iconst (0), 1, []) := by decide +kernel
theorem r261_2 : am_at 261 2 = some (.aload_n 0, 1, [0]) := by decide +kernel
theorem r261_3 : am_at 261 3 = some (.iload_n 1, 1, [1]) := by decide +kernel
theorem r261_4 : am_at 261 4 = some (.invokevirtual 17, 3, [2, 2, 838, 0, 2, 13, 3, 12, 3, 16, 3, 15]) := by decide +kernel
theorem r261_7 : am_at 261 7 = some (.i2l, 1, []) := by decide +kernel
theorem r261_8 : am_at 261 8 = some (.lastore, 1, []) := by decide +kernel
theorem r261_9 : am_at 261 9 = some (.goto (9), 3, [18]) := by decide +kernel
theorem r261_13 : am_at 261 13 = some (.iconst (1), 1, []) := by decide +kernel
theorem r261_14 : am_at 261 14 = some (.ireturn, 1, []) := by decide +kernel
theorem r261_16 : am_at 261 16 = some (.iconst (2), 1, []) := by decide +kernel
theorem r261_17 : am_at 261 17 = some (.ireturn, 1, []) := by decide +kernel
theorem r261_18 : am_at 261 18 = some (.iconst (0), 1, []) := by decide +kernel
theorem r261_19 : am_at 261 19 = some (.ireturn, 1, []) := by decide +kernel
theorem rt261 : am_rtt 261 = some (some .int) := by decide +kernel
set_option maxRecDepth 100000 in
theorem pg261 : am_pg[261]? = some am_m261 := rfl
theorem m261_w {d mc ms : Nat} {N : Nat} {D : am_D} {v1 : Int32} {Q : am_O → am_AH → Prop} (hd : 6 ≤ d) {r : Int32 × am_D} (h : m261 N D v1 = some r) (hE1 : ∀ x : Nat, 0 + 1 ≤ mc) (hE2 : ∀ x : Nat, 0 + 6 ≤ ms) (hQ : Q (.inl (some (.int r.1))) (am_mk r.2)) : am_X xs L 261 d mc ms 0 [.ref 0, .int v1, .ref 124, am_dead] [] (am_mk D) 0 0 Q := by
  unfold m261 at h
  refine x_ld (v := .ref 124) r261_0 rfl rfl rfl ?_
  refine x_ic (v := 0) r261_1 rfl rfl ?_
  refine x_ld (v := .ref 0) r261_2 rfl rfl rfl ?_
  refine x_ld (v := .int v1) r261_3 rfl rfl rfl ?_
  obtain ⟨q1, h2, h⟩ := Option.bind_eq_some_iff.mp h
  rcases am_chE h with ⟨x3, h4, h⟩ | ⟨E7, h4, h⟩
  · refine x_call1 (as := [.ref 0, .int v1]) (rest := [.int (0 : Int32), .ref 124]) r261_4 rfl rfl rfl (by decide) (Nat.le_of_ble_eq_true rfl) (m2_okv h2 h4) (Nat.le_trans (by decide) hd) (Nat.zero_le _) (Nat.zero_le _) rfl ?_
    refine x_ar r261_7 rfl trivial rfl ?_
    obtain ⟨D5, e6, h⟩ := am_ltE h
    refine y_las (n := 1) r261_8 rfl (by decide) (by decide) (e := 0) (by decide) e6 rfl ?_
    refine x_goto r261_9 ?_
    refine x_ic (v := 0) r261_18 rfl rfl ?_
    cases h
    exact x_ret (ret := some .int) (C := True) (v := some (.int _)) r261_19 rt261 rfl rfl rfl rfl rfl rfl rfl rfl trivial hQ
  · rcases am_ifE h with ⟨c8, h⟩ | ⟨c8, h⟩
    · rw [c8] at h4
      refine x_callH (as := [.ref 0, .int v1]) (rest := [.int (0 : Int32), .ref 124]) (p' := 13) (il := 3) r261_4 rfl rfl rfl (by decide) (Nat.le_of_ble_eq_true rfl) (m2_exv h2 h4) (Nat.le_trans (by decide) hd) (hE1 0) (hE2 0) rfl (Nat.le_of_ble_eq_true rfl) ?_
      refine x_ic (v := 1) r261_13 rfl rfl ?_
      cases h
      exact x_ret (ret := some .int) (C := True) (v := some (.int _)) r261_14 rt261 rfl rfl rfl rfl rfl rfl rfl rfl trivial hQ
    · rcases am_ifE h with ⟨c9, h⟩ | ⟨c9, h⟩
      · rw [c9] at h4
        refine x_callH (as := [.ref 0, .int v1]) (rest := [.int (0 : Int32), .ref 124]) (p' := 16) (il := 3) r261_4 rfl rfl rfl (by decide) (Nat.le_of_ble_eq_true rfl) (m2_exv h2 h4) (Nat.le_trans (by decide) hd) (hE1 0) (hE2 0) rfl (Nat.le_of_ble_eq_true rfl) ?_
        refine x_ic (v := 2) r261_16 rfl rfl ?_
        cases h
        exact x_ret (ret := some .int) (C := True) (v := some (.int _)) r261_17 rt261 rfl rfl rfl rfl rfl rfl rfl rfl trivial hQ
      · cases h
theorem m261_ok {N : Nat} {D : am_D} {v1 : Int32} {r : Int32 × am_D} (h : m261 N D v1 = some r) : am_Y xs L 261 6 1 6 [.ref 0, .int v1, .ref 124] D (.inl (some (.int r.1))) r.2 := am_Yof (mi := am_m261) (lc := [.ref 0, .int v1, .ref 124, am_dead]) pg261 (Nat.le_of_ble_eq_true rfl) (am_rc0 rfl) rfl (fun Q hQ => m261_w (Nat.le_refl _) h (fun _ => Nat.le_refl _) (fun _ => Nat.le_refl _) hQ)
theorem r262_0 : am_at 262 0 = some (.aload_n 2, 1, [2]) := by decide +kernel
theorem r262_1 : am_at 262 1 = some (.iconst (0), 1, []) := by decide +kernel
theorem r262_2 : am_at 262 2 = some (.aload_n 0, 1, [0]) := by decide +kernel
theorem r262_3 : am_at 262 3 = some (.iload_n 1, 1, [1]) := by decide +kernel
theorem r262_4 : am_at 262 4 = some (.invokevirtual 23, 3, [3, 2, 856, 0, 1, 13, 3, 12, 3, 16, 3, 15]) := by decide +kernel
theorem r262_7 : am_at 262 7 = some (.i2l, 1, []) := by decide +kernel
theorem r262_8 : am_at 262 8 = some (.lastore, 1, []) := by decide +kernel
theorem r262_9 : am_at 262 9 = some (.goto (9), 3, [18]) := by decide +kernel
theorem r262_13 : am_at 262 13 = some (.iconst (1), 1, []) := by decide +kernel
theorem r262_14 : am_at 262 14 = some (.ireturn, 1, []) := by decide +kernel
theorem r262_16 : am_at 262 16 = some (.iconst (2), 1, []) := by decide +kernel
theorem r262_17 : am_at 262 17 = some (.ireturn, 1, []) := by decide +kernel
theorem r262_18 : am_at 262 18 = some (.iconst (0), 1, []) := by decide +kernel
theorem r262_19 : am_at 262 19 = some (.ireturn, 1, []) := by decide +kernel
theorem rt262 : am_rtt 262 = some (some .int) := by decide +kernel
set_option maxRecDepth 100000 in
theorem pg262 : am_pg[262]? = some am_m262 := rfl
theorem m262_w {d mc ms : Nat} {N : Nat} {D : am_D} {v1 : Int32} {Q : am_O → am_AH → Prop} (hd : 6 ≤ d) {r : Int32 × am_D} (h : m262 N D v1 = some r) (hE1 : ∀ x : Nat, 0 + 1 ≤ mc) (hE2 : ∀ x : Nat, 0 + 6 ≤ ms) (hQ : Q (.inl (some (.int r.1))) (am_mk r.2)) : am_X xs L 262 d mc ms 0 [.ref 0, .int v1, .ref 124, am_dead] [] (am_mk D) 0 0 Q := by
  unfold m262 at h
  refine x_ld (v := .ref 124) r262_0 rfl rfl rfl ?_
  refine x_ic (v := 0) r262_1 rfl rfl ?_
  refine x_ld (v := .ref 0) r262_2 rfl rfl rfl ?_
  refine x_ld (v := .int v1) r262_3 rfl rfl rfl ?_
  obtain ⟨q1, h2, h⟩ := Option.bind_eq_some_iff.mp h
  rcases am_chE h with ⟨x3, h4, h⟩ | ⟨E7, h4, h⟩
  · refine x_call1 (as := [.ref 0, .int v1]) (rest := [.int (0 : Int32), .ref 124]) r262_4 rfl rfl rfl (by decide) (Nat.le_of_ble_eq_true rfl) (m3_okv h2 h4) (Nat.le_trans (by decide) hd) (Nat.zero_le _) (Nat.zero_le _) rfl ?_
    refine x_ar r262_7 rfl trivial rfl ?_
    obtain ⟨D5, e6, h⟩ := am_ltE h
    refine y_las (n := 1) r262_8 rfl (by decide) (by decide) (e := 0) (by decide) e6 rfl ?_
    refine x_goto r262_9 ?_
    refine x_ic (v := 0) r262_18 rfl rfl ?_
    cases h
    exact x_ret (ret := some .int) (C := True) (v := some (.int _)) r262_19 rt262 rfl rfl rfl rfl rfl rfl rfl rfl trivial hQ
  · rcases am_ifE h with ⟨c8, h⟩ | ⟨c8, h⟩
    · rw [c8] at h4
      refine x_callH (as := [.ref 0, .int v1]) (rest := [.int (0 : Int32), .ref 124]) (p' := 13) (il := 3) r262_4 rfl rfl rfl (by decide) (Nat.le_of_ble_eq_true rfl) (m3_exv h2 h4) (Nat.le_trans (by decide) hd) (hE1 0) (hE2 0) rfl (Nat.le_of_ble_eq_true rfl) ?_
      refine x_ic (v := 1) r262_13 rfl rfl ?_
      cases h
      exact x_ret (ret := some .int) (C := True) (v := some (.int _)) r262_14 rt262 rfl rfl rfl rfl rfl rfl rfl rfl trivial hQ
    · rcases am_ifE h with ⟨c9, h⟩ | ⟨c9, h⟩
      · rw [c9] at h4
        refine x_callH (as := [.ref 0, .int v1]) (rest := [.int (0 : Int32), .ref 124]) (p' := 16) (il := 3) r262_4 rfl rfl rfl (by decide) (Nat.le_of_ble_eq_true rfl) (m3_exv h2 h4) (Nat.le_trans (by decide) hd) (hE1 0) (hE2 0) rfl (Nat.le_of_ble_eq_true rfl) ?_
        refine x_ic (v := 2) r262_16 rfl rfl ?_
        cases h
        exact x_ret (ret := some .int) (C := True) (v := some (.int _)) r262_17 rt262 rfl rfl rfl rfl rfl rfl rfl rfl trivial hQ
      · cases h
theorem m262_ok {N : Nat} {D : am_D} {v1 : Int32} {r : Int32 × am_D} (h : m262 N D v1 = some r) : am_Y xs L 262 6 1 6 [.ref 0, .int v1, .ref 124] D (.inl (some (.int r.1))) r.2 := am_Yof (mi := am_m262) (lc := [.ref 0, .int v1, .ref 124, am_dead]) pg262 (Nat.le_of_ble_eq_true rfl) (am_rc0 rfl) rfl (fun Q hQ => m262_w (Nat.le_refl _) h (fun _ => Nat.le_refl _) (fun _ => Nat.le_refl _) hQ)
theorem r275_0 : am_at 275 0 = some (.aload_n 3, 1, [3]) := by decide +kernel
theorem r275_1 : am_at 275 1 = some (.iconst (0), 1, []) := by decide +kernel
theorem r275_2 : am_at 275 2 = some (.aload_n 0, 1, [0]) := by decide +kernel
theorem r275_3 : am_at 275 3 = some (.iload_n 1, 1, [1]) := by decide +kernel
theorem r275_4 : am_at 275 4 = some (.iload_n 2, 1, [2]) := by decide +kernel
theorem r275_5 : am_at 275 5 = some (.invokevirtual 64, 3, [18, 3, 1135, 0, 1, 15, 4, 13, 2, 19, 4, 17]) := by decide +kernel
theorem r275_8 : am_at 275 8 = some (.i2l, 1, []) := by decide +kernel
theorem r275_9 : am_at 275 9 = some (.lastore, 1, []) := by decide +kernel
theorem r275_10 : am_at 275 10 = some (.goto (11), 3, [21]) := by decide +kernel
theorem r275_15 : am_at 275 15 = some (.iconst (1), 1, []) := by decide +kernel
theorem r275_16 : am_at 275 16 = some (.ireturn, 1, []) := by decide +kernel
theorem r275_19 : am_at 275 19 = some (.iconst (2), 1, []) := by decide +kernel
theorem r275_20 : am_at 275 20 = some (.ireturn, 1, []) := by decide +kernel
theorem r275_21 : am_at 275 21 = some (.iconst (0), 1, []) := by decide +kernel
theorem r275_22 : am_at 275 22 = some (.ireturn, 1, []) := by decide +kernel
theorem rt275 : am_rtt 275 = some (some .int) := by decide +kernel
set_option maxRecDepth 100000 in
theorem pg275 : am_pg[275]? = some am_m275 := rfl
theorem m275_w {d mc ms : Nat} {N : Nat} {D : am_D} {v1 : Int32} {v2 : Int32} {Q : am_O → am_AH → Prop} (hd : 5 ≤ d) {r : Int32 × am_D} (h : m275 N D v1 v2 = some r) (hE1 : ∀ x : Nat, 0 + 1 ≤ mc) (hE2 : ∀ x : Nat, 0 + 6 ≤ ms) (hQ : Q (.inl (some (.int r.1))) (am_mk r.2)) : am_X xs L 275 d mc ms 0 [.ref 0, .int v1, .int v2, .ref 124, am_dead] [] (am_mk D) 0 0 Q := by
  unfold m275 at h
  refine x_ld (v := .ref 124) r275_0 rfl rfl rfl ?_
  refine x_ic (v := 0) r275_1 rfl rfl ?_
  refine x_ld (v := .ref 0) r275_2 rfl rfl rfl ?_
  refine x_ld (v := .int v1) r275_3 rfl rfl rfl ?_
  refine x_ld (v := .int v2) r275_4 rfl rfl rfl ?_
  obtain ⟨q1, h2, h⟩ := Option.bind_eq_some_iff.mp h
  rcases am_chE h with ⟨x3, h4, h⟩ | ⟨E7, h4, h⟩
  · refine x_call1 (as := [.ref 0, .int v1, .int v2]) (rest := [.int (0 : Int32), .ref 124]) r275_5 rfl rfl rfl (by decide) (Nat.le_of_ble_eq_true rfl) (m18_okv h2 h4) (Nat.le_trans (by decide) hd) (Nat.zero_le _) (Nat.zero_le _) rfl ?_
    refine x_ar r275_8 rfl trivial rfl ?_
    obtain ⟨D5, e6, h⟩ := am_ltE h
    refine y_las (n := 1) r275_9 rfl (by decide) (by decide) (e := 0) (by decide) e6 rfl ?_
    refine x_goto r275_10 ?_
    refine x_ic (v := 0) r275_21 rfl rfl ?_
    cases h
    exact x_ret (ret := some .int) (C := True) (v := some (.int _)) r275_22 rt275 rfl rfl rfl rfl rfl rfl rfl rfl trivial hQ
  · rcases am_ifE h with ⟨c8, h⟩ | ⟨c8, h⟩
    · rw [c8] at h4
      refine x_callH (as := [.ref 0, .int v1, .int v2]) (rest := [.int (0 : Int32), .ref 124]) (p' := 15) (il := 4) r275_5 rfl rfl rfl (by decide) (Nat.le_of_ble_eq_true rfl) (m18_exv h2 h4) (Nat.le_trans (by decide) hd) (hE1 0) (hE2 0) rfl (Nat.le_of_ble_eq_true rfl) ?_
      refine x_ic (v := 1) r275_15 rfl rfl ?_
      cases h
      exact x_ret (ret := some .int) (C := True) (v := some (.int _)) r275_16 rt275 rfl rfl rfl rfl rfl rfl rfl rfl trivial hQ
    · rcases am_ifE h with ⟨c9, h⟩ | ⟨c9, h⟩
      · rw [c9] at h4
        refine x_callH (as := [.ref 0, .int v1, .int v2]) (rest := [.int (0 : Int32), .ref 124]) (p' := 19) (il := 4) r275_5 rfl rfl rfl (by decide) (Nat.le_of_ble_eq_true rfl) (m18_exv h2 h4) (Nat.le_trans (by decide) hd) (hE1 0) (hE2 0) rfl (Nat.le_of_ble_eq_true rfl) ?_
        refine x_ic (v := 2) r275_19 rfl rfl ?_
        cases h
        exact x_ret (ret := some .int) (C := True) (v := some (.int _)) r275_20 rt275 rfl rfl rfl rfl rfl rfl rfl rfl trivial hQ
      · cases h
theorem m275_ok {N : Nat} {D : am_D} {v1 : Int32} {v2 : Int32} {r : Int32 × am_D} (h : m275 N D v1 v2 = some r) : am_Y xs L 275 5 1 6 [.ref 0, .int v1, .int v2, .ref 124] D (.inl (some (.int r.1))) r.2 := am_Yof (mi := am_m275) (lc := [.ref 0, .int v1, .int v2, .ref 124, am_dead]) pg275 (Nat.le_of_ble_eq_true rfl) (am_rc0 rfl) rfl (fun Q hQ => m275_w (Nat.le_refl _) h (fun _ => Nat.le_refl _) (fun _ => Nat.le_refl _) hQ)
theorem r277_0 : am_at 277 0 = some (.aload_n 3, 1, [3]) := by decide +kernel
theorem r277_1 : am_at 277 1 = some (.iconst (0), 1, []) := by decide +kernel
theorem r277_2 : am_at 277 2 = some (.aload_n 0, 1, [0]) := by decide +kernel
theorem r277_3 : am_at 277 3 = some (.iload_n 1, 1, [1]) := by decide +kernel
theorem r277_4 : am_at 277 4 = some (.iload_n 2, 1, [2]) := by decide +kernel
theorem r277_5 : am_at 277 5 = some (.invokevirtual 70, 3, [20, 3, 1151, 0, 1, 15, 4, 13, 2, 19, 4, 17]) := by decide +kernel
theorem r277_8 : am_at 277 8 = some (.i2l, 1, []) := by decide +kernel
theorem r277_9 : am_at 277 9 = some (.lastore, 1, []) := by decide +kernel
theorem r277_10 : am_at 277 10 = some (.goto (11), 3, [21]) := by decide +kernel
theorem r277_15 : am_at 277 15 = some (.iconst (1), 1, []) := by decide +kernel
theorem r277_16 : am_at 277 16 = some (.ireturn, 1, []) := by decide +kernel
theorem r277_19 : am_at 277 19 = some (.iconst (2), 1, []) := by decide +kernel
theorem r277_20 : am_at 277 20 = some (.ireturn, 1, []) := by decide +kernel
theorem r277_21 : am_at 277 21 = some (.iconst (0), 1, []) := by decide +kernel
theorem r277_22 : am_at 277 22 = some (.ireturn, 1, []) := by decide +kernel
theorem rt277 : am_rtt 277 = some (some .int) := by decide +kernel
set_option maxRecDepth 100000 in
theorem pg277 : am_pg[277]? = some am_m277 := rfl
theorem m277_w {d mc ms : Nat} {D : am_D} {v1 : Int32} {v2 : Int32} {Q : am_O → am_AH → Prop} (hd : 4 ≤ d) {r : Int32 × am_D} (h : m277 D v1 v2 = some r) (hE1 : ∀ x : Nat, 0 + 1 ≤ mc) (hE2 : ∀ x : Nat, 0 + 6 ≤ ms) (hQ : Q (.inl (some (.int r.1))) (am_mk r.2)) : am_X xs L 277 d mc ms 0 [.ref 0, .int v1, .int v2, .ref 124, am_dead] [] (am_mk D) 0 0 Q := by
  unfold m277 at h
  refine x_ld (v := .ref 124) r277_0 rfl rfl rfl ?_
  refine x_ic (v := 0) r277_1 rfl rfl ?_
  refine x_ld (v := .ref 0) r277_2 rfl rfl rfl ?_
  refine x_ld (v := .int v1) r277_3 rfl rfl rfl ?_
  refine x_ld (v := .int v2) r277_4 rfl rfl rfl ?_
  obtain ⟨q1, h2, h⟩ := am_ltE h
  replace h2 := h2.symm
  rcases am_chE h with ⟨x3, h4, h⟩ | ⟨E7, h4, h⟩
  · refine x_call1 (as := [.ref 0, .int v1, .int v2]) (rest := [.int (0 : Int32), .ref 124]) r277_5 rfl rfl rfl (by decide) (Nat.le_of_ble_eq_true rfl) (m20_okv h2 h4) (Nat.le_trans (by decide) hd) (Nat.zero_le _) (Nat.zero_le _) rfl ?_
    refine x_ar r277_8 rfl trivial rfl ?_
    obtain ⟨D5, e6, h⟩ := am_ltE h
    refine y_las (n := 1) r277_9 rfl (by decide) (by decide) (e := 0) (by decide) e6 rfl ?_
    refine x_goto r277_10 ?_
    refine x_ic (v := 0) r277_21 rfl rfl ?_
    cases h
    exact x_ret (ret := some .int) (C := True) (v := some (.int _)) r277_22 rt277 rfl rfl rfl rfl rfl rfl rfl rfl trivial hQ
  · rcases am_ifE h with ⟨c8, h⟩ | ⟨c8, h⟩
    · rw [c8] at h4
      refine x_callH (as := [.ref 0, .int v1, .int v2]) (rest := [.int (0 : Int32), .ref 124]) (p' := 15) (il := 4) r277_5 rfl rfl rfl (by decide) (Nat.le_of_ble_eq_true rfl) (m20_exv h2 h4) (Nat.le_trans (by decide) hd) (hE1 0) (hE2 0) rfl (Nat.le_of_ble_eq_true rfl) ?_
      refine x_ic (v := 1) r277_15 rfl rfl ?_
      cases h
      exact x_ret (ret := some .int) (C := True) (v := some (.int _)) r277_16 rt277 rfl rfl rfl rfl rfl rfl rfl rfl trivial hQ
    · rcases am_ifE h with ⟨c9, h⟩ | ⟨c9, h⟩
      · rw [c9] at h4
        refine x_callH (as := [.ref 0, .int v1, .int v2]) (rest := [.int (0 : Int32), .ref 124]) (p' := 19) (il := 4) r277_5 rfl rfl rfl (by decide) (Nat.le_of_ble_eq_true rfl) (m20_exv h2 h4) (Nat.le_trans (by decide) hd) (hE1 0) (hE2 0) rfl (Nat.le_of_ble_eq_true rfl) ?_
        refine x_ic (v := 2) r277_19 rfl rfl ?_
        cases h
        exact x_ret (ret := some .int) (C := True) (v := some (.int _)) r277_20 rt277 rfl rfl rfl rfl rfl rfl rfl rfl trivial hQ
      · cases h
theorem m277_ok {D : am_D} {v1 : Int32} {v2 : Int32} {r : Int32 × am_D} (h : m277 D v1 v2 = some r) : am_Y xs L 277 4 1 6 [.ref 0, .int v1, .int v2, .ref 124] D (.inl (some (.int r.1))) r.2 := am_Yof (mi := am_m277) (lc := [.ref 0, .int v1, .int v2, .ref 124, am_dead]) pg277 (Nat.le_of_ble_eq_true rfl) (am_rc0 rfl) rfl (fun Q hQ => m277_w (Nat.le_refl _) h (fun _ => Nat.le_refl _) (fun _ => Nat.le_refl _) hQ)
theorem r278_0 : am_at 278 0 = some (.aload_n 3, 1, [3]) := by decide +kernel
theorem r278_1 : am_at 278 1 = some (.iconst (0), 1, []) := by decide +kernel
theorem r278_2 : am_at 278 2 = some (.aload_n 0, 1, [0]) := by decide +kernel
theorem r278_3 : am_at 278 3 = some (.iload_n 1, 1, [1]) := by decide +kernel
theorem r278_4 : am_at 278 4 = some (.iload_n 2, 1, [2]) := by decide +kernel
theorem r278_5 : am_at 278 5 = some (.invokevirtual 73, 3, [21, 3, 1155, 0, 1, 15, 4, 13, 2, 19, 4, 17]) := by decide +kernel
theorem r278_8 : am_at 278 8 = some (.i2l, 1, []) := by decide +kernel
theorem r278_9 : am_at 278 9 = some (.lastore, 1, []) := by decide +kernel
theorem r278_10 : am_at 278 10 = some (.goto (11), 3, [21]) := by decide +kernel
theorem r278_15 : am_at 278 15 = some (.iconst (1), 1, []) := by decide +kernel
theorem r278_16 : am_at 278 16 = some (.ireturn, 1, []) := by decide +kernel
theorem r278_19 : am_at 278 19 = some (.iconst (2), 1, []) := by decide +kernel
theorem r278_20 : am_at 278 20 = some (.ireturn, 1, []) := by decide +kernel
theorem r278_21 : am_at 278 21 = some (.iconst (0), 1, []) := by decide +kernel
theorem r278_22 : am_at 278 22 = some (.ireturn, 1, []) := by decide +kernel
theorem rt278 : am_rtt 278 = some (some .int) := by decide +kernel
set_option maxRecDepth 100000 in
theorem pg278 : am_pg[278]? = some am_m278 := rfl
theorem m278_w {d mc ms : Nat} {N : Nat} {D : am_D} {v1 : Int32} {v2 : Int32} {Q : am_O → am_AH → Prop} (hd : 16 ≤ d) {r : Int32 × am_D} (h : m278 N D v1 v2 = some r) (hE1 : ∀ x : Nat, 0 + 1 ≤ mc) (hE2 : ∀ x : Nat, 0 + 6 ≤ ms) (hQ : Q (.inl (some (.int r.1))) (am_mk r.2)) : am_X xs L 278 d mc ms 0 [.ref 0, .int v1, .int v2, .ref 124, am_dead] [] (am_mk D) 0 0 Q := by
  unfold m278 at h
  refine x_ld (v := .ref 124) r278_0 rfl rfl rfl ?_
  refine x_ic (v := 0) r278_1 rfl rfl ?_
  refine x_ld (v := .ref 0) r278_2 rfl rfl rfl ?_
  refine x_ld (v := .int v1) r278_3 rfl rfl rfl ?_
  refine x_ld (v := .int v2) r278_4 rfl rfl rfl ?_
  obtain ⟨q1, h2, h⟩ := Option.bind_eq_some_iff.mp h
  rcases am_chE h with ⟨x3, h4, h⟩ | ⟨E7, h4, h⟩
  · refine x_call1 (as := [.ref 0, .int v1, .int v2]) (rest := [.int (0 : Int32), .ref 124]) r278_5 rfl rfl rfl (by decide) (Nat.le_of_ble_eq_true rfl) (m21_okv h2 h4) (Nat.le_trans (by decide) hd) (Nat.zero_le _) (Nat.zero_le _) rfl ?_
    refine x_ar r278_8 rfl trivial rfl ?_
    obtain ⟨D5, e6, h⟩ := am_ltE h
    refine y_las (n := 1) r278_9 rfl (by decide) (by decide) (e := 0) (by decide) e6 rfl ?_
    refine x_goto r278_10 ?_
    refine x_ic (v := 0) r278_21 rfl rfl ?_
    cases h
    exact x_ret (ret := some .int) (C := True) (v := some (.int _)) r278_22 rt278 rfl rfl rfl rfl rfl rfl rfl rfl trivial hQ
  · rcases am_ifE h with ⟨c8, h⟩ | ⟨c8, h⟩
    · rw [c8] at h4
      refine x_callH (as := [.ref 0, .int v1, .int v2]) (rest := [.int (0 : Int32), .ref 124]) (p' := 15) (il := 4) r278_5 rfl rfl rfl (by decide) (Nat.le_of_ble_eq_true rfl) (m21_exv h2 h4) (Nat.le_trans (by decide) hd) (hE1 0) (hE2 0) rfl (Nat.le_of_ble_eq_true rfl) ?_
      refine x_ic (v := 1) r278_15 rfl rfl ?_
      cases h
      exact x_ret (ret := some .int) (C := True) (v := some (.int _)) r278_16 rt278 rfl rfl rfl rfl rfl rfl rfl rfl trivial hQ
    · rcases am_ifE h with ⟨c9, h⟩ | ⟨c9, h⟩
      · rw [c9] at h4
        refine x_callH (as := [.ref 0, .int v1, .int v2]) (rest := [.int (0 : Int32), .ref 124]) (p' := 19) (il := 4) r278_5 rfl rfl rfl (by decide) (Nat.le_of_ble_eq_true rfl) (m21_exv h2 h4) (Nat.le_trans (by decide) hd) (hE1 0) (hE2 0) rfl (Nat.le_of_ble_eq_true rfl) ?_
        refine x_ic (v := 2) r278_19 rfl rfl ?_
        cases h
        exact x_ret (ret := some .int) (C := True) (v := some (.int _)) r278_20 rt278 rfl rfl rfl rfl rfl rfl rfl rfl trivial hQ
      · cases h
theorem m278_ok {N : Nat} {D : am_D} {v1 : Int32} {v2 : Int32} {r : Int32 × am_D} (h : m278 N D v1 v2 = some r) : am_Y xs L 278 16 1 6 [.ref 0, .int v1, .int v2, .ref 124] D (.inl (some (.int r.1))) r.2 := am_Yof (mi := am_m278) (lc := [.ref 0, .int v1, .int v2, .ref 124, am_dead]) pg278 (Nat.le_of_ble_eq_true rfl) (am_rc0 rfl) rfl (fun Q hQ => m278_w (Nat.le_refl _) h (fun _ => Nat.le_refl _) (fun _ => Nat.le_refl _) hQ)
theorem r279_0 : am_at 279 0 = some (.aload_n 2, 1, [2]) := by decide +kernel
theorem r279_1 : am_at 279 1 = some (.iconst (0), 1, []) := by decide +kernel
theorem r279_2 : am_at 279 2 = some (.aload_n 0, 1, [0]) := by decide +kernel
theorem r279_3 : am_at 279 3 = some (.iload_n 1, 1, [1]) := by decide +kernel
theorem r279_4 : am_at 279 4 = some (.invokevirtual 76, 3, [22, 2, 1159, 0, 2, 13, 3, 12]) := by decide +kernel
theorem r279_7 : am_at 279 7 = some (.i2l, 1, []) := by decide +kernel
theorem r279_8 : am_at 279 8 = some (.lastore, 1, []) := by decide +kernel
theorem r279_9 : am_at 279 9 = some (.goto (6), 3, [15]) := by decide +kernel
theorem r279_13 : am_at 279 13 = some (.iconst (1), 1, []) := by decide +kernel
theorem r279_14 : am_at 279 14 = some (.ireturn, 1, []) := by decide +kernel
theorem r279_15 : am_at 279 15 = some (.iconst (0), 1, []) := by decide +kernel
theorem r279_16 : am_at 279 16 = some (.ireturn, 1, []) := by decide +kernel
theorem rt279 : am_rtt 279 = some (some .int) := by decide +kernel
set_option maxRecDepth 100000 in
theorem pg279 : am_pg[279]? = some am_m279 := rfl
theorem m279_w {d mc ms : Nat} {N : Nat} {D : am_D} {v1 : Int32} {Q : am_O → am_AH → Prop} (hd : 6 ≤ d) {r : Int32 × am_D} (h : m279 N D v1 = some r) (hE1 : ∀ x : Nat, 0 + 1 ≤ mc) (hE2 : ∀ x : Nat, 0 + 6 ≤ ms) (hQ : Q (.inl (some (.int r.1))) (am_mk r.2)) : am_X xs L 279 d mc ms 0 [.ref 0, .int v1, .ref 124, am_dead] [] (am_mk D) 0 0 Q := by
  unfold m279 at h
  refine x_ld (v := .ref 124) r279_0 rfl rfl rfl ?_
  refine x_ic (v := 0) r279_1 rfl rfl ?_
  refine x_ld (v := .ref 0) r279_2 rfl rfl rfl ?_
  refine x_ld (v := .int v1) r279_3 rfl rfl rfl ?_
  obtain ⟨q1, h2, h⟩ := Option.bind_eq_some_iff.mp h
  rcases am_chE h with ⟨x3, h4, h⟩ | ⟨E7, h4, h⟩
  · refine x_call1 (as := [.ref 0, .int v1]) (rest := [.int (0 : Int32), .ref 124]) r279_4 rfl rfl rfl (by decide) (Nat.le_of_ble_eq_true rfl) (m22_okv h2 h4) (Nat.le_trans (by decide) hd) (Nat.zero_le _) (Nat.zero_le _) rfl ?_
    refine x_ar r279_7 rfl trivial rfl ?_
    obtain ⟨D5, e6, h⟩ := am_ltE h
    refine y_las (n := 1) r279_8 rfl (by decide) (by decide) (e := 0) (by decide) e6 rfl ?_
    refine x_goto r279_9 ?_
    refine x_ic (v := 0) r279_15 rfl rfl ?_
    cases h
    exact x_ret (ret := some .int) (C := True) (v := some (.int _)) r279_16 rt279 rfl rfl rfl rfl rfl rfl rfl rfl trivial hQ
  · rcases am_ifE h with ⟨c8, h⟩ | ⟨c8, h⟩
    · rw [c8] at h4
      refine x_callH (as := [.ref 0, .int v1]) (rest := [.int (0 : Int32), .ref 124]) (p' := 13) (il := 3) r279_4 rfl rfl rfl (by decide) (Nat.le_of_ble_eq_true rfl) (m22_exv h2 h4) (Nat.le_trans (by decide) hd) (hE1 0) (hE2 0) rfl (Nat.le_of_ble_eq_true rfl) ?_
      refine x_ic (v := 1) r279_13 rfl rfl ?_
      cases h
      exact x_ret (ret := some .int) (C := True) (v := some (.int _)) r279_14 rt279 rfl rfl rfl rfl rfl rfl rfl rfl trivial hQ
    · cases h
theorem m279_ok {N : Nat} {D : am_D} {v1 : Int32} {r : Int32 × am_D} (h : m279 N D v1 = some r) : am_Y xs L 279 6 1 6 [.ref 0, .int v1, .ref 124] D (.inl (some (.int r.1))) r.2 := am_Yof (mi := am_m279) (lc := [.ref 0, .int v1, .ref 124, am_dead]) pg279 (Nat.le_of_ble_eq_true rfl) (am_rc0 rfl) rfl (fun Q hQ => m279_w (Nat.le_refl _) h (fun _ => Nat.le_refl _) (fun _ => Nat.le_refl _) hQ)
theorem r280_0 : am_at 280 0 = some (.aload 4, 2, [4]) := by decide +kernel
theorem r280_2 : am_at 280 2 = some (.iconst (0), 1, []) := by decide +kernel
theorem r280_3 : am_at 280 3 = some (.aload_n 0, 1, [0]) := by decide +kernel
theorem r280_4 : am_at 280 4 = some (.iload_n 1, 1, [1]) := by decide +kernel
theorem r280_5 : am_at 280 5 = some (.iload_n 2, 1, [2]) := by decide +kernel
theorem r280_6 : am_at 280 6 = some (.iload_n 3, 1, [3]) := by decide +kernel
theorem r280_7 : am_at 280 7 = some (.invokevirtual 79, 3, [23, 4, 1163, 0, 1, 17, 5, 15, 2, 21, 5, 19]) := by decide +kernel
theorem r280_10 : am_at 280 10 = some (.i2l, 1, []) := by decide +kernel
theorem r280_11 : am_at 280 11 = some (.lastore, 1, []) := by decide +kernel
theorem r280_12 : am_at 280 12 = some (.goto (11), 3, [23]) := by decide +kernel
theorem r280_17 : am_at 280 17 = some (.iconst (1), 1, []) := by decide +kernel
theorem r280_18 : am_at 280 18 = some (.ireturn, 1, []) := by decide +kernel
theorem r280_21 : am_at 280 21 = some (.iconst (2), 1, []) := by decide +kernel
theorem r280_22 : am_at 280 22 = some (.ireturn, 1, []) := by decide +kernel
theorem r280_23 : am_at 280 23 = some (.iconst (0), 1, []) := by decide +kernel
theorem r280_24 : am_at 280 24 = some (.ireturn, 1, []) := by decide +kernel
theorem rt280 : am_rtt 280 = some (some .int) := by decide +kernel
set_option maxRecDepth 100000 in
theorem pg280 : am_pg[280]? = some am_m280 := rfl
theorem m280_w {d mc ms : Nat} {D : am_D} {v1 : Int32} {v2 : Int32} {v3 : Int32} {Q : am_O → am_AH → Prop} (hd : 6 ≤ d) {r : Int32 × am_D} (h : m280 D v1 v2 v3 = some r) (hE1 : ∀ x : Nat, 0 + 1 ≤ mc) (hE2 : ∀ x : Nat, 0 + 6 ≤ ms) (hQ : Q (.inl (some (.int r.1))) (am_mk r.2)) : am_X xs L 280 d mc ms 0 [.ref 0, .int v1, .int v2, .int v3, .ref 124, am_dead] [] (am_mk D) 0 0 Q := by
  unfold m280 at h
  refine x_ld (v := .ref 124) r280_0 rfl rfl rfl ?_
  refine x_ic (v := 0) r280_2 rfl rfl ?_
  refine x_ld (v := .ref 0) r280_3 rfl rfl rfl ?_
  refine x_ld (v := .int v1) r280_4 rfl rfl rfl ?_
  refine x_ld (v := .int v2) r280_5 rfl rfl rfl ?_
  refine x_ld (v := .int v3) r280_6 rfl rfl rfl ?_
  obtain ⟨q1, h2, h⟩ := am_ltE h
  replace h2 := h2.symm
  rcases am_chE h with ⟨x3, h4, h⟩ | ⟨E7, h4, h⟩
  · refine x_call1 (as := [.ref 0, .int v1, .int v2, .int v3]) (rest := [.int (0 : Int32), .ref 124]) r280_7 rfl rfl rfl (by decide) (Nat.le_of_ble_eq_true rfl) (m23_okv h2 h4) (Nat.le_trans (by decide) hd) (Nat.zero_le _) (Nat.zero_le _) rfl ?_
    refine x_ar r280_10 rfl trivial rfl ?_
    obtain ⟨D5, e6, h⟩ := am_ltE h
    refine y_las (n := 1) r280_11 rfl (by decide) (by decide) (e := 0) (by decide) e6 rfl ?_
    refine x_goto r280_12 ?_
    refine x_ic (v := 0) r280_23 rfl rfl ?_
    cases h
    exact x_ret (ret := some .int) (C := True) (v := some (.int _)) r280_24 rt280 rfl rfl rfl rfl rfl rfl rfl rfl trivial hQ
  · rcases am_ifE h with ⟨c8, h⟩ | ⟨c8, h⟩
    · rw [c8] at h4
      refine x_callH (as := [.ref 0, .int v1, .int v2, .int v3]) (rest := [.int (0 : Int32), .ref 124]) (p' := 17) (il := 5) r280_7 rfl rfl rfl (by decide) (Nat.le_of_ble_eq_true rfl) (m23_exv h2 h4) (Nat.le_trans (by decide) hd) (hE1 0) (hE2 0) rfl (Nat.le_of_ble_eq_true rfl) ?_
      refine x_ic (v := 1) r280_17 rfl rfl ?_
      cases h
      exact x_ret (ret := some .int) (C := True) (v := some (.int _)) r280_18 rt280 rfl rfl rfl rfl rfl rfl rfl rfl trivial hQ
    · rcases am_ifE h with ⟨c9, h⟩ | ⟨c9, h⟩
      · rw [c9] at h4
        refine x_callH (as := [.ref 0, .int v1, .int v2, .int v3]) (rest := [.int (0 : Int32), .ref 124]) (p' := 21) (il := 5) r280_7 rfl rfl rfl (by decide) (Nat.le_of_ble_eq_true rfl) (m23_exv h2 h4) (Nat.le_trans (by decide) hd) (hE1 0) (hE2 0) rfl (Nat.le_of_ble_eq_true rfl) ?_
        refine x_ic (v := 2) r280_21 rfl rfl ?_
        cases h
        exact x_ret (ret := some .int) (C := True) (v := some (.int _)) r280_22 rt280 rfl rfl rfl rfl rfl rfl rfl rfl trivial hQ
      · cases h
theorem m280_ok {D : am_D} {v1 : Int32} {v2 : Int32} {v3 : Int32} {r : Int32 × am_D} (h : m280 D v1 v2 v3 = some r) : am_Y xs L 280 6 1 6 [.ref 0, .int v1, .int v2, .int v3, .ref 124] D (.inl (some (.int r.1))) r.2 := am_Yof (mi := am_m280) (lc := [.ref 0, .int v1, .int v2, .int v3, .ref 124, am_dead]) pg280 (Nat.le_of_ble_eq_true rfl) (am_rc0 rfl) rfl (fun Q hQ => m280_w (Nat.le_refl _) h (fun _ => Nat.le_refl _) (fun _ => Nat.le_refl _) hQ)
end XE
