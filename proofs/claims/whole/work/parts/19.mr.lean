/-! methods as functions, with their walks (by wip/tools/decomp.py): 33 34 38 172 242 264 265 281 282 283 284 285 29 31 -/
section XE
variable {xs : Nat → Int32} {L : Nat}
theorem r33_0 : am_at 33 0 = some (.lload_n 1, 1, [1]) := by decide +kernel
theorem r33_1 : am_at 33 1 = some (.lstore_n 3, 1, [3]) := by decide +kernel
theorem r33_2 : am_at 33 2 = some (.iconst (0), 1, []) := by decide +kernel
theorem r33_3 : am_at 33 3 = some (.istore 5, 2, [5]) := by decide +kernel
theorem r33_5 : am_at 33 5 = some (.iload 5, 2, [5]) := by decide +kernel
theorem r33_7 : am_at 33 7 = some (.iconst (4), 1, []) := by decide +kernel
theorem r33_8 : am_at 33 8 = some (.if_icmp .ge (71), 3, [79]) := by decide +kernel
theorem r33_11 : am_at 33 11 = some (.iconst (0), 1, []) := by decide +kernel
theorem r33_12 : am_at 33 12 = some (.istore 6, 2, [6]) := by decide +kernel
theorem r33_14 : am_at 33 14 = some (.iload 6, 2, [6]) := by decide +kernel
theorem r33_16 : am_at 33 16 = some (.bipush (9), 2, []) := by decide +kernel
theorem r33_18 : am_at 33 18 = some (.if_icmp .gt (25), 3, [43]) := by decide +kernel
theorem r33_21 : am_at 33 21 = some (.ldc2_w 418, 3, [1, 419, 31]) := by decide +kernel
theorem r33_24 : am_at 33 24 = some (.lload_n 3, 1, [3]) := by decide +kernel
theorem r33_25 : am_at 33 25 = some (.lmul, 1, []) := by decide +kernel
theorem r33_26 : am_at 33 26 = some (.aload_n 0, 1, [0]) := by decide +kernel
theorem r33_27 : am_at 33 27 = some (.iload 5, 2, [5]) := by decide +kernel
theorem r33_29 : am_at 33 29 = some (.iload 6, 2, [6]) := by decide +kernel
theorem r33_31 : am_at 33 31 = some (.invokevirtual 455, 3, [21, 3, 585, 0]) := by decide +kernel
theorem r33_34 : am_at 33 34 = some (.i2l, 1, []) := by decide +kernel
theorem r33_35 : am_at 33 35 = some (.ladd, 1, []) := by decide +kernel
theorem r33_36 : am_at 33 36 = some (.lstore_n 3, 1, [3]) := by decide +kernel
theorem r33_37 : am_at 33 37 = some (.iinc 6 (1), 3, [6]) := by decide +kernel
theorem r33_40 : am_at 33 40 = some (.goto (-26), 3, [14]) := by decide +kernel
theorem r33_43 : am_at 33 43 = some (.ldc2_w 418, 3, [1, 419, 31]) := by decide +kernel
theorem r33_46 : am_at 33 46 = some (.lload_n 3, 1, [3]) := by decide +kernel
theorem r33_47 : am_at 33 47 = some (.lmul, 1, []) := by decide +kernel
theorem r33_48 : am_at 33 48 = some (.aload_n 0, 1, [0]) := by decide +kernel
theorem r33_49 : am_at 33 49 = some (.iload 5, 2, [5]) := by decide +kernel
theorem r33_51 : am_at 33 51 = some (.iconst (0), 1, []) := by decide +kernel
theorem r33_52 : am_at 33 52 = some (.invokevirtual 372, 3, [24, 3, 633, 0]) := by decide +kernel
theorem r33_55 : am_at 33 55 = some (.i2l, 1, []) := by decide +kernel
theorem r33_56 : am_at 33 56 = some (.ladd, 1, []) := by decide +kernel
theorem r33_57 : am_at 33 57 = some (.lstore_n 3, 1, [3]) := by decide +kernel
theorem r33_58 : am_at 33 58 = some (.ldc2_w 418, 3, [1, 419, 31]) := by decide +kernel
theorem r33_61 : am_at 33 61 = some (.lload_n 3, 1, [3]) := by decide +kernel
theorem r33_62 : am_at 33 62 = some (.lmul, 1, []) := by decide +kernel
theorem r33_63 : am_at 33 63 = some (.aload_n 0, 1, [0]) := by decide +kernel
theorem r33_64 : am_at 33 64 = some (.iload 5, 2, [5]) := by decide +kernel
theorem r33_66 : am_at 33 66 = some (.iconst (1), 1, []) := by decide +kernel
theorem r33_67 : am_at 33 67 = some (.invokevirtual 372, 3, [24, 3, 633, 0]) := by decide +kernel
theorem r33_70 : am_at 33 70 = some (.i2l, 1, []) := by decide +kernel
theorem r33_71 : am_at 33 71 = some (.ladd, 1, []) := by decide +kernel
theorem r33_72 : am_at 33 72 = some (.lstore_n 3, 1, [3]) := by decide +kernel
theorem r33_73 : am_at 33 73 = some (.iinc 5 (1), 3, [5]) := by decide +kernel
theorem r33_76 : am_at 33 76 = some (.goto (-71), 3, [5]) := by decide +kernel
theorem r33_79 : am_at 33 79 = some (.lload_n 3, 1, [3]) := by decide +kernel
theorem r33_80 : am_at 33 80 = some (.lreturn, 1, []) := by decide +kernel
theorem rt33 : am_rtt 33 = some (some .long) := by decide +kernel
set_option maxRecDepth 100000 in
theorem pg33 : am_pg[33]? = some am_m33 := rfl
theorem m33_L14_w {d : Nat} {N : Nat} {v5 : Int32} {mc ms : Nat} {Q : am_O → am_AH → Prop} (hd : 16 ≤ d) : ∀ (n : Nat) (D : am_D) (v3 : Int64) (v6 : Int32) {q : Int64 × am_D} (h : m33_L14 N v5  n D v3 v6 = some q) (k0 : am_X xs L 33 d mc ms 43 [.ref 0, am_dead, am_dead, .long q.1, am_dead, .int v5, am_dead] [] (am_mk q.2) 0 0 Q), am_X xs L 33 d mc ms 14 [.ref 0, am_dead, am_dead, .long v3, am_dead, .int v5, .int v6] [] (am_mk D) 0 0 Q := by
  intro n
  induction n with
  | zero =>
    intro D v3 v6 q h k0
    exact (nomatch (show none = some q from h))
  | succ n ih =>
    intro D v3 v6 q h k0
    rw [m33_L14] at h
    refine x_ld (v := .int v6) r33_14 rfl rfl rfl ?_
    refine x_bi (v := 9) r33_16 rfl rfl ?_
    rcases am_ifE h with ⟨c2, h⟩ | ⟨c2, h⟩
    · refine x_icgtT r33_18 c2 ?_
      refine x_forget (lc0 := [.ref 0, am_dead, am_dead, .long v3, am_dead, .int v5, am_dead]) ⟨Or.inl rfl, Or.inl rfl, Or.inl rfl, Or.inl rfl, Or.inl rfl, Or.inl rfl, Or.inr ⟨rfl, rfl⟩, trivial⟩ ?_
      cases h
      exact k0
    · refine x_icgtF r33_18 c2 rfl ?_
      refine x_sp r33_21 rfl rfl rfl rfl rfl rfl trivial rfl ?_
      refine x_ld (v := .long v3) r33_24 rfl rfl rfl ?_
      refine x_ar r33_25 rfl trivial rfl ?_
      refine x_ld (v := .ref 0) r33_26 rfl rfl rfl ?_
      refine x_ld (v := .int v5) r33_27 rfl rfl rfl ?_
      refine x_ld (v := .int v6) r33_29 rfl rfl rfl ?_
      obtain ⟨q3, h4, h⟩ := Option.bind_eq_some_iff.mp h
      obtain ⟨x5, h6, h⟩ := Option.bind_eq_some_iff.mp h
      refine x_call1 (as := [.ref 0, .int v5, .int v6]) (rest := [.long ((Int64.ofNat 31) * v3)]) r33_31 rfl rfl rfl (by decide) (Nat.le_of_ble_eq_true rfl) (m21_okv h4 h6) (Nat.le_trans (by decide) hd) (Nat.zero_le _) (Nat.zero_le _) rfl ?_
      refine x_ar r33_34 rfl trivial rfl ?_
      refine x_ar r33_35 rfl trivial rfl ?_
      obtain ⟨x7, e8, h⟩ := am_ltE h
      refine am_topJ e8 ?_
      refine x_sto (lc' := [.ref 0, am_dead, am_dead, .long x7, am_dead, .int v5, .int v6]) r33_36 rfl rfl rfl rfl ?_
      obtain ⟨x9, e10, h⟩ := am_ltE h
      refine x_sto (lc' := [.ref 0, am_dead, am_dead, .long x7, am_dead, .int v5, .int x9]) r33_37 rfl rfl (by subst e10; rfl) rfl ?_
      refine x_goto r33_40 ?_
      exact x_forget (lc0 := [.ref 0, am_dead, am_dead, .long x7, am_dead, .int v5, .int x9]) ⟨Or.inl rfl, Or.inl rfl, Or.inl rfl, Or.inl rfl, Or.inl rfl, Or.inl rfl, Or.inl rfl, trivial⟩ (ih q3.2 x7 x9 h k0)
theorem m33_L5_w {d : Nat} {N : Nat} {mc ms : Nat} {Q : am_O → am_AH → Prop} (hd : 16 ≤ d) : ∀ (n : Nat) (D : am_D) (v3 : Int64) (v5 : Int32) {q : Int64 × am_D} (h : m33_L5 N  n D v3 v5 = some q) (k0 : am_X xs L 33 d mc ms 79 [.ref 0, am_dead, am_dead, .long q.1, am_dead, am_dead, am_dead] [] (am_mk q.2) 0 0 Q), am_X xs L 33 d mc ms 5 [.ref 0, am_dead, am_dead, .long v3, am_dead, .int v5, am_dead] [] (am_mk D) 0 0 Q := by
  intro n
  induction n with
  | zero =>
    intro D v3 v5 q h k0
    exact (nomatch (show none = some q from h))
  | succ n ih =>
    intro D v3 v5 q h k0
    rw [m33_L5] at h
    refine x_ld (v := .int v5) r33_5 rfl rfl rfl ?_
    refine x_ic (v := 4) r33_7 rfl rfl ?_
    rcases am_ifE h with ⟨c1, h⟩ | ⟨c1, h⟩
    · refine x_icgeT r33_8 c1 ?_
      refine x_forget (lc0 := [.ref 0, am_dead, am_dead, .long v3, am_dead, am_dead, am_dead]) ⟨Or.inl rfl, Or.inl rfl, Or.inl rfl, Or.inl rfl, Or.inl rfl, Or.inr ⟨rfl, rfl⟩, Or.inl rfl, trivial⟩ ?_
      cases h
      exact k0
    · refine x_icgeF r33_8 c1 rfl ?_
      refine x_ic (v := 0) r33_11 rfl rfl ?_
      refine x_sto (lc' := [.ref 0, am_dead, am_dead, .long v3, am_dead, .int v5, .int (0 : Int32)]) r33_12 rfl rfl rfl rfl ?_
      obtain ⟨q11, h12, h⟩ := Option.bind_eq_some_iff.mp h
      refine x_forget (lc0 := [.ref 0, am_dead, am_dead, .long v3, am_dead, .int v5, .int (0 : Int32)]) ⟨Or.inl rfl, Or.inl rfl, Or.inl rfl, Or.inl rfl, Or.inl rfl, Or.inl rfl, Or.inl rfl, trivial⟩ (m33_L14_w hd N D v3 (0 : Int32) h12 ?_)
      refine x_sp r33_43 rfl rfl rfl rfl rfl rfl trivial rfl ?_
      refine x_ld (v := .long q11.1) r33_46 rfl rfl rfl ?_
      refine x_ar r33_47 rfl trivial rfl ?_
      refine x_ld (v := .ref 0) r33_48 rfl rfl rfl ?_
      refine x_ld (v := .int v5) r33_49 rfl rfl rfl ?_
      refine x_ic (v := 0) r33_51 rfl rfl ?_
      obtain ⟨q13, h14, h⟩ := Option.bind_eq_some_iff.mp h
      obtain ⟨x15, h16, h⟩ := Option.bind_eq_some_iff.mp h
      refine x_call1 (as := [.ref 0, .int v5, .int (0 : Int32)]) (rest := [.long ((Int64.ofNat 31) * q11.1)]) r33_52 rfl rfl rfl (by decide) (Nat.le_of_ble_eq_true rfl) (m24_okv h14 h16) (Nat.le_trans (by decide) hd) (Nat.zero_le _) (Nat.zero_le _) rfl ?_
      refine x_ar r33_55 rfl trivial rfl ?_
      refine x_ar r33_56 rfl trivial rfl ?_
      obtain ⟨x17, e18, h⟩ := am_ltE h
      refine am_topJ e18 ?_
      refine x_sto (lc' := [.ref 0, am_dead, am_dead, .long x17, am_dead, .int v5, am_dead]) r33_57 rfl rfl rfl rfl ?_
      refine x_sp r33_58 rfl rfl rfl rfl rfl rfl trivial rfl ?_
      refine x_ld (v := .long x17) r33_61 rfl rfl rfl ?_
      refine x_ar r33_62 rfl trivial rfl ?_
      refine x_ld (v := .ref 0) r33_63 rfl rfl rfl ?_
      refine x_ld (v := .int v5) r33_64 rfl rfl rfl ?_
      refine x_ic (v := 1) r33_66 rfl rfl ?_
      obtain ⟨q19, h20, h⟩ := Option.bind_eq_some_iff.mp h
      obtain ⟨x21, h22, h⟩ := Option.bind_eq_some_iff.mp h
      refine x_call1 (as := [.ref 0, .int v5, .int (1 : Int32)]) (rest := [.long ((Int64.ofNat 31) * x17)]) r33_67 rfl rfl rfl (by decide) (Nat.le_of_ble_eq_true rfl) (m24_okv h20 h22) (Nat.le_trans (by decide) hd) (Nat.zero_le _) (Nat.zero_le _) rfl ?_
      refine x_ar r33_70 rfl trivial rfl ?_
      refine x_ar r33_71 rfl trivial rfl ?_
      obtain ⟨x23, e24, h⟩ := am_ltE h
      refine am_topJ e24 ?_
      refine x_sto (lc' := [.ref 0, am_dead, am_dead, .long x23, am_dead, .int v5, am_dead]) r33_72 rfl rfl rfl rfl ?_
      obtain ⟨x25, e26, h⟩ := am_ltE h
      refine x_sto (lc' := [.ref 0, am_dead, am_dead, .long x23, am_dead, .int x25, am_dead]) r33_73 rfl rfl (by subst e26; rfl) rfl ?_
      refine x_goto r33_76 ?_
      exact x_forget (lc0 := [.ref 0, am_dead, am_dead, .long x23, am_dead, .int x25, am_dead]) ⟨Or.inl rfl, Or.inl rfl, Or.inl rfl, Or.inl rfl, Or.inl rfl, Or.inl rfl, Or.inl rfl, trivial⟩ (ih q19.2 x23 x25 h k0)
theorem m33_w {d mc ms : Nat} {N : Nat} {D : am_D} {v1 : Int64} {Q : am_O → am_AH → Prop} (hd : 16 ≤ d) {r : Int64 × am_D} (h : m33 N D v1 = some r) (hQ : Q (.inl (some (.long r.1))) (am_mk r.2)) : am_X xs L 33 d mc ms 0 [.ref 0, .long v1, am_dead, am_dead, am_dead, am_dead, am_dead] [] (am_mk D) 0 0 Q := by
  unfold m33 at h
  refine x_ld (v := .long v1) r33_0 rfl rfl rfl ?_
  refine x_sto (lc' := [.ref 0, .long v1, am_dead, .long v1, am_dead, am_dead, am_dead]) r33_1 rfl rfl rfl rfl ?_
  refine x_ic (v := 0) r33_2 rfl rfl ?_
  refine x_sto (lc' := [.ref 0, .long v1, am_dead, .long v1, am_dead, .int (0 : Int32), am_dead]) r33_3 rfl rfl rfl rfl ?_
  obtain ⟨q27, h28, h⟩ := Option.bind_eq_some_iff.mp h
  refine x_forget (lc0 := [.ref 0, am_dead, am_dead, .long v1, am_dead, .int (0 : Int32), am_dead]) ⟨Or.inl rfl, Or.inr ⟨rfl, rfl⟩, Or.inl rfl, Or.inl rfl, Or.inl rfl, Or.inl rfl, Or.inl rfl, trivial⟩ (m33_L5_w hd N D v1 (0 : Int32) h28 ?_)
  refine x_ld (v := .long q27.1) r33_79 rfl rfl rfl ?_
  cases h
  exact x_ret (ret := some .long) (C := True) (v := some (.long _)) r33_80 rt33 rfl rfl rfl rfl rfl rfl rfl rfl trivial hQ
theorem m33_ok {N : Nat} {D : am_D} {v1 : Int64} {r : Int64 × am_D} (h : m33 N D v1 = some r) : am_Y xs L 33 16 0 0 [.ref 0, .long v1] D (.inl (some (.long r.1))) r.2 := am_Yof (mi := am_m33) (lc := [.ref 0, .long v1, am_dead, am_dead, am_dead, am_dead, am_dead]) pg33 (Nat.le_of_ble_eq_true rfl) (am_rc1 (ci := 7) rfl rfl rfl rfl rfl) rfl (fun Q hQ => m33_w (Nat.le_refl _) h hQ)
theorem r34_0 : am_at 34 0 = some (.lload_n 1, 1, [1]) := by decide +kernel
theorem r34_1 : am_at 34 1 = some (.lstore_n 3, 1, [3]) := by decide +kernel
theorem r34_2 : am_at 34 2 = some (.iconst (1), 1, []) := by decide +kernel
theorem r34_3 : am_at 34 3 = some (.istore 5, 2, [5]) := by decide +kernel
theorem r34_5 : am_at 34 5 = some (.iload 5, 2, [5]) := by decide +kernel
theorem r34_7 : am_at 34 7 = some (.iconst (4), 1, []) := by decide +kernel
theorem r34_8 : am_at 34 8 = some (.if_icmp .ge (59), 3, [67]) := by decide +kernel
theorem r34_11 : am_at 34 11 = some (.ldc2_w 418, 3, [1, 419, 31]) := by decide +kernel
theorem r34_14 : am_at 34 14 = some (.lload_n 3, 1, [3]) := by decide +kernel
theorem r34_15 : am_at 34 15 = some (.lmul, 1, []) := by decide +kernel
theorem r34_16 : am_at 34 16 = some (.aload_n 0, 1, [0]) := by decide +kernel
theorem r34_17 : am_at 34 17 = some (.iconst (0), 1, []) := by decide +kernel
theorem r34_18 : am_at 34 18 = some (.iload 5, 2, [5]) := by decide +kernel
theorem r34_20 : am_at 34 20 = some (.iconst (0), 1, []) := by decide +kernel
theorem r34_21 : am_at 34 21 = some (.invokevirtual 375, 3, [25, 4, 695, 0]) := by decide +kernel
theorem r34_24 : am_at 34 24 = some (.i2l, 1, []) := by decide +kernel
theorem r34_25 : am_at 34 25 = some (.ladd, 1, []) := by decide +kernel
theorem r34_26 : am_at 34 26 = some (.lstore_n 3, 1, [3]) := by decide +kernel
theorem r34_27 : am_at 34 27 = some (.ldc2_w 418, 3, [1, 419, 31]) := by decide +kernel
theorem r34_30 : am_at 34 30 = some (.lload_n 3, 1, [3]) := by decide +kernel
theorem r34_31 : am_at 34 31 = some (.lmul, 1, []) := by decide +kernel
theorem r34_32 : am_at 34 32 = some (.aload_n 0, 1, [0]) := by decide +kernel
theorem r34_33 : am_at 34 33 = some (.iconst (0), 1, []) := by decide +kernel
theorem r34_34 : am_at 34 34 = some (.iload 5, 2, [5]) := by decide +kernel
theorem r34_36 : am_at 34 36 = some (.bipush (13), 2, []) := by decide +kernel
theorem r34_38 : am_at 34 38 = some (.invokevirtual 375, 3, [25, 4, 695, 0]) := by decide +kernel
theorem r34_41 : am_at 34 41 = some (.i2l, 1, []) := by decide +kernel
theorem r34_42 : am_at 34 42 = some (.ladd, 1, []) := by decide +kernel
theorem r34_43 : am_at 34 43 = some (.lstore_n 3, 1, [3]) := by decide +kernel
theorem r34_44 : am_at 34 44 = some (.ldc2_w 418, 3, [1, 419, 31]) := by decide +kernel
theorem r34_47 : am_at 34 47 = some (.lload_n 3, 1, [3]) := by decide +kernel
theorem r34_48 : am_at 34 48 = some (.lmul, 1, []) := by decide +kernel
theorem r34_49 : am_at 34 49 = some (.aload_n 0, 1, [0]) := by decide +kernel
theorem r34_50 : am_at 34 50 = some (.iconst (0), 1, []) := by decide +kernel
theorem r34_51 : am_at 34 51 = some (.iload 5, 2, [5]) := by decide +kernel
theorem r34_53 : am_at 34 53 = some (.bipush (27), 2, []) := by decide +kernel
theorem r34_55 : am_at 34 55 = some (.invokevirtual 375, 3, [25, 4, 695, 0]) := by decide +kernel
theorem r34_58 : am_at 34 58 = some (.i2l, 1, []) := by decide +kernel
theorem r34_59 : am_at 34 59 = some (.ladd, 1, []) := by decide +kernel
theorem r34_60 : am_at 34 60 = some (.lstore_n 3, 1, [3]) := by decide +kernel
theorem r34_61 : am_at 34 61 = some (.iinc 5 (1), 3, [5]) := by decide +kernel
theorem r34_64 : am_at 34 64 = some (.goto (-59), 3, [5]) := by decide +kernel
theorem r34_67 : am_at 34 67 = some (.iconst (0), 1, []) := by decide +kernel
theorem r34_68 : am_at 34 68 = some (.istore 5, 2, [5]) := by decide +kernel
theorem r34_70 : am_at 34 70 = some (.iload 5, 2, [5]) := by decide +kernel
theorem r34_72 : am_at 34 72 = some (.iconst (4), 1, []) := by decide +kernel
theorem r34_73 : am_at 34 73 = some (.if_icmp .ge (24), 3, [97]) := by decide +kernel
theorem r34_76 : am_at 34 76 = some (.ldc2_w 418, 3, [1, 419, 31]) := by decide +kernel
theorem r34_79 : am_at 34 79 = some (.lload_n 3, 1, [3]) := by decide +kernel
theorem r34_80 : am_at 34 80 = some (.lmul, 1, []) := by decide +kernel
theorem r34_81 : am_at 34 81 = some (.aload_n 0, 1, [0]) := by decide +kernel
theorem r34_82 : am_at 34 82 = some (.iconst (1), 1, []) := by decide +kernel
theorem r34_83 : am_at 34 83 = some (.iload 5, 2, [5]) := by decide +kernel
theorem r34_85 : am_at 34 85 = some (.invokevirtual 458, 3, [26, 3, 709, 0]) := by decide +kernel
theorem r34_88 : am_at 34 88 = some (.i2l, 1, []) := by decide +kernel
theorem r34_89 : am_at 34 89 = some (.ladd, 1, []) := by decide +kernel
theorem r34_90 : am_at 34 90 = some (.lstore_n 3, 1, [3]) := by decide +kernel
theorem r34_91 : am_at 34 91 = some (.iinc 5 (1), 3, [5]) := by decide +kernel
theorem r34_94 : am_at 34 94 = some (.goto (-24), 3, [70]) := by decide +kernel
theorem r34_97 : am_at 34 97 = some (.lload_n 3, 1, [3]) := by decide +kernel
theorem r34_98 : am_at 34 98 = some (.lreturn, 1, []) := by decide +kernel
theorem rt34 : am_rtt 34 = some (some .long) := by decide +kernel
set_option maxRecDepth 100000 in
theorem pg34 : am_pg[34]? = some am_m34 := rfl
theorem m34_L5_w {d : Nat} {N : Nat} {mc ms : Nat} {Q : am_O → am_AH → Prop} (hd : 7 ≤ d) : ∀ (n : Nat) (D : am_D) (v3 : Int64) (v5 : Int32) {q : Int64 × am_D} (h : m34_L5 N  n D v3 v5 = some q) (k0 : am_X xs L 34 d mc ms 67 [.ref 0, am_dead, am_dead, .long q.1, am_dead, am_dead] [] (am_mk q.2) 0 0 Q), am_X xs L 34 d mc ms 5 [.ref 0, am_dead, am_dead, .long v3, am_dead, .int v5] [] (am_mk D) 0 0 Q := by
  intro n
  induction n with
  | zero =>
    intro D v3 v5 q h k0
    exact (nomatch (show none = some q from h))
  | succ n ih =>
    intro D v3 v5 q h k0
    rw [m34_L5] at h
    refine x_ld (v := .int v5) r34_5 rfl rfl rfl ?_
    refine x_ic (v := 4) r34_7 rfl rfl ?_
    rcases am_ifE h with ⟨c1, h⟩ | ⟨c1, h⟩
    · refine x_icgeT r34_8 c1 ?_
      refine x_forget (lc0 := [.ref 0, am_dead, am_dead, .long v3, am_dead, am_dead]) ⟨Or.inl rfl, Or.inl rfl, Or.inl rfl, Or.inl rfl, Or.inl rfl, Or.inr ⟨rfl, rfl⟩, trivial⟩ ?_
      cases h
      exact k0
    · refine x_icgeF r34_8 c1 rfl ?_
      refine x_sp r34_11 rfl rfl rfl rfl rfl rfl trivial rfl ?_
      refine x_ld (v := .long v3) r34_14 rfl rfl rfl ?_
      refine x_ar r34_15 rfl trivial rfl ?_
      refine x_ld (v := .ref 0) r34_16 rfl rfl rfl ?_
      refine x_ic (v := 0) r34_17 rfl rfl ?_
      refine x_ld (v := .int v5) r34_18 rfl rfl rfl ?_
      refine x_ic (v := 0) r34_20 rfl rfl ?_
      obtain ⟨q2, h3, h⟩ := Option.bind_eq_some_iff.mp h
      obtain ⟨x4, h5, h⟩ := Option.bind_eq_some_iff.mp h
      refine x_call1 (as := [.ref 0, .int (0 : Int32), .int v5, .int (0 : Int32)]) (rest := [.long ((Int64.ofNat 31) * v3)]) r34_21 rfl rfl rfl (by decide) (Nat.le_of_ble_eq_true rfl) (m25_okv h3 h5) (Nat.le_trans (by decide) hd) (Nat.zero_le _) (Nat.zero_le _) rfl ?_
      refine x_ar r34_24 rfl trivial rfl ?_
      refine x_ar r34_25 rfl trivial rfl ?_
      obtain ⟨x6, e7, h⟩ := am_ltE h
      refine am_topJ e7 ?_
      refine x_sto (lc' := [.ref 0, am_dead, am_dead, .long x6, am_dead, .int v5]) r34_26 rfl rfl rfl rfl ?_
      refine x_sp r34_27 rfl rfl rfl rfl rfl rfl trivial rfl ?_
      refine x_ld (v := .long x6) r34_30 rfl rfl rfl ?_
      refine x_ar r34_31 rfl trivial rfl ?_
      refine x_ld (v := .ref 0) r34_32 rfl rfl rfl ?_
      refine x_ic (v := 0) r34_33 rfl rfl ?_
      refine x_ld (v := .int v5) r34_34 rfl rfl rfl ?_
      refine x_bi (v := 13) r34_36 rfl rfl ?_
      obtain ⟨q8, h9, h⟩ := Option.bind_eq_some_iff.mp h
      obtain ⟨x10, h11, h⟩ := Option.bind_eq_some_iff.mp h
      refine x_call1 (as := [.ref 0, .int (0 : Int32), .int v5, .int (13 : Int32)]) (rest := [.long ((Int64.ofNat 31) * x6)]) r34_38 rfl rfl rfl (by decide) (Nat.le_of_ble_eq_true rfl) (m25_okv h9 h11) (Nat.le_trans (by decide) hd) (Nat.zero_le _) (Nat.zero_le _) rfl ?_
      refine x_ar r34_41 rfl trivial rfl ?_
      refine x_ar r34_42 rfl trivial rfl ?_
      obtain ⟨x12, e13, h⟩ := am_ltE h
      refine am_topJ e13 ?_
      refine x_sto (lc' := [.ref 0, am_dead, am_dead, .long x12, am_dead, .int v5]) r34_43 rfl rfl rfl rfl ?_
      refine x_sp r34_44 rfl rfl rfl rfl rfl rfl trivial rfl ?_
      refine x_ld (v := .long x12) r34_47 rfl rfl rfl ?_
      refine x_ar r34_48 rfl trivial rfl ?_
      refine x_ld (v := .ref 0) r34_49 rfl rfl rfl ?_
      refine x_ic (v := 0) r34_50 rfl rfl ?_
      refine x_ld (v := .int v5) r34_51 rfl rfl rfl ?_
      refine x_bi (v := 27) r34_53 rfl rfl ?_
      obtain ⟨q14, h15, h⟩ := Option.bind_eq_some_iff.mp h
      obtain ⟨x16, h17, h⟩ := Option.bind_eq_some_iff.mp h
      refine x_call1 (as := [.ref 0, .int (0 : Int32), .int v5, .int (27 : Int32)]) (rest := [.long ((Int64.ofNat 31) * x12)]) r34_55 rfl rfl rfl (by decide) (Nat.le_of_ble_eq_true rfl) (m25_okv h15 h17) (Nat.le_trans (by decide) hd) (Nat.zero_le _) (Nat.zero_le _) rfl ?_
      refine x_ar r34_58 rfl trivial rfl ?_
      refine x_ar r34_59 rfl trivial rfl ?_
      obtain ⟨x18, e19, h⟩ := am_ltE h
      refine am_topJ e19 ?_
      refine x_sto (lc' := [.ref 0, am_dead, am_dead, .long x18, am_dead, .int v5]) r34_60 rfl rfl rfl rfl ?_
      obtain ⟨x20, e21, h⟩ := am_ltE h
      refine x_sto (lc' := [.ref 0, am_dead, am_dead, .long x18, am_dead, .int x20]) r34_61 rfl rfl (by subst e21; rfl) rfl ?_
      refine x_goto r34_64 ?_
      exact x_forget (lc0 := [.ref 0, am_dead, am_dead, .long x18, am_dead, .int x20]) ⟨Or.inl rfl, Or.inl rfl, Or.inl rfl, Or.inl rfl, Or.inl rfl, Or.inl rfl, trivial⟩ (ih q14.2 x18 x20 h k0)
theorem m34_L70_w {d : Nat} {N : Nat} {mc ms : Nat} {Q : am_O → am_AH → Prop} (hd : 7 ≤ d) : ∀ (n : Nat) (D : am_D) (v3 : Int64) (v5 : Int32) {q : Int64 × am_D} (h : m34_L70 N  n D v3 v5 = some q) (k0 : am_X xs L 34 d mc ms 97 [.ref 0, am_dead, am_dead, .long q.1, am_dead, am_dead] [] (am_mk q.2) 0 0 Q), am_X xs L 34 d mc ms 70 [.ref 0, am_dead, am_dead, .long v3, am_dead, .int v5] [] (am_mk D) 0 0 Q := by
  intro n
  induction n with
  | zero =>
    intro D v3 v5 q h k0
    exact (nomatch (show none = some q from h))
  | succ n ih =>
    intro D v3 v5 q h k0
    rw [m34_L70] at h
    refine x_ld (v := .int v5) r34_70 rfl rfl rfl ?_
    refine x_ic (v := 4) r34_72 rfl rfl ?_
    rcases am_ifE h with ⟨c24, h⟩ | ⟨c24, h⟩
    · refine x_icgeT r34_73 c24 ?_
      refine x_forget (lc0 := [.ref 0, am_dead, am_dead, .long v3, am_dead, am_dead]) ⟨Or.inl rfl, Or.inl rfl, Or.inl rfl, Or.inl rfl, Or.inl rfl, Or.inr ⟨rfl, rfl⟩, trivial⟩ ?_
      cases h
      exact k0
    · refine x_icgeF r34_73 c24 rfl ?_
      refine x_sp r34_76 rfl rfl rfl rfl rfl rfl trivial rfl ?_
      refine x_ld (v := .long v3) r34_79 rfl rfl rfl ?_
      refine x_ar r34_80 rfl trivial rfl ?_
      refine x_ld (v := .ref 0) r34_81 rfl rfl rfl ?_
      refine x_ic (v := 1) r34_82 rfl rfl ?_
      refine x_ld (v := .int v5) r34_83 rfl rfl rfl ?_
      obtain ⟨q25, h26, h⟩ := Option.bind_eq_some_iff.mp h
      obtain ⟨x27, h28, h⟩ := Option.bind_eq_some_iff.mp h
      refine x_call1 (as := [.ref 0, .int (1 : Int32), .int v5]) (rest := [.long ((Int64.ofNat 31) * v3)]) r34_85 rfl rfl rfl (by decide) (Nat.le_of_ble_eq_true rfl) (m26_okv h26 h28) (Nat.le_trans (by decide) hd) (Nat.zero_le _) (Nat.zero_le _) rfl ?_
      refine x_ar r34_88 rfl trivial rfl ?_
      refine x_ar r34_89 rfl trivial rfl ?_
      obtain ⟨x29, e30, h⟩ := am_ltE h
      refine am_topJ e30 ?_
      refine x_sto (lc' := [.ref 0, am_dead, am_dead, .long x29, am_dead, .int v5]) r34_90 rfl rfl rfl rfl ?_
      obtain ⟨x31, e32, h⟩ := am_ltE h
      refine x_sto (lc' := [.ref 0, am_dead, am_dead, .long x29, am_dead, .int x31]) r34_91 rfl rfl (by subst e32; rfl) rfl ?_
      refine x_goto r34_94 ?_
      exact x_forget (lc0 := [.ref 0, am_dead, am_dead, .long x29, am_dead, .int x31]) ⟨Or.inl rfl, Or.inl rfl, Or.inl rfl, Or.inl rfl, Or.inl rfl, Or.inl rfl, trivial⟩ (ih q25.2 x29 x31 h k0)
theorem m34_w {d mc ms : Nat} {N : Nat} {D : am_D} {v1 : Int64} {Q : am_O → am_AH → Prop} (hd : 7 ≤ d) {r : Int64 × am_D} (h : m34 N D v1 = some r) (hQ : Q (.inl (some (.long r.1))) (am_mk r.2)) : am_X xs L 34 d mc ms 0 [.ref 0, .long v1, am_dead, am_dead, am_dead, am_dead] [] (am_mk D) 0 0 Q := by
  unfold m34 at h
  refine x_ld (v := .long v1) r34_0 rfl rfl rfl ?_
  refine x_sto (lc' := [.ref 0, .long v1, am_dead, .long v1, am_dead, am_dead]) r34_1 rfl rfl rfl rfl ?_
  refine x_ic (v := 1) r34_2 rfl rfl ?_
  refine x_sto (lc' := [.ref 0, .long v1, am_dead, .long v1, am_dead, .int (1 : Int32)]) r34_3 rfl rfl rfl rfl ?_
  obtain ⟨q22, h23, h⟩ := Option.bind_eq_some_iff.mp h
  refine x_forget (lc0 := [.ref 0, am_dead, am_dead, .long v1, am_dead, .int (1 : Int32)]) ⟨Or.inl rfl, Or.inr ⟨rfl, rfl⟩, Or.inl rfl, Or.inl rfl, Or.inl rfl, Or.inl rfl, trivial⟩ (m34_L5_w hd N D v1 (1 : Int32) h23 ?_)
  refine x_ic (v := 0) r34_67 rfl rfl ?_
  refine x_sto (lc' := [.ref 0, am_dead, am_dead, .long q22.1, am_dead, .int (0 : Int32)]) r34_68 rfl rfl rfl rfl ?_
  obtain ⟨q33, h34, h⟩ := Option.bind_eq_some_iff.mp h
  refine x_forget (lc0 := [.ref 0, am_dead, am_dead, .long q22.1, am_dead, .int (0 : Int32)]) ⟨Or.inl rfl, Or.inl rfl, Or.inl rfl, Or.inl rfl, Or.inl rfl, Or.inl rfl, trivial⟩ (m34_L70_w hd N q22.2 q22.1 (0 : Int32) h34 ?_)
  refine x_ld (v := .long q33.1) r34_97 rfl rfl rfl ?_
  cases h
  exact x_ret (ret := some .long) (C := True) (v := some (.long _)) r34_98 rt34 rfl rfl rfl rfl rfl rfl rfl rfl trivial hQ
theorem m34_ok {N : Nat} {D : am_D} {v1 : Int64} {r : Int64 × am_D} (h : m34 N D v1 = some r) : am_Y xs L 34 7 0 0 [.ref 0, .long v1] D (.inl (some (.long r.1))) r.2 := am_Yof (mi := am_m34) (lc := [.ref 0, .long v1, am_dead, am_dead, am_dead, am_dead]) pg34 (Nat.le_of_ble_eq_true rfl) (am_rc1 (ci := 7) rfl rfl rfl rfl rfl) rfl (fun Q hQ => m34_w (Nat.le_refl _) h hQ)
theorem r38_0 : am_at 38 0 = some (.aload_n 0, 1, [0]) := by decide +kernel
theorem r38_1 : am_at 38 1 = some (.getfield 29, 3, [7, 3, 3, 335]) := by decide +kernel
theorem r38_4 : am_at 38 4 = some (.iload_n 1, 1, [1]) := by decide +kernel
theorem r38_5 : am_at 38 5 = some (.invokevirtual 461, 3, [234, 2, 785, 0]) := by decide +kernel
theorem r38_8 : am_at 38 8 = some (.lookupswitch (123) #[(99, 92), (108, 36), (112, 74)], 36, [131, 99, 100, 108, 44, 112, 82]) := by decide +kernel
theorem r38_44 : am_at 38 44 = some (.aload_n 0, 1, [0]) := by decide +kernel
theorem r38_45 : am_at 38 45 = some (.getfield 10, 3, [7, 0, 3, 332]) := by decide +kernel
theorem r38_48 : am_at 38 48 = some (.aload_n 0, 1, [0]) := by decide +kernel
theorem r38_49 : am_at 38 49 = some (.getfield 10, 3, [7, 0, 3, 332]) := by decide +kernel
theorem r38_52 : am_at 38 52 = some (.getfield 310, 3, [4, 7, 0, 177]) := by decide +kernel
theorem r38_55 : am_at 38 55 = some (.aload_n 0, 1, [0]) := by decide +kernel
theorem r38_56 : am_at 38 56 = some (.getfield 29, 3, [7, 3, 3, 335]) := by decide +kernel
theorem r38_59 : am_at 38 59 = some (.iload_n 1, 1, [1]) := by decide +kernel
theorem r38_60 : am_at 38 60 = some (.iconst (1), 1, []) := by decide +kernel
theorem r38_61 : am_at 38 61 = some (.iadd, 1, []) := by decide +kernel
theorem r38_62 : am_at 38 62 = some (.invokevirtual 466, 3, [236, 2, 1070, 0]) := by decide +kernel
theorem r38_65 : am_at 38 65 = some (.aload_n 0, 1, [0]) := by decide +kernel
theorem r38_66 : am_at 38 66 = some (.getfield 29, 3, [7, 3, 3, 335]) := by decide +kernel
theorem r38_69 : am_at 38 69 = some (.iload_n 1, 1, [1]) := by decide +kernel
theorem r38_70 : am_at 38 70 = some (.iconst (3), 1, []) := by decide +kernel
theorem r38_71 : am_at 38 71 = some (.iadd, 1, []) := by decide +kernel
theorem r38_72 : am_at 38 72 = some (.invokevirtual 469, 3, [237, 2, 1083, 0]) := by decide +kernel
theorem r38_75 : am_at 38 75 = some (.invokevirtual 139, 3, [223, 4, 906, 0]) := by decide +kernel
theorem r38_78 : am_at 38 78 = some (.pop, 1, []) := by decide +kernel
theorem r38_79 : am_at 38 79 = some (.goto (70), 3, [149]) := by decide +kernel
theorem r38_82 : am_at 38 82 = some (.aload_n 0, 1, [0]) := by decide +kernel
theorem r38_83 : am_at 38 83 = some (.getfield 10, 3, [7, 0, 3, 332]) := by decide +kernel
theorem r38_86 : am_at 38 86 = some (.aload_n 0, 1, [0]) := by decide +kernel
theorem r38_87 : am_at 38 87 = some (.getfield 10, 3, [7, 0, 3, 332]) := by decide +kernel
theorem r38_90 : am_at 38 90 = some (.getfield 310, 3, [4, 7, 0, 177]) := by decide +kernel
theorem r38_93 : am_at 38 93 = some (.invokevirtual 147, 3, [224, 2, 953, 0]) := by decide +kernel
theorem r38_96 : am_at 38 96 = some (.pop, 1, []) := by decide +kernel
theorem r38_97 : am_at 38 97 = some (.goto (52), 3, [149]) := by decide +kernel
theorem r38_100 : am_at 38 100 = some (.aload_n 0, 1, [0]) := by decide +kernel
theorem r38_101 : am_at 38 101 = some (.getfield 10, 3, [7, 0, 3, 332]) := by decide +kernel
theorem r38_104 : am_at 38 104 = some (.aload_n 0, 1, [0]) := by decide +kernel
theorem r38_105 : am_at 38 105 = some (.getfield 29, 3, [7, 3, 3, 335]) := by decide +kernel
theorem r38_108 : am_at 38 108 = some (.iload_n 1, 1, [1]) := by decide +kernel
theorem r38_109 : am_at 38 109 = some (.iconst (1), 1, []) := by decide +kernel
theorem r38_110 : am_at 38 110 = some (.iadd, 1, []) := by decide +kernel
theorem r38_111 : am_at 38 111 = some (.invokevirtual 461, 3, [234, 2, 785, 0]) := by decide +kernel
theorem r38_114 : am_at 38 114 = some (.bipush (43), 2, []) := by decide +kernel
theorem r38_116 : am_at 38 116 = some (.if_icmp .ne (7), 3, [123]) := by decide +kernel
theorem r38_119 : am_at 38 119 = some (.iconst (1), 1, []) := by decide +kernel
theorem r38_120 : am_at 38 120 = some (.goto (4), 3, [124]) := by decide +kernel
theorem r38_123 : am_at 38 123 = some (.iconst (0), 1, []) := by decide +kernel
theorem r38_124 : am_at 38 124 = some (.invokevirtual 154, 3, [228, 2, 974, 0]) := by decide +kernel
theorem r38_127 : am_at 38 127 = some (.pop, 1, []) := by decide +kernel
theorem r38_128 : am_at 38 128 = some (.goto (21), 3, [149]) := by decide +kernel
theorem r38_131 : am_at 38 131 = some (.aload_n 0, 1, [0]) := by decide +kernel
theorem r38_132 : am_at 38 132 = some (.getfield 10, 3, [7, 0, 3, 332]) := by decide +kernel
theorem r38_135 : am_at 38 135 = some (.aload_n 0, 1, [0]) := by decide +kernel
theorem r38_136 : am_at 38 136 = some (.getfield 29, 3, [7, 3, 3, 335]) := by decide +kernel
theorem r38_139 : am_at 38 139 = some (.iload_n 1, 1, [1]) := by decide +kernel
theorem r38_140 : am_at 38 140 = some (.iconst (1), 1, []) := by decide +kernel
theorem r38_141 : am_at 38 141 = some (.iadd, 1, []) := by decide +kernel
theorem r38_142 : am_at 38 142 = some (.invokevirtual 472, 3, [238, 2, 1091, 0]) := by decide +kernel
theorem r38_145 : am_at 38 145 = some (.invokevirtual 159, 3, [229, 2, 989, 0]) := by decide +kernel
theorem r38_148 : am_at 38 148 = some (.pop, 1, []) := by decide +kernel
theorem r38_149 : am_at 38 149 = some (.return_, 1, []) := by decide +kernel
theorem rt38 : am_rtt 38 = some (none) := by decide +kernel
set_option maxRecDepth 100000 in
theorem pg38 : am_pg[38]? = some am_m38 := rfl
theorem m38_w {d mc ms : Nat} {N : Nat} {D : am_D} {v1 : Int32} {Q : am_O → am_AH → Prop} (hd : 7 ≤ d) {r : am_D} (h : m38 N D v1 = some r) (hQ : Q (.inl none) (am_mk r)) : am_X xs L 38 d mc ms 0 [.ref 0, .int v1] [] (am_mk D) 0 0 Q := by
  unfold m38 at h
  refine x_ld (v := .ref 0) r38_0 rfl rfl rfl ?_
  refine y_gf (cd := 93) (v := .ref 91) r38_1 rfl rfl rfl ?_
  refine x_ld (v := .int v1) r38_4 rfl rfl rfl ?_
  refine x_call1 (as := [.ref 91, .int v1]) (rest := []) r38_5 rfl rfl rfl (by decide) (Nat.le_of_ble_eq_true rfl) (m234_ok rfl) (Nat.le_trans (by decide) hd) (Nat.zero_le _) (Nat.zero_le _) rfl ?_
  rcases am_ifE h with ⟨c1, h⟩ | ⟨c1, h⟩
  · refine x_lsw (p' := 100) r38_8 (am_swT c1) ?_
    refine x_ld (v := .ref 0) r38_100 rfl rfl rfl ?_
    refine y_gf (cd := 3) (v := .ref 1) r38_101 rfl rfl rfl ?_
    refine x_ld (v := .ref 0) r38_104 rfl rfl rfl ?_
    refine y_gf (cd := 93) (v := .ref 91) r38_105 rfl rfl rfl ?_
    refine x_ld (v := .int v1) r38_108 rfl rfl rfl ?_
    refine x_ic (v := 1) r38_109 rfl rfl ?_
    refine x_ar r38_110 rfl trivial rfl ?_
    refine x_call1 (as := [.ref 91, .int (v1 + (1 : Int32))]) (rest := [.ref 1]) r38_111 rfl rfl rfl (by decide) (Nat.le_of_ble_eq_true rfl) (m234_ok rfl) (Nat.le_trans (by decide) hd) (Nat.zero_le _) (Nat.zero_le _) rfl ?_
    refine x_bi (v := 43) r38_114 rfl rfl ?_
    obtain ⟨q2, h4, h⟩ := am_ltE h
    replace h4 := h4.symm
    have kj3 : am_X xs L 38 d mc ms 124 [.ref 0, .int v1] [.int q2, .ref 1] (am_mk D) 0 0 Q := by
      obtain ⟨q6, h7, h⟩ := am_ltE h
      replace h7 := h7.symm
      refine x_call1 (as := [.ref 1, .int q2]) (rest := []) r38_124 rfl rfl rfl (by decide) (Nat.le_of_ble_eq_true rfl) (m228_ok h7) (Nat.le_trans (by decide) hd) (Nat.zero_le _) (Nat.zero_le _) rfl ?_
      refine x_ar r38_127 rfl trivial rfl ?_
      refine x_goto r38_128 ?_
      cases h
      exact x_ret (ret := none) (C := True) (v := none) r38_149 rt38 rfl rfl rfl rfl rfl rfl rfl rfl trivial hQ
    rcases am_ifE h4 with ⟨c5, h4⟩ | ⟨c5, h4⟩
    · refine x_icneT r38_116 c5 rfl ?_
      refine x_ic (v := 1) r38_119 rfl rfl ?_
      refine x_goto r38_120 ?_
      subst h4
      exact kj3
    · refine x_icneF r38_116 c5 ?_
      refine x_ic (v := 0) r38_123 rfl rfl ?_
      subst h4
      exact kj3
  · rcases am_ifE h with ⟨c8, h⟩ | ⟨c8, h⟩
    · refine x_lsw (p' := 44) r38_8 (am_swF c1 (am_swT c8)) ?_
      refine x_ld (v := .ref 0) r38_44 rfl rfl rfl ?_
      refine y_gf (cd := 3) (v := .ref 1) r38_45 rfl rfl rfl ?_
      refine x_ld (v := .ref 0) r38_48 rfl rfl rfl ?_
      refine y_gf (cd := 3) (v := .ref 1) r38_49 rfl rfl rfl ?_
      refine y_gf (cd := 0) (v := .int (D.1 1 7)) r38_52 rfl rfl rfl ?_
      refine x_ld (v := .ref 0) r38_55 rfl rfl rfl ?_
      refine y_gf (cd := 93) (v := .ref 91) r38_56 rfl rfl rfl ?_
      refine x_ld (v := .int v1) r38_59 rfl rfl rfl ?_
      refine x_ic (v := 1) r38_60 rfl rfl ?_
      refine x_ar r38_61 rfl trivial rfl ?_
      refine x_call1 (as := [.ref 91, .int (v1 + (1 : Int32))]) (rest := [.int (D.1 1 7), .ref 1]) r38_62 rfl rfl rfl (by decide) (Nat.le_of_ble_eq_true rfl) (m236_ok rfl) (Nat.le_trans (by decide) hd) (Nat.zero_le _) (Nat.zero_le _) rfl ?_
      refine x_ld (v := .ref 0) r38_65 rfl rfl rfl ?_
      refine y_gf (cd := 93) (v := .ref 91) r38_66 rfl rfl rfl ?_
      refine x_ld (v := .int v1) r38_69 rfl rfl rfl ?_
      refine x_ic (v := 3) r38_70 rfl rfl ?_
      refine x_ar r38_71 rfl trivial rfl ?_
      refine x_call1 (as := [.ref 91, .int (v1 + (3 : Int32))]) (rest := [.int (m236 D (v1 + (1 : Int32))), .int (D.1 1 7), .ref 1]) r38_72 rfl rfl rfl (by decide) (Nat.le_of_ble_eq_true rfl) (m237_ok rfl) (Nat.le_trans (by decide) hd) (Nat.zero_le _) (Nat.zero_le _) rfl ?_
      obtain ⟨q9, h10, h⟩ := Option.bind_eq_some_iff.mp h
      refine x_call1 (as := [.ref 1, .int (D.1 1 7), .int (m236 D (v1 + (1 : Int32))), .int (m237 D (v1 + (3 : Int32)))]) (rest := []) r38_75 rfl rfl rfl (by decide) (Nat.le_of_ble_eq_true rfl) (m223_ok h10) (Nat.le_trans (by decide) hd) (Nat.zero_le _) (Nat.zero_le _) rfl ?_
      refine x_ar r38_78 rfl trivial rfl ?_
      refine x_goto r38_79 ?_
      cases h
      exact x_ret (ret := none) (C := True) (v := none) r38_149 rt38 rfl rfl rfl rfl rfl rfl rfl rfl trivial hQ
    · rcases am_ifE h with ⟨c11, h⟩ | ⟨c11, h⟩
      · refine x_lsw (p' := 82) r38_8 (am_swF c1 (am_swF c8 (am_swT c11))) ?_
        refine x_ld (v := .ref 0) r38_82 rfl rfl rfl ?_
        refine y_gf (cd := 3) (v := .ref 1) r38_83 rfl rfl rfl ?_
        refine x_ld (v := .ref 0) r38_86 rfl rfl rfl ?_
        refine y_gf (cd := 3) (v := .ref 1) r38_87 rfl rfl rfl ?_
        refine y_gf (cd := 0) (v := .int (D.1 1 7)) r38_90 rfl rfl rfl ?_
        obtain ⟨q12, h13, h⟩ := Option.bind_eq_some_iff.mp h
        refine x_call1 (as := [.ref 1, .int (D.1 1 7)]) (rest := []) r38_93 rfl rfl rfl (by decide) (Nat.le_of_ble_eq_true rfl) (m224_ok h13) (Nat.le_trans (by decide) hd) (Nat.zero_le _) (Nat.zero_le _) rfl ?_
        refine x_ar r38_96 rfl trivial rfl ?_
        refine x_goto r38_97 ?_
        cases h
        exact x_ret (ret := none) (C := True) (v := none) r38_149 rt38 rfl rfl rfl rfl rfl rfl rfl rfl trivial hQ
      · refine x_lsw (p' := 131) r38_8 (am_swF c1 (am_swF c8 (am_swF c11 (rfl)))) ?_
        refine x_ld (v := .ref 0) r38_131 rfl rfl rfl ?_
        refine y_gf (cd := 3) (v := .ref 1) r38_132 rfl rfl rfl ?_
        refine x_ld (v := .ref 0) r38_135 rfl rfl rfl ?_
        refine y_gf (cd := 93) (v := .ref 91) r38_136 rfl rfl rfl ?_
        refine x_ld (v := .int v1) r38_139 rfl rfl rfl ?_
        refine x_ic (v := 1) r38_140 rfl rfl ?_
        refine x_ar r38_141 rfl trivial rfl ?_
        refine x_call1 (as := [.ref 91, .int (v1 + (1 : Int32))]) (rest := [.ref 1]) r38_142 rfl rfl rfl (by decide) (Nat.le_of_ble_eq_true rfl) (m238_ok rfl) (Nat.le_trans (by decide) hd) (Nat.zero_le _) (Nat.zero_le _) rfl ?_
        obtain ⟨q14, h15, h⟩ := am_ltE h
        replace h15 := h15.symm
        refine x_call1 (as := [.ref 1, .int (m238 D (v1 + (1 : Int32)))]) (rest := []) r38_145 rfl rfl rfl (by decide) (Nat.le_of_ble_eq_true rfl) (m229_ok h15) (Nat.le_trans (by decide) hd) (Nat.zero_le _) (Nat.zero_le _) rfl ?_
        refine x_ar r38_148 rfl trivial rfl ?_
        cases h
        exact x_ret (ret := none) (C := True) (v := none) r38_149 rt38 rfl rfl rfl rfl rfl rfl rfl rfl trivial hQ
theorem m38_ok {N : Nat} {D : am_D} {v1 : Int32} {r : am_D} (h : m38 N D v1 = some r) : am_Y xs L 38 7 0 0 [.ref 0, .int v1] D (.inl none) r := am_Yof (mi := am_m38) (lc := [.ref 0, .int v1]) pg38 (Nat.le_of_ble_eq_true rfl) (am_rc1 (ci := 7) rfl rfl rfl rfl rfl) rfl (fun Q hQ => m38_w (Nat.le_refl _) h hQ)
theorem r172_0 : am_at 172 0 = some (.aload_n 0, 1, [0]) := by decide +kernel
theorem r172_1 : am_at 172 1 = some (.iconst (0), 1, []) := by decide +kernel
theorem r172_2 : am_at 172 2 = some (.putfield 24, 3, [2, 4, 0, 298]) := by decide +kernel
theorem r172_5 : am_at 172 5 = some (.iconst (0), 1, []) := by decide +kernel
theorem r172_6 : am_at 172 6 = some (.istore_n 2, 1, [2]) := by decide +kernel
theorem r172_7 : am_at 172 7 = some (.iload_n 2, 1, [2]) := by decide +kernel
theorem r172_8 : am_at 172 8 = some (.bipush (28), 2, []) := by decide +kernel
theorem r172_10 : am_at 172 10 = some (.if_icmp .ge (67), 3, [77]) := by decide +kernel
theorem r172_13 : am_at 172 13 = some (.aload_n 0, 1, [0]) := by decide +kernel
theorem r172_14 : am_at 172 14 = some (.getfield 24, 3, [2, 4, 0, 298]) := by decide +kernel
theorem r172_17 : am_at 172 17 = some (.bipush (9), 2, []) := by decide +kernel
theorem r172_19 : am_at 172 19 = some (.if_icmp .ge (58), 3, [77]) := by decide +kernel
theorem r172_22 : am_at 172 22 = some (.aload_n 1, 1, [1]) := by decide +kernel
theorem r172_23 : am_at 172 23 = some (.iload_n 2, 1, [2]) := by decide +kernel
theorem r172_24 : am_at 172 24 = some (.invokevirtual 28, 3, [203, 2, 727, 0]) := by decide +kernel
theorem r172_27 : am_at 172 27 = some (.istore_n 3, 1, [3]) := by decide +kernel
theorem r172_28 : am_at 172 28 = some (.iload_n 3, 1, [3]) := by decide +kernel
theorem r172_29 : am_at 172 29 = some (.ifCond .lt (42), 3, [71]) := by decide +kernel
theorem r172_32 : am_at 172 32 = some (.iload_n 3, 1, [3]) := by decide +kernel
theorem r172_33 : am_at 172 33 = some (.iconst (4), 1, []) := by decide +kernel
theorem r172_34 : am_at 172 34 = some (.if_icmp .ge (37), 3, [71]) := by decide +kernel
theorem r172_37 : am_at 172 37 = some (.aload_n 0, 1, [0]) := by decide +kernel
theorem r172_38 : am_at 172 38 = some (.getfield 9, 3, [2, 0, 3, 294]) := by decide +kernel
theorem r172_41 : am_at 172 41 = some (.aload_n 0, 1, [0]) := by decide +kernel
theorem r172_42 : am_at 172 42 = some (.getfield 24, 3, [2, 4, 0, 298]) := by decide +kernel
theorem r172_45 : am_at 172 45 = some (.iload_n 2, 1, [2]) := by decide +kernel
theorem r172_46 : am_at 172 46 = some (.invokestatic 34, 3, [181, 3, 728, 0]) := by decide +kernel
theorem r172_49 : am_at 172 49 = some (.aload_n 0, 1, [0]) := by decide +kernel
theorem r172_50 : am_at 172 50 = some (.getfield 15, 3, [2, 1, 3, 295]) := by decide +kernel
theorem r172_53 : am_at 172 53 = some (.aload_n 0, 1, [0]) := by decide +kernel
theorem r172_54 : am_at 172 54 = some (.getfield 24, 3, [2, 4, 0, 298]) := by decide +kernel
theorem r172_57 : am_at 172 57 = some (.iload_n 3, 1, [3]) := by decide +kernel
theorem r172_58 : am_at 172 58 = some (.invokestatic 34, 3, [181, 3, 728, 0]) := by decide +kernel
theorem r172_61 : am_at 172 61 = some (.aload_n 0, 1, [0]) := by decide +kernel
theorem r172_62 : am_at 172 62 = some (.dup, 1, []) := by decide +kernel
theorem r172_63 : am_at 172 63 = some (.getfield 24, 3, [2, 4, 0, 298]) := by decide +kernel
theorem r172_66 : am_at 172 66 = some (.iconst (1), 1, []) := by decide +kernel
theorem r172_67 : am_at 172 67 = some (.iadd, 1, []) := by decide +kernel
theorem r172_68 : am_at 172 68 = some (.putfield 24, 3, [2, 4, 0, 298]) := by decide +kernel
theorem r172_71 : am_at 172 71 = some (.iinc 2 (1), 3, [2]) := by decide +kernel
theorem r172_74 : am_at 172 74 = some (.goto (-67), 3, [7]) := by decide +kernel
theorem r172_77 : am_at 172 77 = some (.iconst (0), 1, []) := by decide +kernel
theorem r172_78 : am_at 172 78 = some (.istore_n 2, 1, [2]) := by decide +kernel
theorem r172_79 : am_at 172 79 = some (.iload_n 2, 1, [2]) := by decide +kernel
theorem r172_80 : am_at 172 80 = some (.iconst (1), 1, []) := by decide +kernel
theorem r172_81 : am_at 172 81 = some (.if_icmp .gt (41), 3, [122]) := by decide +kernel
theorem r172_84 : am_at 172 84 = some (.aload_n 0, 1, [0]) := by decide +kernel
theorem r172_85 : am_at 172 85 = some (.getfield 18, 3, [2, 2, 3, 296]) := by decide +kernel
theorem r172_88 : am_at 172 88 = some (.iload_n 2, 1, [2]) := by decide +kernel
theorem r172_89 : am_at 172 89 = some (.aload_n 1, 1, [1]) := by decide +kernel
theorem r172_90 : am_at 172 90 = some (.getfield 40, 3, [4, 0, 3, 161]) := by decide +kernel
theorem r172_93 : am_at 172 93 = some (.iload_n 2, 1, [2]) := by decide +kernel
theorem r172_94 : am_at 172 94 = some (.invokevirtual 44, 3, [156, 2, 729, 0]) := by decide +kernel
theorem r172_97 : am_at 172 97 = some (.invokestatic 34, 3, [181, 3, 728, 0]) := by decide +kernel
theorem r172_100 : am_at 172 100 = some (.aload_n 0, 1, [0]) := by decide +kernel
theorem r172_101 : am_at 172 101 = some (.getfield 21, 3, [2, 3, 3, 297]) := by decide +kernel
theorem r172_104 : am_at 172 104 = some (.iload_n 2, 1, [2]) := by decide +kernel
theorem r172_105 : am_at 172 105 = some (.aload_n 1, 1, [1]) := by decide +kernel
theorem r172_106 : am_at 172 106 = some (.getfield 40, 3, [4, 0, 3, 161]) := by decide +kernel
theorem r172_109 : am_at 172 109 = some (.iload_n 2, 1, [2]) := by decide +kernel
theorem r172_110 : am_at 172 110 = some (.invokevirtual 49, 3, [157, 2, 730, 0]) := by decide +kernel
theorem r172_113 : am_at 172 113 = some (.invokestatic 34, 3, [181, 3, 728, 0]) := by decide +kernel
theorem r172_116 : am_at 172 116 = some (.iinc 2 (1), 3, [2]) := by decide +kernel
theorem r172_119 : am_at 172 119 = some (.goto (-40), 3, [79]) := by decide +kernel
theorem r172_122 : am_at 172 122 = some (.aload_n 0, 1, [0]) := by decide +kernel
theorem r172_123 : am_at 172 123 = some (.iconst (-1), 1, []) := by decide +kernel
theorem r172_124 : am_at 172 124 = some (.putfield 52, 3, [2, 6, 0, 301]) := by decide +kernel
theorem r172_127 : am_at 172 127 = some (.aload_n 0, 1, [0]) := by decide +kernel
theorem r172_128 : am_at 172 128 = some (.iconst (-1), 1, []) := by decide +kernel
theorem r172_129 : am_at 172 129 = some (.putfield 55, 3, [2, 7, 0, 303]) := by decide +kernel
theorem r172_132 : am_at 172 132 = some (.aload_n 0, 1, [0]) := by decide +kernel
theorem r172_133 : am_at 172 133 = some (.iconst (0), 1, []) := by decide +kernel
theorem r172_134 : am_at 172 134 = some (.aload_n 1, 1, [1]) := by decide +kernel
theorem r172_135 : am_at 172 135 = some (.getfield 58, 3, [4, 7, 0, 176]) := by decide +kernel
theorem r172_138 : am_at 172 138 = some (.aload_n 1, 1, [1]) := by decide +kernel
theorem r172_139 : am_at 172 139 = some (.getfield 61, 3, [4, 11, 0, 185]) := by decide +kernel
theorem r172_142 : am_at 172 142 = some (.iconst (1), 1, []) := by decide +kernel
theorem r172_143 : am_at 172 143 = some (.aload_n 0, 1, [0]) := by decide +kernel
theorem r172_144 : am_at 172 144 = some (.getfield 24, 3, [2, 4, 0, 298]) := by decide +kernel
theorem r172_147 : am_at 172 147 = some (.ishl, 1, []) := by decide +kernel
theorem r172_148 : am_at 172 148 = some (.iconst (1), 1, []) := by decide +kernel
theorem r172_149 : am_at 172 149 = some (.isub, 1, []) := by decide +kernel
theorem r172_150 : am_at 172 150 = some (.invokevirtual 64, 3, [173, 5, 731, 0]) := by decide +kernel
theorem r172_153 : am_at 172 153 = some (.istore_n 2, 1, [2]) := by decide +kernel
theorem r172_154 : am_at 172 154 = some (.aload_n 0, 1, [0]) := by decide +kernel
theorem r172_155 : am_at 172 155 = some (.aload_n 1, 1, [1]) := by decide +kernel
theorem r172_156 : am_at 172 156 = some (.getfield 58, 3, [4, 7, 0, 176]) := by decide +kernel
theorem r172_159 : am_at 172 159 = some (.invokestatic 68, 3, [187, 1, 757, 0]) := by decide +kernel
theorem r172_162 : am_at 172 162 = some (.ifCond .ne (7), 3, [169]) := by decide +kernel
theorem r172_165 : am_at 172 165 = some (.iload_n 2, 1, [2]) := by decide +kernel
theorem r172_166 : am_at 172 166 = some (.goto (5), 3, [171]) := by decide +kernel
theorem r172_169 : am_at 172 169 = some (.iload_n 2, 1, [2]) := by decide +kernel
theorem r172_170 : am_at 172 170 = some (.ineg, 1, []) := by decide +kernel
theorem r172_171 : am_at 172 171 = some (.putfield 73, 3, [2, 5, 0, 299]) := by decide +kernel
theorem r172_174 : am_at 172 174 = some (.return_, 1, []) := by decide +kernel
theorem rt172 : am_rtt 172 = some (none) := by decide +kernel
set_option maxRecDepth 100000 in
theorem pg172 : am_pg[172]? = some am_m172 := rfl
theorem m172_L7_w {d : Nat} {N : Nat} {mc ms : Nat} {Q : am_O → am_AH → Prop} (hd : 54 ≤ d) : ∀ (n : Nat) (D : am_D) (v2 : Int32) {q : am_D} (h : m172_L7 N  n D v2 = some q) (k0 : am_X xs L 172 d mc ms 77 [.ref 99, .ref 1, am_dead, am_dead] [] (am_mk q) 0 0 Q), am_X xs L 172 d mc ms 7 [.ref 99, .ref 1, .int v2, am_dead] [] (am_mk D) 0 0 Q := by
  intro n
  induction n with
  | zero =>
    intro D v2 q h k0
    exact (nomatch (show none = some q from h))
  | succ n ih =>
    intro D v2 q h k0
    rw [m172_L7] at h
    refine x_ld (v := .int v2) r172_7 rfl rfl rfl ?_
    refine x_bi (v := 28) r172_8 rfl rfl ?_
    rcases am_ifE h with ⟨c3, h⟩ | ⟨c3, h⟩
    · refine x_icgeT r172_10 c3 ?_
      refine x_forget (lc0 := [.ref 99, .ref 1, am_dead, am_dead]) ⟨Or.inl rfl, Or.inl rfl, Or.inr ⟨rfl, rfl⟩, Or.inl rfl, trivial⟩ ?_
      cases h
      exact k0
    · refine x_icgeF r172_10 c3 rfl ?_
      refine x_ld (v := .ref 99) r172_13 rfl rfl rfl ?_
      refine y_gf (cd := 0) (v := .int (D.1 99 4)) r172_14 rfl rfl rfl ?_
      refine x_bi (v := 9) r172_17 rfl rfl ?_
      rcases am_ifE h with ⟨c4, h⟩ | ⟨c4, h⟩
      · refine x_icgeT r172_19 c4 ?_
        refine x_forget (lc0 := [.ref 99, .ref 1, am_dead, am_dead]) ⟨Or.inl rfl, Or.inl rfl, Or.inr ⟨rfl, rfl⟩, Or.inl rfl, trivial⟩ ?_
        cases h
        exact k0
      · refine x_icgeF r172_19 c4 rfl ?_
        refine x_ld (v := .ref 1) r172_22 rfl rfl rfl ?_
        refine x_ld (v := .int v2) r172_23 rfl rfl rfl ?_
        refine x_call1 (as := [.ref 1, .int v2]) (rest := []) r172_24 rfl rfl rfl (by decide) (Nat.le_of_ble_eq_true rfl) (m203_ok rfl) (Nat.le_trans (by decide) hd) (Nat.zero_le _) (Nat.zero_le _) rfl ?_
        obtain ⟨x5, e6, h⟩ := am_ltE h
        refine am_topI e6 ?_
        refine x_sto (lc' := [.ref 99, .ref 1, .int v2, .int x5]) r172_27 rfl rfl rfl rfl ?_
        refine x_ld (v := .int x5) r172_28 rfl rfl rfl ?_
        obtain ⟨q7, h9, h⟩ := am_ltE h
        replace h9 := h9.symm
        have kj8 : am_X xs L 172 d mc ms 71 [.ref 99, .ref 1, .int v2, .int x5] [] (am_mk q7) 0 0 Q := by
          obtain ⟨x18, e19, h⟩ := am_ltE h
          refine x_sto (lc' := [.ref 99, .ref 1, .int x18, .int x5]) r172_71 rfl rfl (by subst e19; rfl) rfl ?_
          refine x_goto r172_74 ?_
          exact x_forget (lc0 := [.ref 99, .ref 1, .int x18, am_dead]) ⟨Or.inl rfl, Or.inl rfl, Or.inl rfl, Or.inr ⟨rfl, rfl⟩, trivial⟩ (ih q7 x18 h k0)
        rcases am_ifE h9 with ⟨c10, h9⟩ | ⟨c10, h9⟩
        · refine x_ifltT r172_29 c10 ?_
          subst h9
          exact kj8
        · refine x_ifltF r172_29 c10 rfl ?_
          refine x_ld (v := .int x5) r172_32 rfl rfl rfl ?_
          refine x_ic (v := 4) r172_33 rfl rfl ?_
          rcases am_ifE h9 with ⟨c11, h9⟩ | ⟨c11, h9⟩
          · refine x_icgeT r172_34 c11 ?_
            subst h9
            exact kj8
          · refine x_icgeF r172_34 c11 rfl ?_
            refine x_ld (v := .ref 99) r172_37 rfl rfl rfl ?_
            refine y_gf (cd := 102) (v := .ref 100) r172_38 rfl rfl rfl ?_
            refine x_ld (v := .ref 99) r172_41 rfl rfl rfl ?_
            refine y_gf (cd := 0) (v := .int (D.1 99 4)) r172_42 rfl rfl rfl ?_
            refine x_ld (v := .int v2) r172_45 rfl rfl rfl ?_
            obtain ⟨D12, e13, h9⟩ := am_ltE h9
            refine x_call0 (as := [.ref 100, .int (D.1 99 4), .int v2]) (rest := []) r172_46 rfl rfl rfl (by decide) (Nat.le_of_ble_eq_true rfl) (am_rows_put (n := 9) rfl (by decide) e13) (Nat.le_trans (by decide) hd) (Nat.zero_le _) (Nat.zero_le _) rfl ?_
            refine x_ld (v := .ref 99) r172_49 rfl rfl rfl ?_
            refine y_gf (cd := 103) (v := .ref 101) r172_50 rfl rfl rfl ?_
            refine x_ld (v := .ref 99) r172_53 rfl rfl rfl ?_
            refine y_gf (cd := 0) (v := .int (D12.1 99 4)) r172_54 rfl rfl rfl ?_
            refine x_ld (v := .int x5) r172_57 rfl rfl rfl ?_
            obtain ⟨D14, e15, h9⟩ := am_ltE h9
            refine x_call0 (as := [.ref 101, .int (D12.1 99 4), .int x5]) (rest := []) r172_58 rfl rfl rfl (by decide) (Nat.le_of_ble_eq_true rfl) (am_rows_put (n := 9) rfl (by decide) e15) (Nat.le_trans (by decide) hd) (Nat.zero_le _) (Nat.zero_le _) rfl ?_
            refine x_ld (v := .ref 99) r172_61 rfl rfl rfl ?_
            refine x_ar r172_62 rfl trivial rfl ?_
            refine y_gf (cd := 0) (v := .int (D14.1 99 4)) r172_63 rfl rfl rfl ?_
            refine x_ic (v := 1) r172_66 rfl rfl ?_
            refine x_ar r172_67 rfl trivial rfl ?_
            obtain ⟨D16, e17, h9⟩ := am_ltE h9
            refine y_pf0 r172_68 rfl e17 rfl ?_
            subst h9
            exact kj8
theorem m172_L79_w {d : Nat} {N : Nat} {mc ms : Nat} {Q : am_O → am_AH → Prop} (hd : 54 ≤ d) : ∀ (n : Nat) (D : am_D) (v2 : Int32) {q : am_D} (h : m172_L79 N  n D v2 = some q) (k0 : am_X xs L 172 d mc ms 122 [.ref 99, .ref 1, am_dead, am_dead] [] (am_mk q) 0 0 Q), am_X xs L 172 d mc ms 79 [.ref 99, .ref 1, .int v2, am_dead] [] (am_mk D) 0 0 Q := by
  intro n
  induction n with
  | zero =>
    intro D v2 q h k0
    exact (nomatch (show none = some q from h))
  | succ n ih =>
    intro D v2 q h k0
    rw [m172_L79] at h
    refine x_ld (v := .int v2) r172_79 rfl rfl rfl ?_
    refine x_ic (v := 1) r172_80 rfl rfl ?_
    rcases am_ifE h with ⟨c22, h⟩ | ⟨c22, h⟩
    · refine x_icgtT r172_81 c22 ?_
      refine x_forget (lc0 := [.ref 99, .ref 1, am_dead, am_dead]) ⟨Or.inl rfl, Or.inl rfl, Or.inr ⟨rfl, rfl⟩, Or.inl rfl, trivial⟩ ?_
      cases h
      exact k0
    · refine x_icgtF r172_81 c22 rfl ?_
      refine x_ld (v := .ref 99) r172_84 rfl rfl rfl ?_
      refine y_gf (cd := 104) (v := .ref 102) r172_85 rfl rfl rfl ?_
      refine x_ld (v := .int v2) r172_88 rfl rfl rfl ?_
      refine x_ld (v := .ref 1) r172_89 rfl rfl rfl ?_
      refine y_gf (cd := 4) (v := .ref 2) r172_90 rfl rfl rfl ?_
      refine x_ld (v := .int v2) r172_93 rfl rfl rfl ?_
      refine x_call1 (as := [.ref 2, .int v2]) (rest := [.int v2, .ref 102]) r172_94 rfl rfl rfl (by decide) (Nat.le_of_ble_eq_true rfl) (m156_ok rfl) (Nat.le_trans (by decide) hd) (Nat.zero_le _) (Nat.zero_le _) rfl ?_
      obtain ⟨D23, e24, h⟩ := am_ltE h
      refine x_call0 (as := [.ref 102, .int v2, .int (m156 D v2)]) (rest := []) r172_97 rfl rfl rfl (by decide) (Nat.le_of_ble_eq_true rfl) (am_rows_put (n := 20) rfl (by decide) e24) (Nat.le_trans (by decide) hd) (Nat.zero_le _) (Nat.zero_le _) rfl ?_
      refine x_ld (v := .ref 99) r172_100 rfl rfl rfl ?_
      refine y_gf (cd := 105) (v := .ref 103) r172_101 rfl rfl rfl ?_
      refine x_ld (v := .int v2) r172_104 rfl rfl rfl ?_
      refine x_ld (v := .ref 1) r172_105 rfl rfl rfl ?_
      refine y_gf (cd := 4) (v := .ref 2) r172_106 rfl rfl rfl ?_
      refine x_ld (v := .int v2) r172_109 rfl rfl rfl ?_
      refine x_call1 (as := [.ref 2, .int v2]) (rest := [.int v2, .ref 103]) r172_110 rfl rfl rfl (by decide) (Nat.le_of_ble_eq_true rfl) (m157_ok rfl) (Nat.le_trans (by decide) hd) (Nat.zero_le _) (Nat.zero_le _) rfl ?_
      obtain ⟨D25, e26, h⟩ := am_ltE h
      refine x_call0 (as := [.ref 103, .int v2, .int (m157 D23 v2)]) (rest := []) r172_113 rfl rfl rfl (by decide) (Nat.le_of_ble_eq_true rfl) (am_rows_put (n := 20) rfl (by decide) e26) (Nat.le_trans (by decide) hd) (Nat.zero_le _) (Nat.zero_le _) rfl ?_
      obtain ⟨x27, e28, h⟩ := am_ltE h
      refine x_sto (lc' := [.ref 99, .ref 1, .int x27, am_dead]) r172_116 rfl rfl (by subst e28; rfl) rfl ?_
      refine x_goto r172_119 ?_
      exact x_forget (lc0 := [.ref 99, .ref 1, .int x27, am_dead]) ⟨Or.inl rfl, Or.inl rfl, Or.inl rfl, Or.inl rfl, trivial⟩ (ih D25 x27 h k0)
theorem m172_w {d mc ms : Nat} {N : Nat} {D : am_D} {Q : am_O → am_AH → Prop} (hd : 54 ≤ d) {r : am_D} (h : m172 N D = some r) (hQ : Q (.inl none) (am_mk r)) : am_X xs L 172 d mc ms 0 [.ref 99, .ref 1, am_dead, am_dead] [] (am_mk D) 0 0 Q := by
  unfold m172 at h
  refine x_ld (v := .ref 99) r172_0 rfl rfl rfl ?_
  refine x_ic (v := 0) r172_1 rfl rfl ?_
  obtain ⟨D1, e2, h⟩ := am_ltE h
  refine y_pf0 r172_2 rfl e2 rfl ?_
  refine x_ic (v := 0) r172_5 rfl rfl ?_
  refine x_sto (lc' := [.ref 99, .ref 1, .int (0 : Int32), am_dead]) r172_6 rfl rfl rfl rfl ?_
  obtain ⟨q20, h21, h⟩ := Option.bind_eq_some_iff.mp h
  refine x_forget (lc0 := [.ref 99, .ref 1, .int (0 : Int32), am_dead]) ⟨Or.inl rfl, Or.inl rfl, Or.inl rfl, Or.inl rfl, trivial⟩ (m172_L7_w hd N D1 (0 : Int32) h21 ?_)
  refine x_ic (v := 0) r172_77 rfl rfl ?_
  refine x_sto (lc' := [.ref 99, .ref 1, .int (0 : Int32), am_dead]) r172_78 rfl rfl rfl rfl ?_
  obtain ⟨q29, h30, h⟩ := Option.bind_eq_some_iff.mp h
  refine x_forget (lc0 := [.ref 99, .ref 1, .int (0 : Int32), am_dead]) ⟨Or.inl rfl, Or.inl rfl, Or.inl rfl, Or.inl rfl, trivial⟩ (m172_L79_w hd N q20 (0 : Int32) h30 ?_)
  refine x_ld (v := .ref 99) r172_122 rfl rfl rfl ?_
  refine x_ic (v := -1) r172_123 rfl rfl ?_
  obtain ⟨D31, e32, h⟩ := am_ltE h
  refine y_pf0 r172_124 rfl e32 rfl ?_
  refine x_ld (v := .ref 99) r172_127 rfl rfl rfl ?_
  refine x_ic (v := -1) r172_128 rfl rfl ?_
  obtain ⟨D33, e34, h⟩ := am_ltE h
  refine y_pf0 r172_129 rfl e34 rfl ?_
  refine x_ld (v := .ref 99) r172_132 rfl rfl rfl ?_
  refine x_ic (v := 0) r172_133 rfl rfl ?_
  refine x_ld (v := .ref 1) r172_134 rfl rfl rfl ?_
  refine y_gf (cd := 0) (v := .int (D33.1 1 7)) r172_135 rfl rfl rfl ?_
  refine x_ld (v := .ref 1) r172_138 rfl rfl rfl ?_
  refine y_gf (cd := 0) (v := .int (D33.1 1 11)) r172_139 rfl rfl rfl ?_
  refine x_ic (v := 1) r172_142 rfl rfl ?_
  refine x_ld (v := .ref 99) r172_143 rfl rfl rfl ?_
  refine y_gf (cd := 0) (v := .int (D33.1 99 4)) r172_144 rfl rfl rfl ?_
  refine x_ar r172_147 rfl trivial rfl ?_
  refine x_ic (v := 1) r172_148 rfl rfl ?_
  refine x_ar r172_149 rfl trivial rfl ?_
  obtain ⟨q35, h36, h⟩ := Option.bind_eq_some_iff.mp h
  refine x_call1 (as := [.ref 99, .int (0 : Int32), .int (D33.1 1 7), .int (D33.1 1 11), .int (((1 : Int32) <<< ((D33.1 99 4) &&& 31)) - (1 : Int32))]) (rest := []) r172_150 rfl rfl rfl (by decide) (Nat.le_of_ble_eq_true rfl) (m173_ok h36) (Nat.le_trans (by decide) hd) (Nat.zero_le _) (Nat.zero_le _) rfl ?_
  refine x_sto (lc' := [.ref 99, .ref 1, .int q35.1, am_dead]) r172_153 rfl rfl rfl rfl ?_
  refine x_ld (v := .ref 99) r172_154 rfl rfl rfl ?_
  refine x_ld (v := .ref 1) r172_155 rfl rfl rfl ?_
  refine y_gf (cd := 0) (v := .int (q35.2.1 1 7)) r172_156 rfl rfl rfl ?_
  refine x_call1 (as := [.int (q35.2.1 1 7)]) (rest := [.ref 99]) r172_159 rfl rfl rfl (by decide) (Nat.le_of_ble_eq_true rfl) (m187_ok rfl) (Nat.le_trans (by decide) hd) (Nat.zero_le _) (Nat.zero_le _) rfl ?_
  rcases am_ifE h with ⟨c37, h⟩ | ⟨c37, h⟩
  · refine x_ifneT r172_162 c37 rfl ?_
    refine x_ld (v := .int q35.1) r172_165 rfl rfl rfl ?_
    refine x_goto r172_166 ?_
    obtain ⟨D38, e39, h⟩ := am_ltE h
    refine y_pf0 r172_171 rfl e39 rfl ?_
    cases h
    exact x_ret (ret := none) (C := True) (v := none) r172_174 rt172 rfl rfl rfl rfl rfl rfl rfl rfl trivial hQ
  · refine x_ifneF r172_162 c37 ?_
    refine x_ld (v := .int q35.1) r172_169 rfl rfl rfl ?_
    refine x_ar r172_170 rfl trivial rfl ?_
    obtain ⟨D40, e41, h⟩ := am_ltE h
    refine y_pf0 r172_171 rfl e41 rfl ?_
    cases h
    exact x_ret (ret := none) (C := True) (v := none) r172_174 rt172 rfl rfl rfl rfl rfl rfl rfl rfl trivial hQ
theorem m172_ok {N : Nat} {D : am_D} {r : am_D} (h : m172 N D = some r) : am_Y xs L 172 54 0 0 [.ref 99, .ref 1] D (.inl none) r := am_Yof (mi := am_m172) (lc := [.ref 99, .ref 1, am_dead, am_dead]) pg172 (Nat.le_of_ble_eq_true rfl) (am_rc1 (ci := 2) rfl rfl rfl rfl rfl) rfl (fun Q hQ => m172_w (Nat.le_refl _) h hQ)
theorem r242_0 : am_at 242 0 = some (.iload_n 0, 1, [0]) := by decide +kernel
theorem r242_1 : am_at 242 1 = some (.ifCond .ne (11), 3, [12]) := by decide +kernel
theorem r242_4 : am_at 242 4 = some (.iload_n 1, 1, [1]) := by decide +kernel
theorem r242_5 : am_at 242 5 = some (.iload_n 2, 1, [2]) := by decide +kernel
theorem r242_6 : am_at 242 6 = some (.invokestatic 50, 3, [243, 2, 1036, 0]) := by decide +kernel
theorem r242_9 : am_at 242 9 = some (.goto (8), 3, [17]) := by decide +kernel
theorem r242_12 : am_at 242 12 = some (.iload_n 1, 1, [1]) := by decide +kernel
theorem r242_13 : am_at 242 13 = some (.iload_n 2, 1, [2]) := by decide +kernel
theorem r242_14 : am_at 242 14 = some (.invokestatic 53, 3, [245, 2, 1051, 0]) := by decide +kernel
theorem r242_17 : am_at 242 17 = some (.ireturn, 1, []) := by decide +kernel
theorem rt242 : am_rtt 242 = some (some .int) := by decide +kernel
set_option maxRecDepth 100000 in
theorem pg242 : am_pg[242]? = some am_m242 := rfl
theorem m242_w {d mc ms : Nat} {D : am_D} {v0 : Int32} {v1 : Int32} {v2 : Int32} {Q : am_O → am_AH → Prop} (hd : 4 ≤ d) {r : Int32} (h : m242 v0 v1 v2 = r) (hQ : Q (.inl (some (.int r))) (am_mk D)) : am_X xs L 242 d mc ms 0 [.int v0, .int v1, .int v2] [] (am_mk D) 0 0 Q := by
  unfold m242 at h
  refine x_ld (v := .int v0) r242_0 rfl rfl rfl ?_
  rcases am_ifE h with ⟨c1, h⟩ | ⟨c1, h⟩
  · refine x_ifneT r242_1 c1 rfl ?_
    refine x_ld (v := .int v1) r242_4 rfl rfl rfl ?_
    refine x_ld (v := .int v2) r242_5 rfl rfl rfl ?_
    refine x_call1 (as := [.int v1, .int v2]) (rest := []) r242_6 rfl rfl rfl (by decide) (Nat.le_of_ble_eq_true rfl) (m243_ok rfl) (Nat.le_trans (by decide) hd) (Nat.zero_le _) (Nat.zero_le _) rfl ?_
    refine x_goto r242_9 ?_
    subst h
    exact x_ret (ret := some .int) (C := True) (v := some (.int _)) r242_17 rt242 rfl rfl rfl rfl rfl rfl rfl rfl trivial hQ
  · refine x_ifneF r242_1 c1 ?_
    refine x_ld (v := .int v1) r242_12 rfl rfl rfl ?_
    refine x_ld (v := .int v2) r242_13 rfl rfl rfl ?_
    refine x_call1 (as := [.int v1, .int v2]) (rest := []) r242_14 rfl rfl rfl (by decide) (Nat.le_of_ble_eq_true rfl) (m245_ok rfl) (Nat.le_trans (by decide) hd) (Nat.zero_le _) (Nat.zero_le _) rfl ?_
    subst h
    exact x_ret (ret := some .int) (C := True) (v := some (.int _)) r242_17 rt242 rfl rfl rfl rfl rfl rfl rfl rfl trivial hQ
theorem m242_ok {D : am_D} {v0 : Int32} {v1 : Int32} {v2 : Int32} {r : Int32} (h : m242 v0 v1 v2 = r) : am_Y xs L 242 4 0 0 [.int v0, .int v1, .int v2] D (.inl (some (.int r))) D := am_Yof (mi := am_m242) (lc := [.int v0, .int v1, .int v2]) pg242 (Nat.le_of_ble_eq_true rfl) (am_rc0 rfl) rfl (fun Q hQ => m242_w (Nat.le_refl _) h hQ)
theorem r264_0 : am_at 264 0 = some (.aload 4, 2, [4]) := by decide +kernel
theorem r264_2 : am_at 264 2 = some (.iconst (0), 1, []) := by decide +kernel
theorem r264_3 : am_at 264 3 = some (.aload_n 0, 1, [0]) := by decide +kernel
theorem r264_4 : am_at 264 4 = some (.iload_n 1, 1, [1]) := by decide +kernel
theorem r264_5 : am_at 264 5 = some (.iload_n 2, 1, [2]) := by decide +kernel
theorem r264_6 : am_at 264 6 = some (.iload_n 3, 1, [3]) := by decide +kernel
theorem r264_7 : am_at 264 7 = some (.invokevirtual 30, 3, [5, 4, 891, 0, 1, 17, 5, 15, 2, 21, 5, 19, 3, 25, 5, 23]) := by decide +kernel
theorem r264_10 : am_at 264 10 = some (.i2l, 1, []) := by decide +kernel
theorem r264_11 : am_at 264 11 = some (.lastore, 1, []) := by decide +kernel
theorem r264_12 : am_at 264 12 = some (.goto (15), 3, [27]) := by decide +kernel
theorem r264_17 : am_at 264 17 = some (.iconst (1), 1, []) := by decide +kernel
theorem r264_18 : am_at 264 18 = some (.ireturn, 1, []) := by decide +kernel
theorem r264_21 : am_at 264 21 = some (.iconst (2), 1, []) := by decide +kernel
theorem r264_22 : am_at 264 22 = some (.ireturn, 1, []) := by decide +kernel
theorem r264_25 : am_at 264 25 = some (.iconst (3), 1, []) := by decide +kernel
theorem r264_26 : am_at 264 26 = some (.ireturn, 1, []) := by decide +kernel
theorem r264_27 : am_at 264 27 = some (.iconst (0), 1, []) := by decide +kernel
theorem r264_28 : am_at 264 28 = some (.ireturn, 1, []) := by decide +kernel
theorem rt264 : am_rtt 264 = some (some .int) := by decide +kernel
set_option maxRecDepth 100000 in
theorem pg264 : am_pg[264]? = some am_m264 := rfl
theorem m264_w {d mc ms : Nat} {N : Nat} {D : am_D} {v1 : Int32} {v2 : Int32} {v3 : Int32} {Q : am_O → am_AH → Prop} (hd : 8 ≤ d) {r : Int32 × am_D} (h : m264 N D v1 v2 v3 = some r) (hE1 : ∀ x : Nat, 0 + 1 ≤ mc) (hE2 : ∀ x : Nat, 0 + 6 ≤ ms) (hQ : Q (.inl (some (.int r.1))) (am_mk r.2)) : am_X xs L 264 d mc ms 0 [.ref 0, .int v1, .int v2, .int v3, .ref 124, am_dead] [] (am_mk D) 0 0 Q := by
  unfold m264 at h
  refine x_ld (v := .ref 124) r264_0 rfl rfl rfl ?_
  refine x_ic (v := 0) r264_2 rfl rfl ?_
  refine x_ld (v := .ref 0) r264_3 rfl rfl rfl ?_
  refine x_ld (v := .int v1) r264_4 rfl rfl rfl ?_
  refine x_ld (v := .int v2) r264_5 rfl rfl rfl ?_
  refine x_ld (v := .int v3) r264_6 rfl rfl rfl ?_
  obtain ⟨q1, h2, h⟩ := Option.bind_eq_some_iff.mp h
  rcases am_chE h with ⟨x3, h4, h⟩ | ⟨E7, h4, h⟩
  · refine x_call1 (as := [.ref 0, .int v1, .int v2, .int v3]) (rest := [.int (0 : Int32), .ref 124]) r264_7 rfl rfl rfl (by decide) (Nat.le_of_ble_eq_true rfl) (m5_okv h2 h4) (Nat.le_trans (by decide) hd) (Nat.zero_le _) (Nat.zero_le _) rfl ?_
    refine x_ar r264_10 rfl trivial rfl ?_
    obtain ⟨D5, e6, h⟩ := am_ltE h
    refine y_las (n := 1) r264_11 rfl (by decide) (by decide) (e := 0) (by decide) e6 rfl ?_
    refine x_goto r264_12 ?_
    refine x_ic (v := 0) r264_27 rfl rfl ?_
    cases h
    exact x_ret (ret := some .int) (C := True) (v := some (.int _)) r264_28 rt264 rfl rfl rfl rfl rfl rfl rfl rfl trivial hQ
  · rcases am_ifE h with ⟨c8, h⟩ | ⟨c8, h⟩
    · rw [c8] at h4
      refine x_callH (as := [.ref 0, .int v1, .int v2, .int v3]) (rest := [.int (0 : Int32), .ref 124]) (p' := 17) (il := 5) r264_7 rfl rfl rfl (by decide) (Nat.le_of_ble_eq_true rfl) (m5_exv h2 h4) (Nat.le_trans (by decide) hd) (hE1 0) (hE2 0) rfl (Nat.le_of_ble_eq_true rfl) ?_
      refine x_ic (v := 1) r264_17 rfl rfl ?_
      cases h
      exact x_ret (ret := some .int) (C := True) (v := some (.int _)) r264_18 rt264 rfl rfl rfl rfl rfl rfl rfl rfl trivial hQ
    · rcases am_ifE h with ⟨c9, h⟩ | ⟨c9, h⟩
      · rw [c9] at h4
        refine x_callH (as := [.ref 0, .int v1, .int v2, .int v3]) (rest := [.int (0 : Int32), .ref 124]) (p' := 21) (il := 5) r264_7 rfl rfl rfl (by decide) (Nat.le_of_ble_eq_true rfl) (m5_exv h2 h4) (Nat.le_trans (by decide) hd) (hE1 0) (hE2 0) rfl (Nat.le_of_ble_eq_true rfl) ?_
        refine x_ic (v := 2) r264_21 rfl rfl ?_
        cases h
        exact x_ret (ret := some .int) (C := True) (v := some (.int _)) r264_22 rt264 rfl rfl rfl rfl rfl rfl rfl rfl trivial hQ
      · rcases am_ifE h with ⟨c10, h⟩ | ⟨c10, h⟩
        · rw [c10] at h4
          refine x_callH (as := [.ref 0, .int v1, .int v2, .int v3]) (rest := [.int (0 : Int32), .ref 124]) (p' := 25) (il := 5) r264_7 rfl rfl rfl (by decide) (Nat.le_of_ble_eq_true rfl) (m5_exv h2 h4) (Nat.le_trans (by decide) hd) (hE1 0) (hE2 0) rfl (Nat.le_of_ble_eq_true rfl) ?_
          refine x_ic (v := 3) r264_25 rfl rfl ?_
          cases h
          exact x_ret (ret := some .int) (C := True) (v := some (.int _)) r264_26 rt264 rfl rfl rfl rfl rfl rfl rfl rfl trivial hQ
        · cases h
theorem m264_ok {N : Nat} {D : am_D} {v1 : Int32} {v2 : Int32} {v3 : Int32} {r : Int32 × am_D} (h : m264 N D v1 v2 v3 = some r) : am_Y xs L 264 8 1 6 [.ref 0, .int v1, .int v2, .int v3, .ref 124] D (.inl (some (.int r.1))) r.2 := am_Yof (mi := am_m264) (lc := [.ref 0, .int v1, .int v2, .int v3, .ref 124, am_dead]) pg264 (Nat.le_of_ble_eq_true rfl) (am_rc0 rfl) rfl (fun Q hQ => m264_w (Nat.le_refl _) h (fun _ => Nat.le_refl _) (fun _ => Nat.le_refl _) hQ)
theorem r265_0 : am_at 265 0 = some (.aload_n 2, 1, [2]) := by decide +kernel
theorem r265_1 : am_at 265 1 = some (.iconst (0), 1, []) := by decide +kernel
theorem r265_2 : am_at 265 2 = some (.aload_n 0, 1, [0]) := by decide +kernel
theorem r265_3 : am_at 265 3 = some (.iload_n 1, 1, [1]) := by decide +kernel
theorem r265_4 : am_at 265 4 = some (.invokevirtual 34, 3, [6, 2, 948, 0, 1, 13, 3, 12, 3, 16, 3, 15]) := by decide +kernel
theorem r265_7 : am_at 265 7 = some (.i2l, 1, []) := by decide +kernel
theorem r265_8 : am_at 265 8 = some (.lastore, 1, []) := by decide +kernel
theorem r265_9 : am_at 265 9 = some (.goto (9), 3, [18]) := by decide +kernel
theorem r265_13 : am_at 265 13 = some (.iconst (1), 1, []) := by decide +kernel
theorem r265_14 : am_at 265 14 = some (.ireturn, 1, []) := by decide +kernel
theorem r265_16 : am_at 265 16 = some (.iconst (2), 1, []) := by decide +kernel
theorem r265_17 : am_at 265 17 = some (.ireturn, 1, []) := by decide +kernel
theorem r265_18 : am_at 265 18 = some (.iconst (0), 1, []) := by decide +kernel
theorem r265_19 : am_at 265 19 = some (.ireturn, 1, []) := by decide +kernel
theorem rt265 : am_rtt 265 = some (some .int) := by decide +kernel
set_option maxRecDepth 100000 in
theorem pg265 : am_pg[265]? = some am_m265 := rfl
theorem m265_w {d mc ms : Nat} {N : Nat} {D : am_D} {v1 : Int32} {Q : am_O → am_AH → Prop} (hd : 7 ≤ d) {r : Int32 × am_D} (h : m265 N D v1 = some r) (hE1 : ∀ x : Nat, 0 + 1 ≤ mc) (hE2 : ∀ x : Nat, 0 + 6 ≤ ms) (hQ : Q (.inl (some (.int r.1))) (am_mk r.2)) : am_X xs L 265 d mc ms 0 [.ref 0, .int v1, .ref 124, am_dead] [] (am_mk D) 0 0 Q := by
  unfold m265 at h
  refine x_ld (v := .ref 124) r265_0 rfl rfl rfl ?_
  refine x_ic (v := 0) r265_1 rfl rfl ?_
  refine x_ld (v := .ref 0) r265_2 rfl rfl rfl ?_
  refine x_ld (v := .int v1) r265_3 rfl rfl rfl ?_
  obtain ⟨q1, h2, h⟩ := Option.bind_eq_some_iff.mp h
  rcases am_chE h with ⟨x3, h4, h⟩ | ⟨E7, h4, h⟩
  · refine x_call1 (as := [.ref 0, .int v1]) (rest := [.int (0 : Int32), .ref 124]) r265_4 rfl rfl rfl (by decide) (Nat.le_of_ble_eq_true rfl) (m6_okv h2 h4) (Nat.le_trans (by decide) hd) (Nat.zero_le _) (Nat.zero_le _) rfl ?_
    refine x_ar r265_7 rfl trivial rfl ?_
    obtain ⟨D5, e6, h⟩ := am_ltE h
    refine y_las (n := 1) r265_8 rfl (by decide) (by decide) (e := 0) (by decide) e6 rfl ?_
    refine x_goto r265_9 ?_
    refine x_ic (v := 0) r265_18 rfl rfl ?_
    cases h
    exact x_ret (ret := some .int) (C := True) (v := some (.int _)) r265_19 rt265 rfl rfl rfl rfl rfl rfl rfl rfl trivial hQ
  · rcases am_ifE h with ⟨c8, h⟩ | ⟨c8, h⟩
    · rw [c8] at h4
      refine x_callH (as := [.ref 0, .int v1]) (rest := [.int (0 : Int32), .ref 124]) (p' := 13) (il := 3) r265_4 rfl rfl rfl (by decide) (Nat.le_of_ble_eq_true rfl) (m6_exv h2 h4) (Nat.le_trans (by decide) hd) (hE1 0) (hE2 0) rfl (Nat.le_of_ble_eq_true rfl) ?_
      refine x_ic (v := 1) r265_13 rfl rfl ?_
      cases h
      exact x_ret (ret := some .int) (C := True) (v := some (.int _)) r265_14 rt265 rfl rfl rfl rfl rfl rfl rfl rfl trivial hQ
    · rcases am_ifE h with ⟨c9, h⟩ | ⟨c9, h⟩
      · rw [c9] at h4
        refine x_callH (as := [.ref 0, .int v1]) (rest := [.int (0 : Int32), .ref 124]) (p' := 16) (il := 3) r265_4 rfl rfl rfl (by decide) (Nat.le_of_ble_eq_true rfl) (m6_exv h2 h4) (Nat.le_trans (by decide) hd) (hE1 0) (hE2 0) rfl (Nat.le_of_ble_eq_true rfl) ?_
        refine x_ic (v := 2) r265_16 rfl rfl ?_
        cases h
        exact x_ret (ret := some .int) (C := True) (v := some (.int _)) r265_17 rt265 rfl rfl rfl rfl rfl rfl rfl rfl trivial hQ
      · cases h
theorem m265_ok {N : Nat} {D : am_D} {v1 : Int32} {r : Int32 × am_D} (h : m265 N D v1 = some r) : am_Y xs L 265 7 1 6 [.ref 0, .int v1, .ref 124] D (.inl (some (.int r.1))) r.2 := am_Yof (mi := am_m265) (lc := [.ref 0, .int v1, .ref 124, am_dead]) pg265 (Nat.le_of_ble_eq_true rfl) (am_rc0 rfl) rfl (fun Q hQ => m265_w (Nat.le_refl _) h (fun _ => Nat.le_refl _) (fun _ => Nat.le_refl _) hQ)
theorem r281_0 : am_at 281 0 = some (.aload_n 3, 1, [3]) := by decide +kernel
theorem r281_1 : am_at 281 1 = some (.iconst (0), 1, []) := by decide +kernel
theorem r281_2 : am_at 281 2 = some (.aload_n 0, 1, [0]) := by decide +kernel
theorem r281_3 : am_at 281 3 = some (.iload_n 1, 1, [1]) := by decide +kernel
theorem r281_4 : am_at 281 4 = some (.iload_n 2, 1, [2]) := by decide +kernel
theorem r281_5 : am_at 281 5 = some (.invokevirtual 82, 3, [24, 3, 1170, 0, 1, 15, 4, 13, 2, 19, 4, 17]) := by decide +kernel
theorem r281_8 : am_at 281 8 = some (.i2l, 1, []) := by decide +kernel
theorem r281_9 : am_at 281 9 = some (.lastore, 1, []) := by decide +kernel
theorem r281_10 : am_at 281 10 = some (.goto (11), 3, [21]) := by decide +kernel
theorem r281_15 : am_at 281 15 = some (.iconst (1), 1, []) := by decide +kernel
theorem r281_16 : am_at 281 16 = some (.ireturn, 1, []) := by decide +kernel
theorem r281_19 : am_at 281 19 = some (.iconst (2), 1, []) := by decide +kernel
theorem r281_20 : am_at 281 20 = some (.ireturn, 1, []) := by decide +kernel
theorem r281_21 : am_at 281 21 = some (.iconst (0), 1, []) := by decide +kernel
theorem r281_22 : am_at 281 22 = some (.ireturn, 1, []) := by decide +kernel
theorem rt281 : am_rtt 281 = some (some .int) := by decide +kernel
set_option maxRecDepth 100000 in
theorem pg281 : am_pg[281]? = some am_m281 := rfl
theorem m281_w {d mc ms : Nat} {N : Nat} {D : am_D} {v1 : Int32} {v2 : Int32} {Q : am_O → am_AH → Prop} (hd : 5 ≤ d) {r : Int32 × am_D} (h : m281 N D v1 v2 = some r) (hE1 : ∀ x : Nat, 0 + 1 ≤ mc) (hE2 : ∀ x : Nat, 0 + 6 ≤ ms) (hQ : Q (.inl (some (.int r.1))) (am_mk r.2)) : am_X xs L 281 d mc ms 0 [.ref 0, .int v1, .int v2, .ref 124, am_dead] [] (am_mk D) 0 0 Q := by
  unfold m281 at h
  refine x_ld (v := .ref 124) r281_0 rfl rfl rfl ?_
  refine x_ic (v := 0) r281_1 rfl rfl ?_
  refine x_ld (v := .ref 0) r281_2 rfl rfl rfl ?_
  refine x_ld (v := .int v1) r281_3 rfl rfl rfl ?_
  refine x_ld (v := .int v2) r281_4 rfl rfl rfl ?_
  obtain ⟨q1, h2, h⟩ := Option.bind_eq_some_iff.mp h
  rcases am_chE h with ⟨x3, h4, h⟩ | ⟨E7, h4, h⟩
  · refine x_call1 (as := [.ref 0, .int v1, .int v2]) (rest := [.int (0 : Int32), .ref 124]) r281_5 rfl rfl rfl (by decide) (Nat.le_of_ble_eq_true rfl) (m24_okv h2 h4) (Nat.le_trans (by decide) hd) (Nat.zero_le _) (Nat.zero_le _) rfl ?_
    refine x_ar r281_8 rfl trivial rfl ?_
    obtain ⟨D5, e6, h⟩ := am_ltE h
    refine y_las (n := 1) r281_9 rfl (by decide) (by decide) (e := 0) (by decide) e6 rfl ?_
    refine x_goto r281_10 ?_
    refine x_ic (v := 0) r281_21 rfl rfl ?_
    cases h
    exact x_ret (ret := some .int) (C := True) (v := some (.int _)) r281_22 rt281 rfl rfl rfl rfl rfl rfl rfl rfl trivial hQ
  · rcases am_ifE h with ⟨c8, h⟩ | ⟨c8, h⟩
    · rw [c8] at h4
      refine x_callH (as := [.ref 0, .int v1, .int v2]) (rest := [.int (0 : Int32), .ref 124]) (p' := 15) (il := 4) r281_5 rfl rfl rfl (by decide) (Nat.le_of_ble_eq_true rfl) (m24_exv h2 h4) (Nat.le_trans (by decide) hd) (hE1 0) (hE2 0) rfl (Nat.le_of_ble_eq_true rfl) ?_
      refine x_ic (v := 1) r281_15 rfl rfl ?_
      cases h
      exact x_ret (ret := some .int) (C := True) (v := some (.int _)) r281_16 rt281 rfl rfl rfl rfl rfl rfl rfl rfl trivial hQ
    · rcases am_ifE h with ⟨c9, h⟩ | ⟨c9, h⟩
      · rw [c9] at h4
        refine x_callH (as := [.ref 0, .int v1, .int v2]) (rest := [.int (0 : Int32), .ref 124]) (p' := 19) (il := 4) r281_5 rfl rfl rfl (by decide) (Nat.le_of_ble_eq_true rfl) (m24_exv h2 h4) (Nat.le_trans (by decide) hd) (hE1 0) (hE2 0) rfl (Nat.le_of_ble_eq_true rfl) ?_
        refine x_ic (v := 2) r281_19 rfl rfl ?_
        cases h
        exact x_ret (ret := some .int) (C := True) (v := some (.int _)) r281_20 rt281 rfl rfl rfl rfl rfl rfl rfl rfl trivial hQ
      · cases h
theorem m281_ok {N : Nat} {D : am_D} {v1 : Int32} {v2 : Int32} {r : Int32 × am_D} (h : m281 N D v1 v2 = some r) : am_Y xs L 281 5 1 6 [.ref 0, .int v1, .int v2, .ref 124] D (.inl (some (.int r.1))) r.2 := am_Yof (mi := am_m281) (lc := [.ref 0, .int v1, .int v2, .ref 124, am_dead]) pg281 (Nat.le_of_ble_eq_true rfl) (am_rc0 rfl) rfl (fun Q hQ => m281_w (Nat.le_refl _) h (fun _ => Nat.le_refl _) (fun _ => Nat.le_refl _) hQ)
theorem r282_0 : am_at 282 0 = some (.aload 4, 2, [4]) := by decide +kernel
theorem r282_2 : am_at 282 2 = some (.iconst (0), 1, []) := by decide +kernel
theorem r282_3 : am_at 282 3 = some (.aload_n 0, 1, [0]) := by decide +kernel
theorem r282_4 : am_at 282 4 = some (.iload_n 1, 1, [1]) := by decide +kernel
theorem r282_5 : am_at 282 5 = some (.iload_n 2, 1, [2]) := by decide +kernel
theorem r282_6 : am_at 282 6 = some (.iload_n 3, 1, [3]) := by decide +kernel
theorem r282_7 : am_at 282 7 = some (.invokevirtual 85, 3, [25, 4, 1174, 0, 1, 17, 5, 15]) := by decide +kernel
theorem r282_10 : am_at 282 10 = some (.i2l, 1, []) := by decide +kernel
theorem r282_11 : am_at 282 11 = some (.lastore, 1, []) := by decide +kernel
theorem r282_12 : am_at 282 12 = some (.goto (7), 3, [19]) := by decide +kernel
theorem r282_17 : am_at 282 17 = some (.iconst (1), 1, []) := by decide +kernel
theorem r282_18 : am_at 282 18 = some (.ireturn, 1, []) := by decide +kernel
theorem r282_19 : am_at 282 19 = some (.iconst (0), 1, []) := by decide +kernel
theorem r282_20 : am_at 282 20 = some (.ireturn, 1, []) := by decide +kernel
theorem rt282 : am_rtt 282 = some (some .int) := by decide +kernel
set_option maxRecDepth 100000 in
theorem pg282 : am_pg[282]? = some am_m282 := rfl
theorem m282_w {d mc ms : Nat} {N : Nat} {D : am_D} {v1 : Int32} {v2 : Int32} {v3 : Int32} {Q : am_O → am_AH → Prop} (hd : 6 ≤ d) {r : Int32 × am_D} (h : m282 N D v1 v2 v3 = some r) (hE1 : ∀ x : Nat, 0 + 1 ≤ mc) (hE2 : ∀ x : Nat, 0 + 6 ≤ ms) (hQ : Q (.inl (some (.int r.1))) (am_mk r.2)) : am_X xs L 282 d mc ms 0 [.ref 0, .int v1, .int v2, .int v3, .ref 124, am_dead] [] (am_mk D) 0 0 Q := by
  unfold m282 at h
  refine x_ld (v := .ref 124) r282_0 rfl rfl rfl ?_
  refine x_ic (v := 0) r282_2 rfl rfl ?_
  refine x_ld (v := .ref 0) r282_3 rfl rfl rfl ?_
  refine x_ld (v := .int v1) r282_4 rfl rfl rfl ?_
  refine x_ld (v := .int v2) r282_5 rfl rfl rfl ?_
  refine x_ld (v := .int v3) r282_6 rfl rfl rfl ?_
  obtain ⟨q1, h2, h⟩ := Option.bind_eq_some_iff.mp h
  rcases am_chE h with ⟨x3, h4, h⟩ | ⟨E7, h4, h⟩
  · refine x_call1 (as := [.ref 0, .int v1, .int v2, .int v3]) (rest := [.int (0 : Int32), .ref 124]) r282_7 rfl rfl rfl (by decide) (Nat.le_of_ble_eq_true rfl) (m25_okv h2 h4) (Nat.le_trans (by decide) hd) (Nat.zero_le _) (Nat.zero_le _) rfl ?_
    refine x_ar r282_10 rfl trivial rfl ?_
    obtain ⟨D5, e6, h⟩ := am_ltE h
    refine y_las (n := 1) r282_11 rfl (by decide) (by decide) (e := 0) (by decide) e6 rfl ?_
    refine x_goto r282_12 ?_
    refine x_ic (v := 0) r282_19 rfl rfl ?_
    cases h
    exact x_ret (ret := some .int) (C := True) (v := some (.int _)) r282_20 rt282 rfl rfl rfl rfl rfl rfl rfl rfl trivial hQ
  · rcases am_ifE h with ⟨c8, h⟩ | ⟨c8, h⟩
    · rw [c8] at h4
      refine x_callH (as := [.ref 0, .int v1, .int v2, .int v3]) (rest := [.int (0 : Int32), .ref 124]) (p' := 17) (il := 5) r282_7 rfl rfl rfl (by decide) (Nat.le_of_ble_eq_true rfl) (m25_exv h2 h4) (Nat.le_trans (by decide) hd) (hE1 0) (hE2 0) rfl (Nat.le_of_ble_eq_true rfl) ?_
      refine x_ic (v := 1) r282_17 rfl rfl ?_
      cases h
      exact x_ret (ret := some .int) (C := True) (v := some (.int _)) r282_18 rt282 rfl rfl rfl rfl rfl rfl rfl rfl trivial hQ
    · cases h
theorem m282_ok {N : Nat} {D : am_D} {v1 : Int32} {v2 : Int32} {v3 : Int32} {r : Int32 × am_D} (h : m282 N D v1 v2 v3 = some r) : am_Y xs L 282 6 1 6 [.ref 0, .int v1, .int v2, .int v3, .ref 124] D (.inl (some (.int r.1))) r.2 := am_Yof (mi := am_m282) (lc := [.ref 0, .int v1, .int v2, .int v3, .ref 124, am_dead]) pg282 (Nat.le_of_ble_eq_true rfl) (am_rc0 rfl) rfl (fun Q hQ => m282_w (Nat.le_refl _) h (fun _ => Nat.le_refl _) (fun _ => Nat.le_refl _) hQ)
theorem r283_0 : am_at 283 0 = some (.aload_n 3, 1, [3]) := by decide +kernel
theorem r283_1 : am_at 283 1 = some (.iconst (0), 1, []) := by decide +kernel
theorem r283_2 : am_at 283 2 = some (.aload_n 0, 1, [0]) := by decide +kernel
theorem r283_3 : am_at 283 3 = some (.iload_n 1, 1, [1]) := by decide +kernel
theorem r283_4 : am_at 283 4 = some (.iload_n 2, 1, [2]) := by decide +kernel
theorem r283_5 : am_at 283 5 = some (.invokevirtual 88, 3, [26, 3, 1178, 0, 1, 15, 4, 13]) := by decide +kernel
theorem r283_8 : am_at 283 8 = some (.i2l, 1, []) := by decide +kernel
theorem r283_9 : am_at 283 9 = some (.lastore, 1, []) := by decide +kernel
theorem r283_10 : am_at 283 10 = some (.goto (7), 3, [17]) := by decide +kernel
theorem r283_15 : am_at 283 15 = some (.iconst (1), 1, []) := by decide +kernel
theorem r283_16 : am_at 283 16 = some (.ireturn, 1, []) := by decide +kernel
theorem r283_17 : am_at 283 17 = some (.iconst (0), 1, []) := by decide +kernel
theorem r283_18 : am_at 283 18 = some (.ireturn, 1, []) := by decide +kernel
theorem rt283 : am_rtt 283 = some (some .int) := by decide +kernel
set_option maxRecDepth 100000 in
theorem pg283 : am_pg[283]? = some am_m283 := rfl
theorem m283_w {d mc ms : Nat} {N : Nat} {D : am_D} {v1 : Int32} {v2 : Int32} {Q : am_O → am_AH → Prop} (hd : 7 ≤ d) {r : Int32 × am_D} (h : m283 N D v1 v2 = some r) (hE1 : ∀ x : Nat, 0 + 1 ≤ mc) (hE2 : ∀ x : Nat, 0 + 6 ≤ ms) (hQ : Q (.inl (some (.int r.1))) (am_mk r.2)) : am_X xs L 283 d mc ms 0 [.ref 0, .int v1, .int v2, .ref 124, am_dead] [] (am_mk D) 0 0 Q := by
  unfold m283 at h
  refine x_ld (v := .ref 124) r283_0 rfl rfl rfl ?_
  refine x_ic (v := 0) r283_1 rfl rfl ?_
  refine x_ld (v := .ref 0) r283_2 rfl rfl rfl ?_
  refine x_ld (v := .int v1) r283_3 rfl rfl rfl ?_
  refine x_ld (v := .int v2) r283_4 rfl rfl rfl ?_
  obtain ⟨q1, h2, h⟩ := Option.bind_eq_some_iff.mp h
  rcases am_chE h with ⟨x3, h4, h⟩ | ⟨E7, h4, h⟩
  · refine x_call1 (as := [.ref 0, .int v1, .int v2]) (rest := [.int (0 : Int32), .ref 124]) r283_5 rfl rfl rfl (by decide) (Nat.le_of_ble_eq_true rfl) (m26_okv h2 h4) (Nat.le_trans (by decide) hd) (Nat.zero_le _) (Nat.zero_le _) rfl ?_
    refine x_ar r283_8 rfl trivial rfl ?_
    obtain ⟨D5, e6, h⟩ := am_ltE h
    refine y_las (n := 1) r283_9 rfl (by decide) (by decide) (e := 0) (by decide) e6 rfl ?_
    refine x_goto r283_10 ?_
    refine x_ic (v := 0) r283_17 rfl rfl ?_
    cases h
    exact x_ret (ret := some .int) (C := True) (v := some (.int _)) r283_18 rt283 rfl rfl rfl rfl rfl rfl rfl rfl trivial hQ
  · rcases am_ifE h with ⟨c8, h⟩ | ⟨c8, h⟩
    · rw [c8] at h4
      refine x_callH (as := [.ref 0, .int v1, .int v2]) (rest := [.int (0 : Int32), .ref 124]) (p' := 15) (il := 4) r283_5 rfl rfl rfl (by decide) (Nat.le_of_ble_eq_true rfl) (m26_exv h2 h4) (Nat.le_trans (by decide) hd) (hE1 0) (hE2 0) rfl (Nat.le_of_ble_eq_true rfl) ?_
      refine x_ic (v := 1) r283_15 rfl rfl ?_
      cases h
      exact x_ret (ret := some .int) (C := True) (v := some (.int _)) r283_16 rt283 rfl rfl rfl rfl rfl rfl rfl rfl trivial hQ
    · cases h
theorem m283_ok {N : Nat} {D : am_D} {v1 : Int32} {v2 : Int32} {r : Int32 × am_D} (h : m283 N D v1 v2 = some r) : am_Y xs L 283 7 1 6 [.ref 0, .int v1, .int v2, .ref 124] D (.inl (some (.int r.1))) r.2 := am_Yof (mi := am_m283) (lc := [.ref 0, .int v1, .int v2, .ref 124, am_dead]) pg283 (Nat.le_of_ble_eq_true rfl) (am_rc0 rfl) rfl (fun Q hQ => m283_w (Nat.le_refl _) h (fun _ => Nat.le_refl _) (fun _ => Nat.le_refl _) hQ)
theorem r284_0 : am_at 284 0 = some (.aload 4, 2, [4]) := by decide +kernel
theorem r284_2 : am_at 284 2 = some (.iconst (0), 1, []) := by decide +kernel
theorem r284_3 : am_at 284 3 = some (.aload_n 0, 1, [0]) := by decide +kernel
theorem r284_4 : am_at 284 4 = some (.iload_n 1, 1, [1]) := by decide +kernel
theorem r284_5 : am_at 284 5 = some (.iload_n 2, 1, [2]) := by decide +kernel
theorem r284_6 : am_at 284 6 = some (.iload_n 3, 1, [3]) := by decide +kernel
theorem r284_7 : am_at 284 7 = some (.invokevirtual 91, 3, [27, 4, 1182, 0, 1, 16, 5, 14]) := by decide +kernel
theorem r284_10 : am_at 284 10 = some (.dastore, 1, []) := by decide +kernel
theorem r284_11 : am_at 284 11 = some (.goto (7), 3, [18]) := by decide +kernel
theorem r284_16 : am_at 284 16 = some (.iconst (1), 1, []) := by decide +kernel
theorem r284_17 : am_at 284 17 = some (.ireturn, 1, []) := by decide +kernel
theorem r284_18 : am_at 284 18 = some (.iconst (0), 1, []) := by decide +kernel
theorem r284_19 : am_at 284 19 = some (.ireturn, 1, []) := by decide +kernel
theorem rt284 : am_rtt 284 = some (some .int) := by decide +kernel
set_option maxRecDepth 100000 in
theorem pg284 : am_pg[284]? = some am_m284 := rfl
theorem m284_w {d mc ms : Nat} {N : Nat} {D : am_D} {v1 : Int32} {v2 : Int32} {v3 : Int32} {Q : am_O → am_AH → Prop} (hd : 7 ≤ d) {r : Int32 × am_D} (h : m284 N D v1 v2 v3 = some r) (hE1 : ∀ x : Nat, 0 + 1 ≤ mc) (hE2 : ∀ x : Nat, 0 + 6 ≤ ms) (hQ : Q (.inl (some (.int r.1))) (am_mk r.2)) : am_X xs L 284 d mc ms 0 [.ref 0, .int v1, .int v2, .int v3, .ref 125, am_dead] [] (am_mk D) 0 0 Q := by
  unfold m284 at h
  refine x_ld (v := .ref 125) r284_0 rfl rfl rfl ?_
  refine x_ic (v := 0) r284_2 rfl rfl ?_
  refine x_ld (v := .ref 0) r284_3 rfl rfl rfl ?_
  refine x_ld (v := .int v1) r284_4 rfl rfl rfl ?_
  refine x_ld (v := .int v2) r284_5 rfl rfl rfl ?_
  refine x_ld (v := .int v3) r284_6 rfl rfl rfl ?_
  obtain ⟨q1, h2, h⟩ := Option.bind_eq_some_iff.mp h
  rcases am_chE h with ⟨x3, h4, h⟩ | ⟨E7, h4, h⟩
  · refine x_call1 (as := [.ref 0, .int v1, .int v2, .int v3]) (rest := [.int (0 : Int32), .ref 125]) r284_7 rfl rfl rfl (by decide) (Nat.le_of_ble_eq_true rfl) (m27_okv h2 h4) (Nat.le_trans (by decide) hd) (Nat.zero_le _) (Nat.zero_le _) rfl ?_
    obtain ⟨D5, e6, h⟩ := am_ltE h
    refine y_das (n := 1) r284_10 rfl (by decide) (by decide) (e := 0) (by decide) e6 rfl ?_
    refine x_goto r284_11 ?_
    refine x_ic (v := 0) r284_18 rfl rfl ?_
    cases h
    exact x_ret (ret := some .int) (C := True) (v := some (.int _)) r284_19 rt284 rfl rfl rfl rfl rfl rfl rfl rfl trivial hQ
  · rcases am_ifE h with ⟨c8, h⟩ | ⟨c8, h⟩
    · rw [c8] at h4
      refine x_callH (as := [.ref 0, .int v1, .int v2, .int v3]) (rest := [.int (0 : Int32), .ref 125]) (p' := 16) (il := 5) r284_7 rfl rfl rfl (by decide) (Nat.le_of_ble_eq_true rfl) (m27_exv h2 h4) (Nat.le_trans (by decide) hd) (hE1 0) (hE2 0) rfl (Nat.le_of_ble_eq_true rfl) ?_
      refine x_ic (v := 1) r284_16 rfl rfl ?_
      cases h
      exact x_ret (ret := some .int) (C := True) (v := some (.int _)) r284_17 rt284 rfl rfl rfl rfl rfl rfl rfl rfl trivial hQ
    · cases h
theorem m284_ok {N : Nat} {D : am_D} {v1 : Int32} {v2 : Int32} {v3 : Int32} {r : Int32 × am_D} (h : m284 N D v1 v2 v3 = some r) : am_Y xs L 284 7 1 6 [.ref 0, .int v1, .int v2, .int v3, .ref 125] D (.inl (some (.int r.1))) r.2 := am_Yof (mi := am_m284) (lc := [.ref 0, .int v1, .int v2, .int v3, .ref 125, am_dead]) pg284 (Nat.le_of_ble_eq_true rfl) (am_rc0 rfl) rfl (fun Q hQ => m284_w (Nat.le_refl _) h (fun _ => Nat.le_refl _) (fun _ => Nat.le_refl _) hQ)
theorem r285_0 : am_at 285 0 = some (.aload 5, 2, [5]) := by decide +kernel
theorem r285_2 : am_at 285 2 = some (.iconst (0), 1, []) := by decide +kernel
theorem r285_3 : am_at 285 3 = some (.aload_n 0, 1, [0]) := by decide +kernel
theorem r285_4 : am_at 285 4 = some (.iload_n 1, 1, [1]) := by decide +kernel
theorem r285_5 : am_at 285 5 = some (.iload_n 2, 1, [2]) := by decide +kernel
theorem r285_6 : am_at 285 6 = some (.iload_n 3, 1, [3]) := by decide +kernel
theorem r285_7 : am_at 285 7 = some (.iload 4, 2, [4]) := by decide +kernel
theorem r285_9 : am_at 285 9 = some (.invokevirtual 95, 3, [28, 5, 1186, 0, 1, 19, 6, 17, 2, 23, 6, 21]) := by decide +kernel
theorem r285_12 : am_at 285 12 = some (.i2l, 1, []) := by decide +kernel
theorem r285_13 : am_at 285 13 = some (.lastore, 1, []) := by decide +kernel
theorem r285_14 : am_at 285 14 = some (.goto (11), 3, [25]) := by decide +kernel
theorem r285_19 : am_at 285 19 = some (.iconst (1), 1, []) := by decide +kernel
theorem r285_20 : am_at 285 20 = some (.ireturn, 1, []) := by decide +kernel
theorem r285_23 : am_at 285 23 = some (.iconst (2), 1, []) := by decide +kernel
theorem r285_24 : am_at 285 24 = some (.ireturn, 1, []) := by decide +kernel
theorem r285_25 : am_at 285 25 = some (.iconst (0), 1, []) := by decide +kernel
theorem r285_26 : am_at 285 26 = some (.ireturn, 1, []) := by decide +kernel
theorem rt285 : am_rtt 285 = some (some .int) := by decide +kernel
set_option maxRecDepth 100000 in
theorem pg285 : am_pg[285]? = some am_m285 := rfl
theorem m285_w {d mc ms : Nat} {N : Nat} {D : am_D} {v1 : Int32} {v2 : Int32} {v3 : Int32} {v4 : Int32} {Q : am_O → am_AH → Prop} (hd : 7 ≤ d) {r : Int32 × am_D} (h : m285 N D v1 v2 v3 v4 = some r) (hE1 : ∀ x : Nat, 0 + 1 ≤ mc) (hE2 : ∀ x : Nat, 0 + 6 ≤ ms) (hQ : Q (.inl (some (.int r.1))) (am_mk r.2)) : am_X xs L 285 d mc ms 0 [.ref 0, .int v1, .int v2, .int v3, .int v4, .ref 124, am_dead] [] (am_mk D) 0 0 Q := by
  unfold m285 at h
  refine x_ld (v := .ref 124) r285_0 rfl rfl rfl ?_
  refine x_ic (v := 0) r285_2 rfl rfl ?_
  refine x_ld (v := .ref 0) r285_3 rfl rfl rfl ?_
  refine x_ld (v := .int v1) r285_4 rfl rfl rfl ?_
  refine x_ld (v := .int v2) r285_5 rfl rfl rfl ?_
  refine x_ld (v := .int v3) r285_6 rfl rfl rfl ?_
  refine x_ld (v := .int v4) r285_7 rfl rfl rfl ?_
  obtain ⟨q1, h2, h⟩ := Option.bind_eq_some_iff.mp h
  rcases am_chE h with ⟨x3, h4, h⟩ | ⟨E7, h4, h⟩
  · refine x_call1 (as := [.ref 0, .int v1, .int v2, .int v3, .int v4]) (rest := [.int (0 : Int32), .ref 124]) r285_9 rfl rfl rfl (by decide) (Nat.le_of_ble_eq_true rfl) (m28_okv h2 h4) (Nat.le_trans (by decide) hd) (Nat.zero_le _) (Nat.zero_le _) rfl ?_
    refine x_ar r285_12 rfl trivial rfl ?_
    obtain ⟨D5, e6, h⟩ := am_ltE h
    refine y_las (n := 1) r285_13 rfl (by decide) (by decide) (e := 0) (by decide) e6 rfl ?_
    refine x_goto r285_14 ?_
    refine x_ic (v := 0) r285_25 rfl rfl ?_
    cases h
    exact x_ret (ret := some .int) (C := True) (v := some (.int _)) r285_26 rt285 rfl rfl rfl rfl rfl rfl rfl rfl trivial hQ
  · rcases am_ifE h with ⟨c8, h⟩ | ⟨c8, h⟩
    · rw [c8] at h4
      refine x_callH (as := [.ref 0, .int v1, .int v2, .int v3, .int v4]) (rest := [.int (0 : Int32), .ref 124]) (p' := 19) (il := 6) r285_9 rfl rfl rfl (by decide) (Nat.le_of_ble_eq_true rfl) (m28_exv h2 h4) (Nat.le_trans (by decide) hd) (hE1 0) (hE2 0) rfl (Nat.le_of_ble_eq_true rfl) ?_
      refine x_ic (v := 1) r285_19 rfl rfl ?_
      cases h
      exact x_ret (ret := some .int) (C := True) (v := some (.int _)) r285_20 rt285 rfl rfl rfl rfl rfl rfl rfl rfl trivial hQ
    · rcases am_ifE h with ⟨c9, h⟩ | ⟨c9, h⟩
      · rw [c9] at h4
        refine x_callH (as := [.ref 0, .int v1, .int v2, .int v3, .int v4]) (rest := [.int (0 : Int32), .ref 124]) (p' := 23) (il := 6) r285_9 rfl rfl rfl (by decide) (Nat.le_of_ble_eq_true rfl) (m28_exv h2 h4) (Nat.le_trans (by decide) hd) (hE1 0) (hE2 0) rfl (Nat.le_of_ble_eq_true rfl) ?_
        refine x_ic (v := 2) r285_23 rfl rfl ?_
        cases h
        exact x_ret (ret := some .int) (C := True) (v := some (.int _)) r285_24 rt285 rfl rfl rfl rfl rfl rfl rfl rfl trivial hQ
      · cases h
theorem m285_ok {N : Nat} {D : am_D} {v1 : Int32} {v2 : Int32} {v3 : Int32} {v4 : Int32} {r : Int32 × am_D} (h : m285 N D v1 v2 v3 v4 = some r) : am_Y xs L 285 7 1 6 [.ref 0, .int v1, .int v2, .int v3, .int v4, .ref 124] D (.inl (some (.int r.1))) r.2 := am_Yof (mi := am_m285) (lc := [.ref 0, .int v1, .int v2, .int v3, .int v4, .ref 124, am_dead]) pg285 (Nat.le_of_ble_eq_true rfl) (am_rc0 rfl) rfl (fun Q hQ => m285_w (Nat.le_refl _) h (fun _ => Nat.le_refl _) (fun _ => Nat.le_refl _) hQ)
theorem r29_0 : am_at 29 0 = some (.iload_n 1, 1, [1]) := by decide +kernel
theorem r29_1 : am_at 29 1 = some (.ifCond .lt (8), 3, [9]) := by decide +kernel
theorem r29_4 : am_at 29 4 = some (.iload_n 1, 1, [1]) := by decide +kernel
theorem r29_5 : am_at 29 5 = some (.iconst (2), 1, []) := by decide +kernel
theorem r29_6 : am_at 29 6 = some (.if_icmp .le (14), 3, [20]) := by decide +kernel
theorem r29_9 : am_at 29 9 = some (.new 93, 3, [9, 2, 1, 397, 97, 455, 109, 9, 497]) := by decide +kernel
theorem r29_20 : am_at 29 20 = some (.aload_n 0, 1, [0]) := by decide +kernel
theorem r29_21 : am_at 29 21 = some (.getfield 10, 3, [7, 0, 3, 332]) := by decide +kernel
theorem r29_24 : am_at 29 24 = some (.getfield 98, 3, [4, 6, 0, 174]) := by decide +kernel
theorem r29_27 : am_at 29 27 = some (.iconst (1), 1, []) := by decide +kernel
theorem r29_28 : am_at 29 28 = some (.if_icmp .ne (15), 3, [43]) := by decide +kernel
theorem r29_31 : am_at 29 31 = some (.aload_n 0, 1, [0]) := by decide +kernel
theorem r29_32 : am_at 29 32 = some (.getfield 10, 3, [7, 0, 3, 332]) := by decide +kernel
theorem r29_35 : am_at 29 35 = some (.invokevirtual 399, 3, [210, 1, 391, 0]) := by decide +kernel
theorem r29_38 : am_at 29 38 = some (.bipush (9), 2, []) := by decide +kernel
theorem r29_40 : am_at 29 40 = some (.if_icmp .le (5), 3, [45]) := by decide +kernel
theorem r29_43 : am_at 29 43 = some (.iconst (-1), 1, []) := by decide +kernel
theorem r29_44 : am_at 29 44 = some (.ireturn, 1, []) := by decide +kernel
theorem r29_45 : am_at 29 45 = some (.aload_n 0, 1, [0]) := by decide +kernel
theorem r29_46 : am_at 29 46 = some (.getfield 43, 3, [7, 5, 3, 337]) := by decide +kernel
theorem r29_49 : am_at 29 49 = some (.aload_n 0, 1, [0]) := by decide +kernel
theorem r29_50 : am_at 29 50 = some (.getfield 10, 3, [7, 0, 3, 332]) := by decide +kernel
theorem r29_53 : am_at 29 53 = some (.invokevirtual 402, 3, [172, 2, 723, 0]) := by decide +kernel
theorem r29_56 : am_at 29 56 = some (.iload_n 1, 1, [1]) := by decide +kernel
theorem r29_57 : am_at 29 57 = some (.lookupswitch (43) #[(0, 27), (1, 35)], 27, [100, 0, 84, 1, 92]) := by decide +kernel
theorem r29_84 : am_at 29 84 = some (.aload_n 0, 1, [0]) := by decide +kernel
theorem r29_85 : am_at 29 85 = some (.getfield 43, 3, [7, 5, 3, 337]) := by decide +kernel
theorem r29_88 : am_at 29 88 = some (.getfield 404, 3, [2, 5, 0, 300]) := by decide +kernel
theorem r29_91 : am_at 29 91 = some (.ireturn, 1, []) := by decide +kernel
theorem r29_92 : am_at 29 92 = some (.aload_n 0, 1, [0]) := by decide +kernel
theorem r29_93 : am_at 29 93 = some (.getfield 43, 3, [7, 5, 3, 337]) := by decide +kernel
theorem r29_96 : am_at 29 96 = some (.getfield 407, 3, [2, 6, 0, 302]) := by decide +kernel
theorem r29_99 : am_at 29 99 = some (.ireturn, 1, []) := by decide +kernel
theorem r29_100 : am_at 29 100 = some (.aload_n 0, 1, [0]) := by decide +kernel
theorem r29_101 : am_at 29 101 = some (.getfield 43, 3, [7, 5, 3, 337]) := by decide +kernel
theorem r29_104 : am_at 29 104 = some (.getfield 410, 3, [2, 7, 0, 304]) := by decide +kernel
theorem r29_107 : am_at 29 107 = some (.ireturn, 1, []) := by decide +kernel
theorem rt29 : am_rtt 29 = some (some .int) := by decide +kernel
set_option maxRecDepth 100000 in
theorem pg29 : am_pg[29]? = some am_m29 := rfl
theorem m29_w {d mc ms : Nat} {N : Nat} {D : am_D} {v1 : Int32} {Q : am_O → am_AH → Prop} (hd : 55 ≤ d) {r : (Int32 ⊕ Nat) × am_D} (h : m29 N D v1 = some r) (hE : ∀ E, r.1 = .inr E → 0 + 1 ≤ mc ∧ 0 + 6 ≤ ms) (hQ : Q (am_oI r.1) (am_mk r.2)) : am_X xs L 29 d mc ms 0 [.ref 0, .int v1] [] (am_mk D) 0 0 Q := by
  unfold m29 at h
  refine x_ld (v := .int v1) r29_0 rfl rfl rfl ?_
  rcases am_ifE h with ⟨c1, h⟩ | ⟨c1, h⟩
  · refine x_ifltT r29_1 c1 ?_
    cases h
    exact x_thr r29_9 (hE _ rfl).1 (hE _ rfl).2 (Nat.le_of_ble_eq_true rfl) hQ
  · refine x_ifltF r29_1 c1 rfl ?_
    refine x_ld (v := .int v1) r29_4 rfl rfl rfl ?_
    refine x_ic (v := 2) r29_5 rfl rfl ?_
    rcases am_ifE h with ⟨c2, h⟩ | ⟨c2, h⟩
    · refine x_icleT r29_6 c2 ?_
      refine x_ld (v := .ref 0) r29_20 rfl rfl rfl ?_
      refine y_gf (cd := 3) (v := .ref 1) r29_21 rfl rfl rfl ?_
      refine y_gf (cd := 0) (v := .int (D.1 1 6)) r29_24 rfl rfl rfl ?_
      refine x_ic (v := 1) r29_27 rfl rfl ?_
      rcases am_ifE h with ⟨c3, h⟩ | ⟨c3, h⟩
      · refine x_icneT r29_28 c3 rfl ?_
        refine x_ld (v := .ref 0) r29_31 rfl rfl rfl ?_
        refine y_gf (cd := 3) (v := .ref 1) r29_32 rfl rfl rfl ?_
        obtain ⟨q4, h5, h⟩ := Option.bind_eq_some_iff.mp h
        refine x_call1 (as := [.ref 1]) (rest := []) r29_35 rfl rfl rfl (by decide) (Nat.le_of_ble_eq_true rfl) (m210_ok h5) (Nat.le_trans (by decide) hd) (Nat.zero_le _) (Nat.zero_le _) rfl ?_
        refine x_bi (v := 9) r29_38 rfl rfl ?_
        rcases am_ifE h with ⟨c6, h⟩ | ⟨c6, h⟩
        · refine x_icleT r29_40 c6 ?_
          refine x_ld (v := .ref 0) r29_45 rfl rfl rfl ?_
          refine y_gf (cd := 101) (v := .ref 99) r29_46 rfl rfl rfl ?_
          refine x_ld (v := .ref 0) r29_49 rfl rfl rfl ?_
          refine y_gf (cd := 3) (v := .ref 1) r29_50 rfl rfl rfl ?_
          obtain ⟨q7, h8, h⟩ := Option.bind_eq_some_iff.mp h
          refine x_call0 (as := [.ref 99, .ref 1]) (rest := []) r29_53 rfl rfl rfl (by decide) (Nat.le_of_ble_eq_true rfl) (m172_ok h8) (Nat.le_trans (by decide) hd) (Nat.zero_le _) (Nat.zero_le _) rfl ?_
          refine x_ld (v := .int v1) r29_56 rfl rfl rfl ?_
          rcases am_ifE h with ⟨c9, h⟩ | ⟨c9, h⟩
          · refine x_lsw (p' := 84) r29_57 (am_swT c9) ?_
            refine x_ld (v := .ref 0) r29_84 rfl rfl rfl ?_
            refine y_gf (cd := 101) (v := .ref 99) r29_85 rfl rfl rfl ?_
            refine y_gf (cd := 0) (v := .int (q7.1 99 5)) r29_88 rfl rfl rfl ?_
            cases h
            exact x_ret (ret := some .int) (C := True) (v := some (.int _)) r29_91 rt29 rfl rfl rfl rfl rfl rfl rfl rfl trivial hQ
          · rcases am_ifE h with ⟨c10, h⟩ | ⟨c10, h⟩
            · refine x_lsw (p' := 92) r29_57 (am_swF c9 (am_swT c10)) ?_
              refine x_ld (v := .ref 0) r29_92 rfl rfl rfl ?_
              refine y_gf (cd := 101) (v := .ref 99) r29_93 rfl rfl rfl ?_
              refine y_gf (cd := 0) (v := .int (q7.1 99 6)) r29_96 rfl rfl rfl ?_
              cases h
              exact x_ret (ret := some .int) (C := True) (v := some (.int _)) r29_99 rt29 rfl rfl rfl rfl rfl rfl rfl rfl trivial hQ
            · refine x_lsw (p' := 100) r29_57 (am_swF c9 (am_swF c10 (rfl))) ?_
              refine x_ld (v := .ref 0) r29_100 rfl rfl rfl ?_
              refine y_gf (cd := 101) (v := .ref 99) r29_101 rfl rfl rfl ?_
              refine y_gf (cd := 0) (v := .int (q7.1 99 7)) r29_104 rfl rfl rfl ?_
              cases h
              exact x_ret (ret := some .int) (C := True) (v := some (.int _)) r29_107 rt29 rfl rfl rfl rfl rfl rfl rfl rfl trivial hQ
        · refine x_icleF r29_40 c6 rfl ?_
          refine x_ic (v := -1) r29_43 rfl rfl ?_
          cases h
          exact x_ret (ret := some .int) (C := True) (v := some (.int _)) r29_44 rt29 rfl rfl rfl rfl rfl rfl rfl rfl trivial hQ
      · refine x_icneF r29_28 c3 ?_
        refine x_ic (v := -1) r29_43 rfl rfl ?_
        cases h
        exact x_ret (ret := some .int) (C := True) (v := some (.int _)) r29_44 rt29 rfl rfl rfl rfl rfl rfl rfl rfl trivial hQ
    · refine x_icleF r29_6 c2 rfl ?_
      cases h
      exact x_thr r29_9 (hE _ rfl).1 (hE _ rfl).2 (Nat.le_of_ble_eq_true rfl) hQ
theorem m29_okv {N : Nat} {D : am_D} {v1 : Int32} {r : (Int32 ⊕ Nat) × am_D} {v : Int32} (h : m29 N D v1 = some r) (hv : am_inl r.1 = some v) : am_Y xs L 29 55 0 0 [.ref 0, .int v1] D (.inl (some (.int v))) r.2 := am_Yof (mi := am_m29) (lc := [.ref 0, .int v1]) pg29 (Nat.le_of_ble_eq_true rfl) (am_rc1 (ci := 7) rfl rfl rfl rfl rfl) rfl (fun Q hQ => m29_w (Nat.le_refl _) h (fun E e => by rw [e] at hv; cases hv) (by rw [am_inlE hv]; exact hQ))
theorem m29_exv {N : Nat} {D : am_D} {v1 : Int32} {r : (Int32 ⊕ Nat) × am_D} {E : Nat} (h : m29 N D v1 = some r) (hv : r.1 = .inr E) : am_Y xs L 29 55 1 6 [.ref 0, .int v1] D (.inr E) r.2 := am_Yof (mi := am_m29) (lc := [.ref 0, .int v1]) pg29 (Nat.le_of_ble_eq_true rfl) (am_rc1 (ci := 7) rfl rfl rfl rfl rfl) rfl (fun Q hQ => m29_w (Nat.le_refl _) h (fun E e => ⟨Nat.le_refl _, Nat.le_refl _⟩) (by rw [hv]; exact hQ))
theorem r31_0 : am_at 31 0 = some (.ldc2_w 416, 3, [1, 418, 3793]) := by decide +kernel
theorem r31_3 : am_at 31 3 = some (.lstore_n 1, 1, [1]) := by decide +kernel
theorem r31_4 : am_at 31 4 = some (.iconst (0), 1, []) := by decide +kernel
theorem r31_5 : am_at 31 5 = some (.istore_n 3, 1, [3]) := by decide +kernel
theorem r31_6 : am_at 31 6 = some (.iload_n 3, 1, [3]) := by decide +kernel
theorem r31_7 : am_at 31 7 = some (.bipush (18), 2, []) := by decide +kernel
theorem r31_9 : am_at 31 9 = some (.if_icmp .gt (22), 3, [31]) := by decide +kernel
theorem r31_12 : am_at 31 12 = some (.ldc2_w 418, 3, [1, 419, 31]) := by decide +kernel
theorem r31_15 : am_at 31 15 = some (.lload_n 1, 1, [1]) := by decide +kernel
theorem r31_16 : am_at 31 16 = some (.lmul, 1, []) := by decide +kernel
theorem r31_17 : am_at 31 17 = some (.aload_n 0, 1, [0]) := by decide +kernel
theorem r31_18 : am_at 31 18 = some (.iload_n 3, 1, [3]) := by decide +kernel
theorem r31_19 : am_at 31 19 = some (.invokevirtual 420, 3, [22, 2, 420, 0]) := by decide +kernel
theorem r31_22 : am_at 31 22 = some (.i2l, 1, []) := by decide +kernel
theorem r31_23 : am_at 31 23 = some (.ladd, 1, []) := by decide +kernel
theorem r31_24 : am_at 31 24 = some (.lstore_n 1, 1, [1]) := by decide +kernel
theorem r31_25 : am_at 31 25 = some (.iinc 3 (1), 3, [3]) := by decide +kernel
theorem r31_28 : am_at 31 28 = some (.goto (-22), 3, [6]) := by decide +kernel
theorem r31_31 : am_at 31 31 = some (.aload_n 0, 1, [0]) := by decide +kernel
theorem r31_32 : am_at 31 32 = some (.lload_n 1, 1, [1]) := by decide +kernel
theorem r31_33 : am_at 31 33 = some (.invokevirtual 422, 3, [32, 2, 523, 0]) := by decide +kernel
theorem r31_36 : am_at 31 36 = some (.lstore_n 1, 1, [1]) := by decide +kernel
theorem r31_37 : am_at 31 37 = some (.aload_n 0, 1, [0]) := by decide +kernel
theorem r31_38 : am_at 31 38 = some (.lload_n 1, 1, [1]) := by decide +kernel
theorem r31_39 : am_at 31 39 = some (.invokevirtual 426, 3, [33, 2, 581, 0]) := by decide +kernel
theorem r31_42 : am_at 31 42 = some (.lstore_n 1, 1, [1]) := by decide +kernel
theorem r31_43 : am_at 31 43 = some (.aload_n 0, 1, [0]) := by decide +kernel
theorem r31_44 : am_at 31 44 = some (.lload_n 1, 1, [1]) := by decide +kernel
theorem r31_45 : am_at 31 45 = some (.invokevirtual 429, 3, [34, 2, 691, 0]) := by decide +kernel
theorem r31_48 : am_at 31 48 = some (.lstore_n 1, 1, [1]) := by decide +kernel
theorem r31_49 : am_at 31 49 = some (.iconst (0), 1, []) := by decide +kernel
theorem r31_50 : am_at 31 50 = some (.istore_n 3, 1, [3]) := by decide +kernel
theorem r31_51 : am_at 31 51 = some (.iload_n 3, 1, [3]) := by decide +kernel
theorem r31_52 : am_at 31 52 = some (.iconst (2), 1, []) := by decide +kernel
theorem r31_53 : am_at 31 53 = some (.if_icmp .gt (22), 3, [75]) := by decide +kernel
theorem r31_56 : am_at 31 56 = some (.ldc2_w 418, 3, [1, 419, 31]) := by decide +kernel
theorem r31_59 : am_at 31 59 = some (.lload_n 1, 1, [1]) := by decide +kernel
theorem r31_60 : am_at 31 60 = some (.lmul, 1, []) := by decide +kernel
theorem r31_61 : am_at 31 61 = some (.aload_n 0, 1, [0]) := by decide +kernel
theorem r31_62 : am_at 31 62 = some (.iload_n 3, 1, [3]) := by decide +kernel
theorem r31_63 : am_at 31 63 = some (.invokevirtual 432, 3, [29, 2, 718, 0]) := by decide +kernel
theorem r31_66 : am_at 31 66 = some (.i2l, 1, []) := by decide +kernel
theorem r31_67 : am_at 31 67 = some (.ladd, 1, []) := by decide +kernel
theorem r31_68 : am_at 31 68 = some (.lstore_n 1, 1, [1]) := by decide +kernel
theorem r31_69 : am_at 31 69 = some (.iinc 3 (1), 3, [3]) := by decide +kernel
theorem r31_72 : am_at 31 72 = some (.goto (-21), 3, [51]) := by decide +kernel
theorem r31_75 : am_at 31 75 = some (.ldc2_w 418, 3, [1, 419, 31]) := by decide +kernel
theorem r31_78 : am_at 31 78 = some (.lload_n 1, 1, [1]) := by decide +kernel
theorem r31_79 : am_at 31 79 = some (.lmul, 1, []) := by decide +kernel
theorem r31_80 : am_at 31 80 = some (.aload_n 0, 1, [0]) := by decide +kernel
theorem r31_81 : am_at 31 81 = some (.iconst (2), 1, []) := by decide +kernel
theorem r31_82 : am_at 31 82 = some (.iconst (3), 1, []) := by decide +kernel
theorem r31_83 : am_at 31 83 = some (.bipush (6), 2, []) := by decide +kernel
theorem r31_85 : am_at 31 85 = some (.invokevirtual 435, 3, [27, 4, 772, 0]) := by decide +kernel
theorem r31_88 : am_at 31 88 = some (.bipush (52), 2, []) := by decide +kernel
theorem r31_90 : am_at 31 90 = some (.sipush (1023), 3, []) := by decide +kernel
theorem r31_93 : am_at 31 93 = some (.invokestatic 439, 3, [36, 3, 776, 0]) := by decide +kernel
theorem r31_96 : am_at 31 96 = some (.ladd, 1, []) := by decide +kernel
theorem r31_97 : am_at 31 97 = some (.lstore_n 1, 1, [1]) := by decide +kernel
theorem r31_98 : am_at 31 98 = some (.ldc2_w 418, 3, [1, 419, 31]) := by decide +kernel
theorem r31_101 : am_at 31 101 = some (.lload_n 1, 1, [1]) := by decide +kernel
theorem r31_102 : am_at 31 102 = some (.lmul, 1, []) := by decide +kernel
theorem r31_103 : am_at 31 103 = some (.aload_n 0, 1, [0]) := by decide +kernel
theorem r31_104 : am_at 31 104 = some (.invokevirtual 443, 3, [30, 1, 780, 0]) := by decide +kernel
theorem r31_107 : am_at 31 107 = some (.f2d, 1, []) := by decide +kernel
theorem r31_108 : am_at 31 108 = some (.bipush (23), 2, []) := by decide +kernel
theorem r31_110 : am_at 31 110 = some (.bipush (127), 2, []) := by decide +kernel
theorem r31_112 : am_at 31 112 = some (.invokestatic 439, 3, [36, 3, 776, 0]) := by decide +kernel
theorem r31_115 : am_at 31 115 = some (.ladd, 1, []) := by decide +kernel
theorem r31_116 : am_at 31 116 = some (.lstore_n 1, 1, [1]) := by decide +kernel
theorem r31_117 : am_at 31 117 = some (.ldc2_w 418, 3, [1, 419, 31]) := by decide +kernel
theorem r31_120 : am_at 31 120 = some (.lload_n 1, 1, [1]) := by decide +kernel
theorem r31_121 : am_at 31 121 = some (.lmul, 1, []) := by decide +kernel
theorem r31_122 : am_at 31 122 = some (.aload_n 0, 1, [0]) := by decide +kernel
theorem r31_123 : am_at 31 123 = some (.getfield 54, 3, [7, 7, 2, 339]) := by decide +kernel
theorem r31_126 : am_at 31 126 = some (.ifCond .eq (7), 3, [133]) := by decide +kernel
theorem r31_129 : am_at 31 129 = some (.iconst (1), 1, []) := by decide +kernel
theorem r31_130 : am_at 31 130 = some (.goto (4), 3, [134]) := by decide +kernel
theorem r31_133 : am_at 31 133 = some (.iconst (0), 1, []) := by decide +kernel
theorem r31_134 : am_at 31 134 = some (.i2l, 1, []) := by decide +kernel
theorem r31_135 : am_at 31 135 = some (.ladd, 1, []) := by decide +kernel
theorem r31_136 : am_at 31 136 = some (.lstore_n 1, 1, [1]) := by decide +kernel
theorem r31_137 : am_at 31 137 = some (.aload_n 0, 1, [0]) := by decide +kernel
theorem r31_138 : am_at 31 138 = some (.lload_n 1, 1, [1]) := by decide +kernel
theorem r31_139 : am_at 31 139 = some (.invokevirtual 447, 3, [35, 2, 781, 0]) := by decide +kernel
theorem r31_142 : am_at 31 142 = some (.lreturn, 1, []) := by decide +kernel
theorem rt31 : am_rtt 31 = some (some .long) := by decide +kernel
set_option maxRecDepth 100000 in
theorem pg31 : am_pg[31]? = some am_m31 := rfl
theorem m31_L6_w {d : Nat} {N : Nat} {D : am_D} {mc ms : Nat} {Q : am_O → am_AH → Prop} (hd : 56 ≤ d) : ∀ (n : Nat) (v1 : Int64) (v3 : Int32) {q : Int64} (h : m31_L6 N D  n v1 v3 = some q) (k0 : am_X xs L 31 d mc ms 31 [.ref 0, .long q, am_dead, am_dead] [] (am_mk D) 0 0 Q), am_X xs L 31 d mc ms 6 [.ref 0, .long v1, am_dead, .int v3] [] (am_mk D) 0 0 Q := by
  intro n
  induction n with
  | zero =>
    intro v1 v3 q h k0
    exact (nomatch (show none = some q from h))
  | succ n ih =>
    intro v1 v3 q h k0
    rw [m31_L6] at h
    refine x_ld (v := .int v3) r31_6 rfl rfl rfl ?_
    refine x_bi (v := 18) r31_7 rfl rfl ?_
    rcases am_ifE h with ⟨c3, h⟩ | ⟨c3, h⟩
    · refine x_icgtT r31_9 c3 ?_
      refine x_forget (lc0 := [.ref 0, .long v1, am_dead, am_dead]) ⟨Or.inl rfl, Or.inl rfl, Or.inl rfl, Or.inr ⟨rfl, rfl⟩, trivial⟩ ?_
      cases h
      exact k0
    · refine x_icgtF r31_9 c3 rfl ?_
      refine x_sp r31_12 rfl rfl rfl rfl rfl rfl trivial rfl ?_
      refine x_ld (v := .long v1) r31_15 rfl rfl rfl ?_
      refine x_ar r31_16 rfl trivial rfl ?_
      refine x_ld (v := .ref 0) r31_17 rfl rfl rfl ?_
      refine x_ld (v := .int v3) r31_18 rfl rfl rfl ?_
      obtain ⟨q4, h5, h⟩ := Option.bind_eq_some_iff.mp h
      obtain ⟨x6, h7, h⟩ := Option.bind_eq_some_iff.mp h
      refine x_call1 (as := [.ref 0, .int v3]) (rest := [.long ((Int64.ofNat 31) * v1)]) r31_19 rfl rfl rfl (by decide) (Nat.le_of_ble_eq_true rfl) (m22_okv h5 h7) (Nat.le_trans (by decide) hd) (Nat.zero_le _) (Nat.zero_le _) rfl ?_
      refine x_ar r31_22 rfl trivial rfl ?_
      refine x_ar r31_23 rfl trivial rfl ?_
      obtain ⟨x8, e9, h⟩ := am_ltE h
      refine am_topJ e9 ?_
      refine x_sto (lc' := [.ref 0, .long x8, am_dead, .int v3]) r31_24 rfl rfl rfl rfl ?_
      obtain ⟨x10, e11, h⟩ := am_ltE h
      refine x_sto (lc' := [.ref 0, .long x8, am_dead, .int x10]) r31_25 rfl rfl (by subst e11; rfl) rfl ?_
      refine x_goto r31_28 ?_
      exact x_forget (lc0 := [.ref 0, .long x8, am_dead, .int x10]) ⟨Or.inl rfl, Or.inl rfl, Or.inl rfl, Or.inl rfl, trivial⟩ (ih x8 x10 h k0)
theorem m31_L51_w {d : Nat} {N : Nat} {mc ms : Nat} {Q : am_O → am_AH → Prop} (hd : 56 ≤ d) : ∀ (n : Nat) (D : am_D) (v1 : Int64) (v3 : Int32) {q : Int64 × am_D} (h : m31_L51 N  n D v1 v3 = some q) (k0 : am_X xs L 31 d mc ms 75 [.ref 0, .long q.1, am_dead, am_dead] [] (am_mk q.2) 0 0 Q), am_X xs L 31 d mc ms 51 [.ref 0, .long v1, am_dead, .int v3] [] (am_mk D) 0 0 Q := by
  intro n
  induction n with
  | zero =>
    intro D v1 v3 q h k0
    exact (nomatch (show none = some q from h))
  | succ n ih =>
    intro D v1 v3 q h k0
    rw [m31_L51] at h
    refine x_ld (v := .int v3) r31_51 rfl rfl rfl ?_
    refine x_ic (v := 2) r31_52 rfl rfl ?_
    rcases am_ifE h with ⟨c20, h⟩ | ⟨c20, h⟩
    · refine x_icgtT r31_53 c20 ?_
      refine x_forget (lc0 := [.ref 0, .long v1, am_dead, am_dead]) ⟨Or.inl rfl, Or.inl rfl, Or.inl rfl, Or.inr ⟨rfl, rfl⟩, trivial⟩ ?_
      cases h
      exact k0
    · refine x_icgtF r31_53 c20 rfl ?_
      refine x_sp r31_56 rfl rfl rfl rfl rfl rfl trivial rfl ?_
      refine x_ld (v := .long v1) r31_59 rfl rfl rfl ?_
      refine x_ar r31_60 rfl trivial rfl ?_
      refine x_ld (v := .ref 0) r31_61 rfl rfl rfl ?_
      refine x_ld (v := .int v3) r31_62 rfl rfl rfl ?_
      obtain ⟨q21, h22, h⟩ := Option.bind_eq_some_iff.mp h
      obtain ⟨x23, h24, h⟩ := Option.bind_eq_some_iff.mp h
      refine x_call1 (as := [.ref 0, .int v3]) (rest := [.long ((Int64.ofNat 31) * v1)]) r31_63 rfl rfl rfl (by decide) (Nat.le_of_ble_eq_true rfl) (m29_okv h22 h24) (Nat.le_trans (by decide) hd) (Nat.zero_le _) (Nat.zero_le _) rfl ?_
      refine x_ar r31_66 rfl trivial rfl ?_
      refine x_ar r31_67 rfl trivial rfl ?_
      obtain ⟨x25, e26, h⟩ := am_ltE h
      refine am_topJ e26 ?_
      refine x_sto (lc' := [.ref 0, .long x25, am_dead, .int v3]) r31_68 rfl rfl rfl rfl ?_
      obtain ⟨x27, e28, h⟩ := am_ltE h
      refine x_sto (lc' := [.ref 0, .long x25, am_dead, .int x27]) r31_69 rfl rfl (by subst e28; rfl) rfl ?_
      refine x_goto r31_72 ?_
      exact x_forget (lc0 := [.ref 0, .long x25, am_dead, .int x27]) ⟨Or.inl rfl, Or.inl rfl, Or.inl rfl, Or.inl rfl, trivial⟩ (ih q21.2 x25 x27 h k0)
theorem m31_w {d mc ms : Nat} {N : Nat} {D : am_D} {Q : am_O → am_AH → Prop} (hd : 56 ≤ d) {r : Int64 × am_D} (h : m31 N D = some r) (hQ : Q (.inl (some (.long r.1))) (am_mk r.2)) : am_X xs L 31 d mc ms 0 [.ref 0, am_dead, am_dead, am_dead] [] (am_mk D) 0 0 Q := by
  unfold m31 at h
  refine x_sp r31_0 rfl rfl rfl rfl rfl rfl trivial rfl ?_
  obtain ⟨x1, e2, h⟩ := am_ltE h
  refine am_topJ e2 ?_
  refine x_sto (lc' := [.ref 0, .long x1, am_dead, am_dead]) r31_3 rfl rfl rfl rfl ?_
  refine x_ic (v := 0) r31_4 rfl rfl ?_
  refine x_sto (lc' := [.ref 0, .long x1, am_dead, .int (0 : Int32)]) r31_5 rfl rfl rfl rfl ?_
  obtain ⟨q12, h13, h⟩ := Option.bind_eq_some_iff.mp h
  refine x_forget (lc0 := [.ref 0, .long x1, am_dead, .int (0 : Int32)]) ⟨Or.inl rfl, Or.inl rfl, Or.inl rfl, Or.inl rfl, trivial⟩ (m31_L6_w hd N x1 (0 : Int32) h13 ?_)
  refine x_ld (v := .ref 0) r31_31 rfl rfl rfl ?_
  refine x_ld (v := .long q12) r31_32 rfl rfl rfl ?_
  obtain ⟨q14, h15, h⟩ := Option.bind_eq_some_iff.mp h
  refine x_call1 (as := [.ref 0, .long q12]) (rest := []) r31_33 rfl rfl rfl (by decide) (Nat.le_of_ble_eq_true rfl) (m32_ok h15) (Nat.le_trans (by decide) hd) (Nat.zero_le _) (Nat.zero_le _) rfl ?_
  refine x_sto (lc' := [.ref 0, .long q14, am_dead, am_dead]) r31_36 rfl rfl rfl rfl ?_
  refine x_ld (v := .ref 0) r31_37 rfl rfl rfl ?_
  refine x_ld (v := .long q14) r31_38 rfl rfl rfl ?_
  obtain ⟨q16, h17, h⟩ := Option.bind_eq_some_iff.mp h
  refine x_call1 (as := [.ref 0, .long q14]) (rest := []) r31_39 rfl rfl rfl (by decide) (Nat.le_of_ble_eq_true rfl) (m33_ok h17) (Nat.le_trans (by decide) hd) (Nat.zero_le _) (Nat.zero_le _) rfl ?_
  refine x_sto (lc' := [.ref 0, .long q16.1, am_dead, am_dead]) r31_42 rfl rfl rfl rfl ?_
  refine x_ld (v := .ref 0) r31_43 rfl rfl rfl ?_
  refine x_ld (v := .long q16.1) r31_44 rfl rfl rfl ?_
  obtain ⟨q18, h19, h⟩ := Option.bind_eq_some_iff.mp h
  refine x_call1 (as := [.ref 0, .long q16.1]) (rest := []) r31_45 rfl rfl rfl (by decide) (Nat.le_of_ble_eq_true rfl) (m34_ok h19) (Nat.le_trans (by decide) hd) (Nat.zero_le _) (Nat.zero_le _) rfl ?_
  refine x_sto (lc' := [.ref 0, .long q18.1, am_dead, am_dead]) r31_48 rfl rfl rfl rfl ?_
  refine x_ic (v := 0) r31_49 rfl rfl ?_
  refine x_sto (lc' := [.ref 0, .long q18.1, am_dead, .int (0 : Int32)]) r31_50 rfl rfl rfl rfl ?_
  obtain ⟨q29, h30, h⟩ := Option.bind_eq_some_iff.mp h
  refine x_forget (lc0 := [.ref 0, .long q18.1, am_dead, .int (0 : Int32)]) ⟨Or.inl rfl, Or.inl rfl, Or.inl rfl, Or.inl rfl, trivial⟩ (m31_L51_w hd N q18.2 q18.1 (0 : Int32) h30 ?_)
  refine x_sp r31_75 rfl rfl rfl rfl rfl rfl trivial rfl ?_
  refine x_ld (v := .long q29.1) r31_78 rfl rfl rfl ?_
  refine x_ar r31_79 rfl trivial rfl ?_
  refine x_ld (v := .ref 0) r31_80 rfl rfl rfl ?_
  refine x_ic (v := 2) r31_81 rfl rfl ?_
  refine x_ic (v := 3) r31_82 rfl rfl ?_
  refine x_bi (v := 6) r31_83 rfl rfl ?_
  obtain ⟨q31, h32, h⟩ := Option.bind_eq_some_iff.mp h
  obtain ⟨x33, h34, h⟩ := Option.bind_eq_some_iff.mp h
  refine x_call1 (as := [.ref 0, .int (2 : Int32), .int (3 : Int32), .int (6 : Int32)]) (rest := [.long ((Int64.ofNat 31) * q29.1)]) r31_85 rfl rfl rfl (by decide) (Nat.le_of_ble_eq_true rfl) (m27_okv h32 h34) (Nat.le_trans (by decide) hd) (Nat.zero_le _) (Nat.zero_le _) rfl ?_
  refine x_bi (v := 52) r31_88 rfl rfl ?_
  refine x_si (v := 1023) r31_90 rfl rfl ?_
  obtain ⟨q35, h36, h⟩ := Option.bind_eq_some_iff.mp h
  refine x_call1 (as := [.double x33, .int (52 : Int32), .int (1023 : Int32)]) (rest := [.long ((Int64.ofNat 31) * q29.1)]) r31_93 rfl rfl rfl (by decide) (Nat.le_of_ble_eq_true rfl) (m36_ok h36) (Nat.le_trans (by decide) hd) (Nat.zero_le _) (Nat.zero_le _) rfl ?_
  refine x_ar r31_96 rfl trivial rfl ?_
  obtain ⟨x37, e38, h⟩ := am_ltE h
  refine am_topJ e38 ?_
  refine x_sto (lc' := [.ref 0, .long x37, am_dead, am_dead]) r31_97 rfl rfl rfl rfl ?_
  refine x_sp r31_98 rfl rfl rfl rfl rfl rfl trivial rfl ?_
  refine x_ld (v := .long x37) r31_101 rfl rfl rfl ?_
  refine x_ar r31_102 rfl trivial rfl ?_
  refine x_ld (v := .ref 0) r31_103 rfl rfl rfl ?_
  obtain ⟨q39, h40, h⟩ := Option.bind_eq_some_iff.mp h
  refine x_call1 (as := [.ref 0]) (rest := [.long ((Int64.ofNat 31) * x37)]) r31_104 rfl rfl rfl (by decide) (Nat.le_of_ble_eq_true rfl) (m30_ok h40) (Nat.le_trans (by decide) hd) (Nat.zero_le _) (Nat.zero_le _) rfl ?_
  obtain ⟨g41, h⟩ := am_gdE h
  refine x_ar r31_107 rfl g41 rfl ?_
  refine x_bi (v := 23) r31_108 rfl rfl ?_
  refine x_bi (v := 127) r31_110 rfl rfl ?_
  obtain ⟨q42, h43, h⟩ := Option.bind_eq_some_iff.mp h
  refine x_call1 (as := [.double (FP.f2d q39), .int (23 : Int32), .int (127 : Int32)]) (rest := [.long ((Int64.ofNat 31) * x37)]) r31_112 rfl rfl rfl (by decide) (Nat.le_of_ble_eq_true rfl) (m36_ok h43) (Nat.le_trans (by decide) hd) (Nat.zero_le _) (Nat.zero_le _) rfl ?_
  refine x_ar r31_115 rfl trivial rfl ?_
  obtain ⟨x44, e45, h⟩ := am_ltE h
  refine am_topJ e45 ?_
  refine x_sto (lc' := [.ref 0, .long x44, am_dead, am_dead]) r31_116 rfl rfl rfl rfl ?_
  refine x_sp r31_117 rfl rfl rfl rfl rfl rfl trivial rfl ?_
  refine x_ld (v := .long x44) r31_120 rfl rfl rfl ?_
  refine x_ar r31_121 rfl trivial rfl ?_
  refine x_ld (v := .ref 0) r31_122 rfl rfl rfl ?_
  refine y_gf (cd := 0) (v := .int (q31.2.1 0 7)) r31_123 rfl rfl rfl ?_
  obtain ⟨q46, h48, h⟩ := am_ltE h
  replace h48 := h48.symm
  have kj47 : am_X xs L 31 d mc ms 134 [.ref 0, .long x44, am_dead, am_dead] [.int q46, .long ((Int64.ofNat 31) * x44)] (am_mk q31.2) 0 0 Q := by
    refine x_ar r31_134 rfl trivial rfl ?_
    refine x_ar r31_135 rfl trivial rfl ?_
    obtain ⟨x50, e51, h⟩ := am_ltE h
    refine am_topJ e51 ?_
    refine x_sto (lc' := [.ref 0, .long x50, am_dead, am_dead]) r31_136 rfl rfl rfl rfl ?_
    refine x_ld (v := .ref 0) r31_137 rfl rfl rfl ?_
    refine x_ld (v := .long x50) r31_138 rfl rfl rfl ?_
    obtain ⟨q52, h53, h⟩ := Option.bind_eq_some_iff.mp h
    refine x_call1 (as := [.ref 0, .long x50]) (rest := []) r31_139 rfl rfl rfl (by decide) (Nat.le_of_ble_eq_true rfl) (m35_ok h53) (Nat.le_trans (by decide) hd) (Nat.zero_le _) (Nat.zero_le _) rfl ?_
    cases h
    exact x_ret (ret := some .long) (C := True) (v := some (.long _)) r31_142 rt31 rfl rfl rfl rfl rfl rfl rfl rfl trivial hQ
  rcases am_ifE h48 with ⟨c49, h48⟩ | ⟨c49, h48⟩
  · refine x_ifeqT r31_126 c49 ?_
    refine x_ic (v := 0) r31_133 rfl rfl ?_
    subst h48
    exact kj47
  · refine x_ifeqF r31_126 c49 rfl ?_
    refine x_ic (v := 1) r31_129 rfl rfl ?_
    refine x_goto r31_130 ?_
    subst h48
    exact kj47
theorem m31_ok {N : Nat} {D : am_D} {r : Int64 × am_D} (h : m31 N D = some r) : am_Y xs L 31 56 0 0 [.ref 0] D (.inl (some (.long r.1))) r.2 := am_Yof (mi := am_m31) (lc := [.ref 0, am_dead, am_dead, am_dead]) pg31 (Nat.le_of_ble_eq_true rfl) (am_rc1 (ci := 7) rfl rfl rfl rfl rfl) rfl (fun Q hQ => m31_w (Nat.le_refl _) h hQ)
end XE
