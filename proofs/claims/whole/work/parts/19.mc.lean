/-! methods as functions, with their walks (by wip/tools/decomp.py): 79 80 81 82 83 84 85 86 87 88 89 90 91 92 93 94 -/
section XE
variable {xs : Nat → Int32} {L : Nat}
theorem r79_0 : am_at 79 0 = some (.iload_n 1, 1, [1]) := by decide +kernel
theorem r79_1 : am_at 79 1 = some (.istore_n 2, 1, [2]) := by decide +kernel
theorem r79_2 : am_at 79 2 = some (.iconst (0), 1, []) := by decide +kernel
theorem r79_3 : am_at 79 3 = some (.istore_n 3, 1, [3]) := by decide +kernel
theorem r79_4 : am_at 79 4 = some (.iload_n 3, 1, [3]) := by decide +kernel
theorem r79_5 : am_at 79 5 = some (.bipush (28), 2, []) := by decide +kernel
theorem r79_7 : am_at 79 7 = some (.if_icmp .ge (27), 3, [34]) := by decide +kernel
theorem r79_10 : am_at 79 10 = some (.aload_n 0, 1, [0]) := by decide +kernel
theorem r79_11 : am_at 79 11 = some (.iconst (5), 1, []) := by decide +kernel
theorem r79_12 : am_at 79 12 = some (.iload_n 3, 1, [3]) := by decide +kernel
theorem r79_13 : am_at 79 13 = some (.invokevirtual 69, 3, [56, 3, 1315, 0]) := by decide +kernel
theorem r79_16 : am_at 79 16 = some (.ifCond .eq (12), 3, [28]) := by decide +kernel
theorem r79_19 : am_at 79 19 = some (.iload_n 2, 1, [2]) := by decide +kernel
theorem r79_20 : am_at 79 20 = some (.ifCond .ne (5), 3, [25]) := by decide +kernel
theorem r79_23 : am_at 79 23 = some (.iload_n 3, 1, [3]) := by decide +kernel
theorem r79_24 : am_at 79 24 = some (.ireturn, 1, []) := by decide +kernel
theorem r79_25 : am_at 79 25 = some (.iinc 2 (-1), 3, [2]) := by decide +kernel
theorem r79_28 : am_at 79 28 = some (.iinc 3 (1), 3, [3]) := by decide +kernel
theorem r79_31 : am_at 79 31 = some (.goto (-27), 3, [4]) := by decide +kernel
theorem r79_34 : am_at 79 34 = some (.iconst (-1), 1, []) := by decide +kernel
theorem r79_35 : am_at 79 35 = some (.ireturn, 1, []) := by decide +kernel
theorem rt79 : am_rtt 79 = some (some .int) := by decide +kernel
set_option maxRecDepth 100000 in
theorem pg79 : am_pg[79]? = some am_m79 := rfl
theorem m79_L4_w {d : Nat} {N : Nat} {D : am_D} {mc ms : Nat} {Q : am_O → am_AH → Prop} (hd : 2 ≤ d) : ∀ (n : Nat) (v2 : Int32) (v3 : Int32) {q : Nat × Int32} (h : m79_L4 N D  n v2 v3 = some q) (k0 : q.1 = 0 → am_X xs L 79 d mc ms 34 [.ref 106, am_dead, am_dead, am_dead] [] (am_mk D) 0 0 Q) (k1 : q.1 = 1 → am_X xs L 79 d mc ms 23 [.ref 106, am_dead, am_dead, .int q.2] [] (am_mk D) 0 0 Q), am_X xs L 79 d mc ms 4 [.ref 106, am_dead, .int v2, .int v3] [] (am_mk D) 0 0 Q := by
  intro n
  induction n with
  | zero =>
    intro v2 v3 q h k0 k1
    exact (nomatch (show none = some q from h))
  | succ n ih =>
    intro v2 v3 q h k0 k1
    rw [m79_L4] at h
    refine x_ld (v := .int v3) r79_4 rfl rfl rfl ?_
    refine x_bi (v := 28) r79_5 rfl rfl ?_
    rcases am_ifE h with ⟨c1, h⟩ | ⟨c1, h⟩
    · refine x_icgeT r79_7 c1 ?_
      refine x_forget (lc0 := [.ref 106, am_dead, am_dead, am_dead]) ⟨Or.inl rfl, Or.inl rfl, Or.inr ⟨rfl, rfl⟩, Or.inr ⟨rfl, rfl⟩, trivial⟩ ?_
      cases h
      exact k0 rfl
    · refine x_icgeF r79_7 c1 rfl ?_
      refine x_ld (v := .ref 106) r79_10 rfl rfl rfl ?_
      refine x_ic (v := 5) r79_11 rfl rfl ?_
      refine x_ld (v := .int v3) r79_12 rfl rfl rfl ?_
      obtain ⟨q2, h3, h⟩ := Option.bind_eq_some_iff.mp h
      refine x_call1 (as := [.ref 106, .int (5 : Int32), .int v3]) (rest := []) r79_13 rfl rfl rfl (by decide) (Nat.le_of_ble_eq_true rfl) (m56_ok h3) (Nat.le_trans (by decide) hd) (Nat.zero_le _) (Nat.zero_le _) rfl ?_
      rcases am_ifE h with ⟨c4, h⟩ | ⟨c4, h⟩
      · refine x_ifeqT r79_16 c4 ?_
        obtain ⟨x5, e6, h⟩ := am_ltE h
        refine x_sto (lc' := [.ref 106, am_dead, .int v2, .int x5]) r79_28 rfl rfl (by subst e6; rfl) rfl ?_
        refine x_goto r79_31 ?_
        exact x_forget (lc0 := [.ref 106, am_dead, .int v2, .int x5]) ⟨Or.inl rfl, Or.inl rfl, Or.inl rfl, Or.inl rfl, trivial⟩ (ih v2 x5 h k0 k1)
      · refine x_ifeqF r79_16 c4 rfl ?_
        refine x_ld (v := .int v2) r79_19 rfl rfl rfl ?_
        rcases am_ifE h with ⟨c7, h⟩ | ⟨c7, h⟩
        · refine x_ifneT r79_20 c7 rfl ?_
          refine x_forget (lc0 := [.ref 106, am_dead, am_dead, .int v3]) ⟨Or.inl rfl, Or.inl rfl, Or.inr ⟨rfl, rfl⟩, Or.inl rfl, trivial⟩ ?_
          cases h
          exact k1 rfl
        · refine x_ifneF r79_20 c7 ?_
          obtain ⟨x8, e9, h⟩ := am_ltE h
          refine x_sto (lc' := [.ref 106, am_dead, .int x8, .int v3]) r79_25 rfl rfl (by subst e9; rfl) rfl ?_
          obtain ⟨x10, e11, h⟩ := am_ltE h
          refine x_sto (lc' := [.ref 106, am_dead, .int x8, .int x10]) r79_28 rfl rfl (by subst e11; rfl) rfl ?_
          refine x_goto r79_31 ?_
          exact x_forget (lc0 := [.ref 106, am_dead, .int x8, .int x10]) ⟨Or.inl rfl, Or.inl rfl, Or.inl rfl, Or.inl rfl, trivial⟩ (ih x8 x10 h k0 k1)
theorem m79_w {d mc ms : Nat} {N : Nat} {D : am_D} {v1 : Int32} {Q : am_O → am_AH → Prop} (hd : 2 ≤ d) {r : Int32} (h : m79 N D v1 = some r) (hQ : Q (.inl (some (.int r))) (am_mk D)) : am_X xs L 79 d mc ms 0 [.ref 106, .int v1, am_dead, am_dead] [] (am_mk D) 0 0 Q := by
  unfold m79 at h
  refine x_ld (v := .int v1) r79_0 rfl rfl rfl ?_
  refine x_sto (lc' := [.ref 106, .int v1, .int v1, am_dead]) r79_1 rfl rfl rfl rfl ?_
  refine x_ic (v := 0) r79_2 rfl rfl ?_
  refine x_sto (lc' := [.ref 106, .int v1, .int v1, .int (0 : Int32)]) r79_3 rfl rfl rfl rfl ?_
  obtain ⟨q12, h13, h⟩ := Option.bind_eq_some_iff.mp h
  refine x_forget (lc0 := [.ref 106, am_dead, .int v1, .int (0 : Int32)]) ⟨Or.inl rfl, Or.inr ⟨rfl, rfl⟩, Or.inl rfl, Or.inl rfl, trivial⟩ (m79_L4_w hd N v1 (0 : Int32) h13 (fun e14 => ?_) (fun e15 => ?_))
  · rw [if_pos e14] at h
    refine x_ic (v := -1) r79_34 rfl rfl ?_
    cases h
    exact x_ret (ret := some .int) (C := True) (v := some (.int _)) r79_35 rt79 rfl rfl rfl rfl rfl rfl rfl rfl trivial hQ
  · rw [if_neg (by rw [e15]; decide)] at h
    refine x_ld (v := .int q12.2) r79_23 rfl rfl rfl ?_
    cases h
    exact x_ret (ret := some .int) (C := True) (v := some (.int _)) r79_24 rt79 rfl rfl rfl rfl rfl rfl rfl rfl trivial hQ
theorem m79_ok {N : Nat} {D : am_D} {v1 : Int32} {r : Int32} (h : m79 N D v1 = some r) : am_Y xs L 79 2 0 0 [.ref 106, .int v1] D (.inl (some (.int r))) D := am_Yof (mi := am_m79) (lc := [.ref 106, .int v1, am_dead, am_dead]) pg79 (Nat.le_of_ble_eq_true rfl) (am_rc1 (ci := 8) rfl rfl rfl rfl rfl) rfl (fun Q hQ => m79_w (Nat.le_refl _) h hQ)
theorem r80_0 : am_at 80 0 = some (.aload_n 0, 1, [0]) := by decide +kernel
theorem r80_1 : am_at 80 1 = some (.iload_n 1, 1, [1]) := by decide +kernel
theorem r80_2 : am_at 80 2 = some (.iconst (0), 1, []) := by decide +kernel
theorem r80_3 : am_at 80 3 = some (.sipush (4095), 3, []) := by decide +kernel
theorem r80_6 : am_at 80 6 = some (.invokestatic 65, 3, [46, 3, 1305, 0]) := by decide +kernel
theorem r80_9 : am_at 80 9 = some (.ifCond .ne (7), 3, [16]) := by decide +kernel
theorem r80_12 : am_at 80 12 = some (.iconst (1), 1, []) := by decide +kernel
theorem r80_13 : am_at 80 13 = some (.goto (17), 3, [30]) := by decide +kernel
theorem r80_16 : am_at 80 16 = some (.aload_n 0, 1, [0]) := by decide +kernel
theorem r80_17 : am_at 80 17 = some (.getfield 7, 3, [8, 1, 3, 1216]) := by decide +kernel
theorem r80_20 : am_at 80 20 = some (.iconst (0), 1, []) := by decide +kernel
theorem r80_21 : am_at 80 21 = some (.iaload, 1, []) := by decide +kernel
theorem r80_22 : am_at 80 22 = some (.ifCond .eq (7), 3, [29]) := by decide +kernel
theorem r80_25 : am_at 80 25 = some (.iconst (2), 1, []) := by decide +kernel
theorem r80_26 : am_at 80 26 = some (.goto (4), 3, [30]) := by decide +kernel
theorem r80_29 : am_at 80 29 = some (.iconst (0), 1, []) := by decide +kernel
theorem r80_30 : am_at 80 30 = some (.invokevirtual 142, 3, [47, 2, 1323, 0]) := by decide +kernel
theorem r80_33 : am_at 80 33 = some (.ifCond .ne (5), 3, [38]) := by decide +kernel
theorem r80_36 : am_at 80 36 = some (.iconst (0), 1, []) := by decide +kernel
theorem r80_37 : am_at 80 37 = some (.ireturn, 1, []) := by decide +kernel
theorem r80_38 : am_at 80 38 = some (.aload_n 0, 1, [0]) := by decide +kernel
theorem r80_39 : am_at 80 39 = some (.invokevirtual 145, 3, [76, 1, 1327, 0]) := by decide +kernel
theorem r80_42 : am_at 80 42 = some (.iload_n 1, 1, [1]) := by decide +kernel
theorem r80_43 : am_at 80 43 = some (.istore_n 2, 1, [2]) := by decide +kernel
theorem r80_44 : am_at 80 44 = some (.iconst (0), 1, []) := by decide +kernel
theorem r80_45 : am_at 80 45 = some (.istore_n 3, 1, [3]) := by decide +kernel
theorem r80_46 : am_at 80 46 = some (.iconst (0), 1, []) := by decide +kernel
theorem r80_47 : am_at 80 47 = some (.istore 4, 2, [4]) := by decide +kernel
theorem r80_49 : am_at 80 49 = some (.iload 4, 2, [4]) := by decide +kernel
theorem r80_51 : am_at 80 51 = some (.iconst (4), 1, []) := by decide +kernel
theorem r80_52 : am_at 80 52 = some (.if_icmp .ge (59), 3, [111]) := by decide +kernel
theorem r80_55 : am_at 80 55 = some (.aload_n 0, 1, [0]) := by decide +kernel
theorem r80_56 : am_at 80 56 = some (.iload 4, 2, [4]) := by decide +kernel
theorem r80_58 : am_at 80 58 = some (.invokevirtual 121, 3, [57, 2, 1319, 0]) := by decide +kernel
theorem r80_61 : am_at 80 61 = some (.bipush (7), 2, []) := by decide +kernel
theorem r80_63 : am_at 80 63 = some (.if_icmp .ge (42), 3, [105]) := by decide +kernel
theorem r80_66 : am_at 80 66 = some (.bipush (73), 2, []) := by decide +kernel
theorem r80_68 : am_at 80 68 = some (.iload_n 2, 1, [2]) := by decide +kernel
theorem r80_69 : am_at 80 69 = some (.imul, 1, []) := by decide +kernel
theorem r80_70 : am_at 80 70 = some (.bipush (41), 2, []) := by decide +kernel
theorem r80_72 : am_at 80 72 = some (.iadd, 1, []) := by decide +kernel
theorem r80_73 : am_at 80 73 = some (.sipush (4096), 3, []) := by decide +kernel
theorem r80_76 : am_at 80 76 = some (.irem, 1, []) := by decide +kernel
theorem r80_77 : am_at 80 77 = some (.istore_n 2, 1, [2]) := by decide +kernel
theorem r80_78 : am_at 80 78 = some (.aload_n 0, 1, [0]) := by decide +kernel
theorem r80_79 : am_at 80 79 = some (.getfield 7, 3, [8, 1, 3, 1216]) := by decide +kernel
theorem r80_82 : am_at 80 82 = some (.bipush (25), 2, []) := by decide +kernel
theorem r80_84 : am_at 80 84 = some (.aload_n 0, 1, [0]) := by decide +kernel
theorem r80_85 : am_at 80 85 = some (.iload_n 2, 1, [2]) := by decide +kernel
theorem r80_86 : am_at 80 86 = some (.aload_n 0, 1, [0]) := by decide +kernel
theorem r80_87 : am_at 80 87 = some (.iconst (5), 1, []) := by decide +kernel
theorem r80_88 : am_at 80 88 = some (.invokevirtual 121, 3, [57, 2, 1319, 0]) := by decide +kernel
theorem r80_91 : am_at 80 91 = some (.irem, 1, []) := by decide +kernel
theorem r80_92 : am_at 80 92 = some (.invokevirtual 148, 3, [79, 2, 1339, 0]) := by decide +kernel
theorem r80_95 : am_at 80 95 = some (.iadd, 1, []) := by decide +kernel
theorem r80_96 : am_at 80 96 = some (.iload 4, 2, [4]) := by decide +kernel
theorem r80_98 : am_at 80 98 = some (.iastore, 1, []) := by decide +kernel
theorem r80_99 : am_at 80 99 = some (.iinc 3 (1), 3, [3]) := by decide +kernel
theorem r80_102 : am_at 80 102 = some (.goto (-47), 3, [55]) := by decide +kernel
theorem r80_105 : am_at 80 105 = some (.iinc 4 (1), 3, [4]) := by decide +kernel
theorem r80_108 : am_at 80 108 = some (.goto (-59), 3, [49]) := by decide +kernel
theorem r80_111 : am_at 80 111 = some (.iload_n 3, 1, [3]) := by decide +kernel
theorem r80_112 : am_at 80 112 = some (.ireturn, 1, []) := by decide +kernel
theorem rt80 : am_rtt 80 = some (some .int) := by decide +kernel
set_option maxRecDepth 100000 in
theorem pg80 : am_pg[80]? = some am_m80 := rfl
theorem m80_L55_w {d : Nat} {N : Nat} {v4 : Int32} {mc ms : Nat} {Q : am_O → am_AH → Prop} (hd : 3 ≤ d) : ∀ (n : Nat) (D : am_D) (v2 : Int32) (v3 : Int32) {q : Int32 × Int32 × am_D} (h : m80_L55 N v4  n D v2 v3 = some q) (k0 : am_X xs L 80 d mc ms 105 [.ref 106, am_dead, .int q.1, .int q.2.1, .int v4] [] (am_mk q.2.2) 0 0 Q), am_X xs L 80 d mc ms 55 [.ref 106, am_dead, .int v2, .int v3, .int v4] [] (am_mk D) 0 0 Q := by
  intro n
  induction n with
  | zero =>
    intro D v2 v3 q h k0
    exact (nomatch (show none = some q from h))
  | succ n ih =>
    intro D v2 v3 q h k0
    rw [m80_L55] at h
    refine x_ld (v := .ref 106) r80_55 rfl rfl rfl ?_
    refine x_ld (v := .int v4) r80_56 rfl rfl rfl ?_
    obtain ⟨q12, h13, h⟩ := Option.bind_eq_some_iff.mp h
    refine x_call1 (as := [.ref 106, .int v4]) (rest := []) r80_58 rfl rfl rfl (by decide) (Nat.le_of_ble_eq_true rfl) (m57_ok h13) (Nat.le_trans (by decide) hd) (Nat.zero_le _) (Nat.zero_le _) rfl ?_
    refine x_bi (v := 7) r80_61 rfl rfl ?_
    rcases am_ifE h with ⟨c14, h⟩ | ⟨c14, h⟩
    · refine x_icgeT r80_63 c14 ?_
      refine x_forget (lc0 := [.ref 106, am_dead, .int v2, .int v3, .int v4]) ⟨Or.inl rfl, Or.inl rfl, Or.inl rfl, Or.inl rfl, Or.inl rfl, trivial⟩ ?_
      cases h
      exact k0
    · refine x_icgeF r80_63 c14 rfl ?_
      refine x_bi (v := 73) r80_66 rfl rfl ?_
      refine x_ld (v := .int v2) r80_68 rfl rfl rfl ?_
      refine x_ar r80_69 rfl trivial rfl ?_
      refine x_bi (v := 41) r80_70 rfl rfl ?_
      refine x_ar r80_72 rfl trivial rfl ?_
      refine x_si (v := 4096) r80_73 rfl rfl ?_
      refine x_ar r80_76 rfl (by decide) rfl ?_
      obtain ⟨x15, e16, h⟩ := am_ltE h
      refine am_topI e16 ?_
      refine x_sto (lc' := [.ref 106, am_dead, .int x15, .int v3, .int v4]) r80_77 rfl rfl rfl rfl ?_
      refine x_ld (v := .ref 106) r80_78 rfl rfl rfl ?_
      refine y_gf (cd := 109) (v := .ref 107) r80_79 rfl rfl rfl ?_
      refine x_bi (v := 25) r80_82 rfl rfl ?_
      refine x_ld (v := .ref 106) r80_84 rfl rfl rfl ?_
      refine x_ld (v := .int x15) r80_85 rfl rfl rfl ?_
      refine x_ld (v := .ref 106) r80_86 rfl rfl rfl ?_
      refine x_ic (v := 5) r80_87 rfl rfl ?_
      obtain ⟨q17, h18, h⟩ := Option.bind_eq_some_iff.mp h
      refine x_call1 (as := [.ref 106, .int (5 : Int32)]) (rest := [.int x15, .ref 106, .int (25 : Int32), .ref 107]) r80_88 rfl rfl rfl (by decide) (Nat.le_of_ble_eq_true rfl) (m57_ok h18) (Nat.le_trans (by decide) hd) (Nat.zero_le _) (Nat.zero_le _) rfl ?_
      obtain ⟨g19, h⟩ := am_gdE h
      refine x_ar r80_91 rfl g19 rfl ?_
      obtain ⟨q20, h21, h⟩ := Option.bind_eq_some_iff.mp h
      refine x_call1 (as := [.ref 106, .int (x15 - x15 / q17 * q17)]) (rest := [.int (25 : Int32), .ref 107]) r80_92 rfl rfl rfl (by decide) (Nat.le_of_ble_eq_true rfl) (m79_ok h21) (Nat.le_trans (by decide) hd) (Nat.zero_le _) (Nat.zero_le _) rfl ?_
      refine x_ar r80_95 rfl trivial rfl ?_
      refine x_ld (v := .int v4) r80_96 rfl rfl rfl ?_
      obtain ⟨g24, h⟩ := am_gdE h
      obtain ⟨D22, e23, h⟩ := am_ltE h
      refine y_ias (n := 1320) r80_98 rfl (by decide) g24 rfl e23 rfl ?_
      obtain ⟨x25, e26, h⟩ := am_ltE h
      refine x_sto (lc' := [.ref 106, am_dead, .int x15, .int x25, .int v4]) r80_99 rfl rfl (by subst e26; rfl) rfl ?_
      refine x_goto r80_102 ?_
      exact x_forget (lc0 := [.ref 106, am_dead, .int x15, .int x25, .int v4]) ⟨Or.inl rfl, Or.inl rfl, Or.inl rfl, Or.inl rfl, Or.inl rfl, trivial⟩ (ih D22 x15 x25 h k0)
theorem m80_L49_w {d : Nat} {N : Nat} {mc ms : Nat} {Q : am_O → am_AH → Prop} (hd : 3 ≤ d) : ∀ (n : Nat) (D : am_D) (v2 : Int32) (v3 : Int32) (v4 : Int32) {q : Int32 × am_D} (h : m80_L49 N  n D v2 v3 v4 = some q) (k0 : am_X xs L 80 d mc ms 111 [.ref 106, am_dead, am_dead, .int q.1, am_dead] [] (am_mk q.2) 0 0 Q), am_X xs L 80 d mc ms 49 [.ref 106, am_dead, .int v2, .int v3, .int v4] [] (am_mk D) 0 0 Q := by
  intro n
  induction n with
  | zero =>
    intro D v2 v3 v4 q h k0
    exact (nomatch (show none = some q from h))
  | succ n ih =>
    intro D v2 v3 v4 q h k0
    rw [m80_L49] at h
    refine x_ld (v := .int v4) r80_49 rfl rfl rfl ?_
    refine x_ic (v := 4) r80_51 rfl rfl ?_
    rcases am_ifE h with ⟨c11, h⟩ | ⟨c11, h⟩
    · refine x_icgeT r80_52 c11 ?_
      refine x_forget (lc0 := [.ref 106, am_dead, am_dead, .int v3, am_dead]) ⟨Or.inl rfl, Or.inl rfl, Or.inr ⟨rfl, rfl⟩, Or.inl rfl, Or.inr ⟨rfl, rfl⟩, trivial⟩ ?_
      cases h
      exact k0
    · refine x_icgeF r80_52 c11 rfl ?_
      obtain ⟨q27, h28, h⟩ := Option.bind_eq_some_iff.mp h
      refine x_forget (lc0 := [.ref 106, am_dead, .int v2, .int v3, .int v4]) ⟨Or.inl rfl, Or.inl rfl, Or.inl rfl, Or.inl rfl, Or.inl rfl, trivial⟩ (m80_L55_w hd N D v2 v3 h28 ?_)
      obtain ⟨x29, e30, h⟩ := am_ltE h
      refine x_sto (lc' := [.ref 106, am_dead, .int q27.1, .int q27.2.1, .int x29]) r80_105 rfl rfl (by subst e30; rfl) rfl ?_
      refine x_goto r80_108 ?_
      exact x_forget (lc0 := [.ref 106, am_dead, .int q27.1, .int q27.2.1, .int x29]) ⟨Or.inl rfl, Or.inl rfl, Or.inl rfl, Or.inl rfl, Or.inl rfl, trivial⟩ (ih q27.2.2 q27.1 q27.2.1 x29 h k0)
theorem m80_w {d mc ms : Nat} {N : Nat} {D : am_D} {v1 : Int32} {Q : am_O → am_AH → Prop} (hd : 3 ≤ d) {r : Int32 × am_D} (h : m80 N D v1 = some r) (hQ : Q (.inl (some (.int r.1))) (am_mk r.2)) : am_X xs L 80 d mc ms 0 [.ref 106, .int v1, am_dead, am_dead, am_dead] [] (am_mk D) 0 0 Q := by
  unfold m80 at h
  refine x_ld (v := .ref 106) r80_0 rfl rfl rfl ?_
  refine x_ld (v := .int v1) r80_1 rfl rfl rfl ?_
  refine x_ic (v := 0) r80_2 rfl rfl ?_
  refine x_si (v := 4095) r80_3 rfl rfl ?_
  refine x_call1 (as := [.int v1, .int (0 : Int32), .int (4095 : Int32)]) (rest := [.ref 106]) r80_6 rfl rfl rfl (by decide) (Nat.le_of_ble_eq_true rfl) (m46_ok rfl) (Nat.le_trans (by decide) hd) (Nat.zero_le _) (Nat.zero_le _) rfl ?_
  obtain ⟨q1, h3, h⟩ := am_ltE h
  replace h3 := h3.symm
  have kj2 : am_X xs L 80 d mc ms 30 [.ref 106, .int v1, am_dead, am_dead, am_dead] [.int q1, .ref 106] (am_mk D) 0 0 Q := by
    obtain ⟨q6, h7, h⟩ := am_ltE h
    replace h7 := h7.symm
    refine x_call1 (as := [.ref 106, .int q1]) (rest := []) r80_30 rfl rfl rfl (by decide) (Nat.le_of_ble_eq_true rfl) (m47_ok h7) (Nat.le_trans (by decide) hd) (Nat.zero_le _) (Nat.zero_le _) rfl ?_
    rcases am_ifE h with ⟨c8, h⟩ | ⟨c8, h⟩
    · refine x_ifneT r80_33 c8 rfl ?_
      refine x_ic (v := 0) r80_36 rfl rfl ?_
      cases h
      exact x_ret (ret := some .int) (C := True) (v := some (.int _)) r80_37 rt80 rfl rfl rfl rfl rfl rfl rfl rfl trivial hQ
    · refine x_ifneF r80_33 c8 ?_
      refine x_ld (v := .ref 106) r80_38 rfl rfl rfl ?_
      obtain ⟨q9, h10, h⟩ := Option.bind_eq_some_iff.mp h
      refine x_call0 (as := [.ref 106]) (rest := []) r80_39 rfl rfl rfl (by decide) (Nat.le_of_ble_eq_true rfl) (m76_ok h10) (Nat.le_trans (by decide) hd) (Nat.zero_le _) (Nat.zero_le _) rfl ?_
      refine x_ld (v := .int v1) r80_42 rfl rfl rfl ?_
      refine x_sto (lc' := [.ref 106, .int v1, .int v1, am_dead, am_dead]) r80_43 rfl rfl rfl rfl ?_
      refine x_ic (v := 0) r80_44 rfl rfl ?_
      refine x_sto (lc' := [.ref 106, .int v1, .int v1, .int (0 : Int32), am_dead]) r80_45 rfl rfl rfl rfl ?_
      refine x_ic (v := 0) r80_46 rfl rfl ?_
      refine x_sto (lc' := [.ref 106, .int v1, .int v1, .int (0 : Int32), .int (0 : Int32)]) r80_47 rfl rfl rfl rfl ?_
      obtain ⟨q31, h32, h⟩ := Option.bind_eq_some_iff.mp h
      refine x_forget (lc0 := [.ref 106, am_dead, .int v1, .int (0 : Int32), .int (0 : Int32)]) ⟨Or.inl rfl, Or.inr ⟨rfl, rfl⟩, Or.inl rfl, Or.inl rfl, Or.inl rfl, trivial⟩ (m80_L49_w hd N q9 v1 (0 : Int32) (0 : Int32) h32 ?_)
      refine x_ld (v := .int q31.1) r80_111 rfl rfl rfl ?_
      cases h
      exact x_ret (ret := some .int) (C := True) (v := some (.int _)) r80_112 rt80 rfl rfl rfl rfl rfl rfl rfl rfl trivial hQ
  rcases am_ifE h3 with ⟨c4, h3⟩ | ⟨c4, h3⟩
  · refine x_ifneT r80_9 c4 rfl ?_
    refine x_ic (v := 1) r80_12 rfl rfl ?_
    refine x_goto r80_13 ?_
    subst h3
    exact kj2
  · refine x_ifneF r80_9 c4 ?_
    refine x_ld (v := .ref 106) r80_16 rfl rfl rfl ?_
    refine y_gf (cd := 109) (v := .ref 107) r80_17 rfl rfl rfl ?_
    refine x_ic (v := 0) r80_20 rfl rfl ?_
    refine y_ial (n := 1320) r80_21 rfl (by decide) (by decide) (e := 0) (by decide) rfl ?_
    rcases am_ifE h3 with ⟨c5, h3⟩ | ⟨c5, h3⟩
    · refine x_ifeqT r80_22 c5 ?_
      refine x_ic (v := 0) r80_29 rfl rfl ?_
      subst h3
      exact kj2
    · refine x_ifeqF r80_22 c5 rfl ?_
      refine x_ic (v := 2) r80_25 rfl rfl ?_
      refine x_goto r80_26 ?_
      subst h3
      exact kj2
theorem m80_ok {N : Nat} {D : am_D} {v1 : Int32} {r : Int32 × am_D} (h : m80 N D v1 = some r) : am_Y xs L 80 3 0 0 [.ref 106, .int v1] D (.inl (some (.int r.1))) r.2 := am_Yof (mi := am_m80) (lc := [.ref 106, .int v1, am_dead, am_dead, am_dead]) pg80 (Nat.le_of_ble_eq_true rfl) (am_rc1 (ci := 8) rfl rfl rfl rfl rfl) rfl (fun Q hQ => m80_w (Nat.le_refl _) h hQ)
theorem r81_0 : am_at 81 0 = some (.iconst (0), 1, []) := by decide +kernel
theorem r81_1 : am_at 81 1 = some (.istore_n 2, 1, [2]) := by decide +kernel
theorem r81_2 : am_at 81 2 = some (.iconst (0), 1, []) := by decide +kernel
theorem r81_3 : am_at 81 3 = some (.istore_n 3, 1, [3]) := by decide +kernel
theorem r81_4 : am_at 81 4 = some (.iload_n 3, 1, [3]) := by decide +kernel
theorem r81_5 : am_at 81 5 = some (.bipush (28), 2, []) := by decide +kernel
theorem r81_7 : am_at 81 7 = some (.if_icmp .ge (34), 3, [41]) := by decide +kernel
theorem r81_10 : am_at 81 10 = some (.iload_n 2, 1, [2]) := by decide +kernel
theorem r81_11 : am_at 81 11 = some (.aload_n 0, 1, [0]) := by decide +kernel
theorem r81_12 : am_at 81 12 = some (.iload_n 1, 1, [1]) := by decide +kernel
theorem r81_13 : am_at 81 13 = some (.iload_n 3, 1, [3]) := by decide +kernel
theorem r81_14 : am_at 81 14 = some (.invokevirtual 69, 3, [56, 3, 1315, 0]) := by decide +kernel
theorem r81_17 : am_at 81 17 = some (.ifCond .eq (15), 3, [32]) := by decide +kernel
theorem r81_20 : am_at 81 20 = some (.aload_n 0, 1, [0]) := by decide +kernel
theorem r81_21 : am_at 81 21 = some (.iload_n 3, 1, [3]) := by decide +kernel
theorem r81_22 : am_at 81 22 = some (.invokevirtual 97, 3, [52, 2, 1351, 0]) := by decide +kernel
theorem r81_25 : am_at 81 25 = some (.ifCond .eq (7), 3, [32]) := by decide +kernel
theorem r81_28 : am_at 81 28 = some (.iconst (1), 1, []) := by decide +kernel
theorem r81_29 : am_at 81 29 = some (.goto (4), 3, [33]) := by decide +kernel
theorem r81_32 : am_at 81 32 = some (.iconst (0), 1, []) := by decide +kernel
theorem r81_33 : am_at 81 33 = some (.iadd, 1, []) := by decide +kernel
theorem r81_34 : am_at 81 34 = some (.istore_n 2, 1, [2]) := by decide +kernel
theorem r81_35 : am_at 81 35 = some (.iinc 3 (1), 3, [3]) := by decide +kernel
theorem r81_38 : am_at 81 38 = some (.goto (-34), 3, [4]) := by decide +kernel
theorem r81_41 : am_at 81 41 = some (.iload_n 2, 1, [2]) := by decide +kernel
theorem r81_42 : am_at 81 42 = some (.ireturn, 1, []) := by decide +kernel
theorem rt81 : am_rtt 81 = some (some .int) := by decide +kernel
set_option maxRecDepth 100000 in
theorem pg81 : am_pg[81]? = some am_m81 := rfl
theorem m81_L4_w {d : Nat} {N : Nat} {D : am_D} {v1 : Int32} {mc ms : Nat} {Q : am_O → am_AH → Prop} (hd : 2 ≤ d) : ∀ (n : Nat) (v2 : Int32) (v3 : Int32) {q : Int32} (h : m81_L4 N D v1  n v2 v3 = some q) (k0 : am_X xs L 81 d mc ms 41 [.ref 106, am_dead, .int q, am_dead] [] (am_mk D) 0 0 Q), am_X xs L 81 d mc ms 4 [.ref 106, .int v1, .int v2, .int v3] [] (am_mk D) 0 0 Q := by
  intro n
  induction n with
  | zero =>
    intro v2 v3 q h k0
    exact (nomatch (show none = some q from h))
  | succ n ih =>
    intro v2 v3 q h k0
    rw [m81_L4] at h
    refine x_ld (v := .int v3) r81_4 rfl rfl rfl ?_
    refine x_bi (v := 28) r81_5 rfl rfl ?_
    rcases am_ifE h with ⟨c1, h⟩ | ⟨c1, h⟩
    · refine x_icgeT r81_7 c1 ?_
      refine x_forget (lc0 := [.ref 106, am_dead, .int v2, am_dead]) ⟨Or.inl rfl, Or.inr ⟨rfl, rfl⟩, Or.inl rfl, Or.inr ⟨rfl, rfl⟩, trivial⟩ ?_
      cases h
      exact k0
    · refine x_icgeF r81_7 c1 rfl ?_
      refine x_ld (v := .int v2) r81_10 rfl rfl rfl ?_
      refine x_ld (v := .ref 106) r81_11 rfl rfl rfl ?_
      refine x_ld (v := .int v1) r81_12 rfl rfl rfl ?_
      refine x_ld (v := .int v3) r81_13 rfl rfl rfl ?_
      obtain ⟨q2, h3, h⟩ := Option.bind_eq_some_iff.mp h
      refine x_call1 (as := [.ref 106, .int v1, .int v3]) (rest := [.int v2]) r81_14 rfl rfl rfl (by decide) (Nat.le_of_ble_eq_true rfl) (m56_ok h3) (Nat.le_trans (by decide) hd) (Nat.zero_le _) (Nat.zero_le _) rfl ?_
      obtain ⟨q4, h6, h⟩ := Option.bind_eq_some_iff.mp h
      have kj5 : am_X xs L 81 d mc ms 33 [.ref 106, .int v1, .int v2, .int v3] [.int q4, .int v2] (am_mk D) 0 0 Q := by
        refine x_ar r81_33 rfl trivial rfl ?_
        obtain ⟨x11, e12, h⟩ := am_ltE h
        refine am_topI e12 ?_
        refine x_sto (lc' := [.ref 106, .int v1, .int x11, .int v3]) r81_34 rfl rfl rfl rfl ?_
        obtain ⟨x13, e14, h⟩ := am_ltE h
        refine x_sto (lc' := [.ref 106, .int v1, .int x11, .int x13]) r81_35 rfl rfl (by subst e14; rfl) rfl ?_
        refine x_goto r81_38 ?_
        exact x_forget (lc0 := [.ref 106, .int v1, .int x11, .int x13]) ⟨Or.inl rfl, Or.inl rfl, Or.inl rfl, Or.inl rfl, trivial⟩ (ih x11 x13 h k0)
      rcases am_ifE h6 with ⟨c7, h6⟩ | ⟨c7, h6⟩
      · refine x_ifeqT r81_17 c7 ?_
        refine x_ic (v := 0) r81_32 rfl rfl ?_
        cases h6
        exact kj5
      · refine x_ifeqF r81_17 c7 rfl ?_
        refine x_ld (v := .ref 106) r81_20 rfl rfl rfl ?_
        refine x_ld (v := .int v3) r81_21 rfl rfl rfl ?_
        obtain ⟨q8, h9, h6⟩ := Option.bind_eq_some_iff.mp h6
        refine x_call1 (as := [.ref 106, .int v3]) (rest := [.int v2]) r81_22 rfl rfl rfl (by decide) (Nat.le_of_ble_eq_true rfl) (m52_ok h9) (Nat.le_trans (by decide) hd) (Nat.zero_le _) (Nat.zero_le _) rfl ?_
        rcases am_ifE h6 with ⟨c10, h6⟩ | ⟨c10, h6⟩
        · refine x_ifeqT r81_25 c10 ?_
          refine x_ic (v := 0) r81_32 rfl rfl ?_
          cases h6
          exact kj5
        · refine x_ifeqF r81_25 c10 rfl ?_
          refine x_ic (v := 1) r81_28 rfl rfl ?_
          refine x_goto r81_29 ?_
          cases h6
          exact kj5
theorem m81_w {d mc ms : Nat} {N : Nat} {D : am_D} {v1 : Int32} {Q : am_O → am_AH → Prop} (hd : 2 ≤ d) {r : Int32} (h : m81 N D v1 = some r) (hQ : Q (.inl (some (.int r))) (am_mk D)) : am_X xs L 81 d mc ms 0 [.ref 106, .int v1, am_dead, am_dead] [] (am_mk D) 0 0 Q := by
  unfold m81 at h
  refine x_ic (v := 0) r81_0 rfl rfl ?_
  refine x_sto (lc' := [.ref 106, .int v1, .int (0 : Int32), am_dead]) r81_1 rfl rfl rfl rfl ?_
  refine x_ic (v := 0) r81_2 rfl rfl ?_
  refine x_sto (lc' := [.ref 106, .int v1, .int (0 : Int32), .int (0 : Int32)]) r81_3 rfl rfl rfl rfl ?_
  obtain ⟨q15, h16, h⟩ := Option.bind_eq_some_iff.mp h
  refine x_forget (lc0 := [.ref 106, .int v1, .int (0 : Int32), .int (0 : Int32)]) ⟨Or.inl rfl, Or.inl rfl, Or.inl rfl, Or.inl rfl, trivial⟩ (m81_L4_w hd N (0 : Int32) (0 : Int32) h16 ?_)
  refine x_ld (v := .int q15) r81_41 rfl rfl rfl ?_
  cases h
  exact x_ret (ret := some .int) (C := True) (v := some (.int _)) r81_42 rt81 rfl rfl rfl rfl rfl rfl rfl rfl trivial hQ
theorem m81_ok {N : Nat} {D : am_D} {v1 : Int32} {r : Int32} (h : m81 N D v1 = some r) : am_Y xs L 81 2 0 0 [.ref 106, .int v1] D (.inl (some (.int r))) D := am_Yof (mi := am_m81) (lc := [.ref 106, .int v1, am_dead, am_dead]) pg81 (Nat.le_of_ble_eq_true rfl) (am_rc1 (ci := 8) rfl rfl rfl rfl rfl) rfl (fun Q hQ => m81_w (Nat.le_refl _) h hQ)
theorem r82_0 : am_at 82 0 = some (.aload_n 0, 1, [0]) := by decide +kernel
theorem r82_1 : am_at 82 1 = some (.getfield 7, 3, [8, 1, 3, 1216]) := by decide +kernel
theorem r82_4 : am_at 82 4 = some (.iconst (0), 1, []) := by decide +kernel
theorem r82_5 : am_at 82 5 = some (.iaload, 1, []) := by decide +kernel
theorem r82_6 : am_at 82 6 = some (.ifCond .ne (15), 3, [21]) := by decide +kernel
theorem r82_9 : am_at 82 9 = some (.aload_n 0, 1, [0]) := by decide +kernel
theorem r82_10 : am_at 82 10 = some (.iconst (5), 1, []) := by decide +kernel
theorem r82_11 : am_at 82 11 = some (.invokevirtual 121, 3, [57, 2, 1319, 0]) := by decide +kernel
theorem r82_14 : am_at 82 14 = some (.ifCond .ne (7), 3, [21]) := by decide +kernel
theorem r82_17 : am_at 82 17 = some (.iconst (1), 1, []) := by decide +kernel
theorem r82_18 : am_at 82 18 = some (.goto (4), 3, [22]) := by decide +kernel
theorem r82_21 : am_at 82 21 = some (.iconst (0), 1, []) := by decide +kernel
theorem r82_22 : am_at 82 22 = some (.istore_n 2, 1, [2]) := by decide +kernel
theorem r82_23 : am_at 82 23 = some (.aload_n 0, 1, [0]) := by decide +kernel
theorem r82_24 : am_at 82 24 = some (.iload_n 1, 1, [1]) := by decide +kernel
theorem r82_25 : am_at 82 25 = some (.invokestatic 133, 3, [48, 1, 1302, 0]) := by decide +kernel
theorem r82_28 : am_at 82 28 = some (.ifCond .ne (7), 3, [35]) := by decide +kernel
theorem r82_31 : am_at 82 31 = some (.iconst (1), 1, []) := by decide +kernel
theorem r82_32 : am_at 82 32 = some (.goto (12), 3, [44]) := by decide +kernel
theorem r82_35 : am_at 82 35 = some (.iload_n 2, 1, [2]) := by decide +kernel
theorem r82_36 : am_at 82 36 = some (.ifCond .ne (7), 3, [43]) := by decide +kernel
theorem r82_39 : am_at 82 39 = some (.iconst (2), 1, []) := by decide +kernel
theorem r82_40 : am_at 82 40 = some (.goto (4), 3, [44]) := by decide +kernel
theorem r82_43 : am_at 82 43 = some (.iconst (0), 1, []) := by decide +kernel
theorem r82_44 : am_at 82 44 = some (.invokevirtual 142, 3, [47, 2, 1323, 0]) := by decide +kernel
theorem r82_47 : am_at 82 47 = some (.ifCond .ne (5), 3, [52]) := by decide +kernel
theorem r82_50 : am_at 82 50 = some (.iconst (0), 1, []) := by decide +kernel
theorem r82_51 : am_at 82 51 = some (.ireturn, 1, []) := by decide +kernel
theorem r82_52 : am_at 82 52 = some (.aload_n 0, 1, [0]) := by decide +kernel
theorem r82_53 : am_at 82 53 = some (.invokevirtual 145, 3, [76, 1, 1327, 0]) := by decide +kernel
theorem r82_56 : am_at 82 56 = some (.aload_n 0, 1, [0]) := by decide +kernel
theorem r82_57 : am_at 82 57 = some (.getfield 7, 3, [8, 1, 3, 1216]) := by decide +kernel
theorem r82_60 : am_at 82 60 = some (.iconst (0), 1, []) := by decide +kernel
theorem r82_61 : am_at 82 61 = some (.iconst (1), 1, []) := by decide +kernel
theorem r82_62 : am_at 82 62 = some (.iastore, 1, []) := by decide +kernel
theorem r82_63 : am_at 82 63 = some (.aload_n 0, 1, [0]) := by decide +kernel
theorem r82_64 : am_at 82 64 = some (.getfield 7, 3, [8, 1, 3, 1216]) := by decide +kernel
theorem r82_67 : am_at 82 67 = some (.iconst (1), 1, []) := by decide +kernel
theorem r82_68 : am_at 82 68 = some (.iload_n 1, 1, [1]) := by decide +kernel
theorem r82_69 : am_at 82 69 = some (.iastore, 1, []) := by decide +kernel
theorem r82_70 : am_at 82 70 = some (.aload_n 0, 1, [0]) := by decide +kernel
theorem r82_71 : am_at 82 71 = some (.getfield 7, 3, [8, 1, 3, 1216]) := by decide +kernel
theorem r82_74 : am_at 82 74 = some (.iconst (2), 1, []) := by decide +kernel
theorem r82_75 : am_at 82 75 = some (.iload_n 1, 1, [1]) := by decide +kernel
theorem r82_76 : am_at 82 76 = some (.iconst (1), 1, []) := by decide +kernel
theorem r82_77 : am_at 82 77 = some (.iadd, 1, []) := by decide +kernel
theorem r82_78 : am_at 82 78 = some (.iconst (4), 1, []) := by decide +kernel
theorem r82_79 : am_at 82 79 = some (.irem, 1, []) := by decide +kernel
theorem r82_80 : am_at 82 80 = some (.iastore, 1, []) := by decide +kernel
theorem r82_81 : am_at 82 81 = some (.aload_n 0, 1, [0]) := by decide +kernel
theorem r82_82 : am_at 82 82 = some (.getfield 7, 3, [8, 1, 3, 1216]) := by decide +kernel
theorem r82_85 : am_at 82 85 = some (.iconst (4), 1, []) := by decide +kernel
theorem r82_86 : am_at 82 86 = some (.iconst (0), 1, []) := by decide +kernel
theorem r82_87 : am_at 82 87 = some (.iastore, 1, []) := by decide +kernel
theorem r82_88 : am_at 82 88 = some (.aload_n 0, 1, [0]) := by decide +kernel
theorem r82_89 : am_at 82 89 = some (.getfield 7, 3, [8, 1, 3, 1216]) := by decide +kernel
theorem r82_92 : am_at 82 92 = some (.iconst (5), 1, []) := by decide +kernel
theorem r82_93 : am_at 82 93 = some (.iconst (-1), 1, []) := by decide +kernel
theorem r82_94 : am_at 82 94 = some (.iastore, 1, []) := by decide +kernel
theorem r82_95 : am_at 82 95 = some (.aload_n 0, 1, [0]) := by decide +kernel
theorem r82_96 : am_at 82 96 = some (.getfield 7, 3, [8, 1, 3, 1216]) := by decide +kernel
theorem r82_99 : am_at 82 99 = some (.bipush (8), 2, []) := by decide +kernel
theorem r82_101 : am_at 82 101 = some (.dup2, 1, []) := by decide +kernel
theorem r82_102 : am_at 82 102 = some (.iaload, 1, []) := by decide +kernel
theorem r82_103 : am_at 82 103 = some (.iconst (1), 1, []) := by decide +kernel
theorem r82_104 : am_at 82 104 = some (.iadd, 1, []) := by decide +kernel
theorem r82_105 : am_at 82 105 = some (.iastore, 1, []) := by decide +kernel
theorem r82_106 : am_at 82 106 = some (.iconst (0), 1, []) := by decide +kernel
theorem r82_107 : am_at 82 107 = some (.istore_n 3, 1, [3]) := by decide +kernel
theorem r82_108 : am_at 82 108 = some (.iload_n 3, 1, [3]) := by decide +kernel
theorem r82_109 : am_at 82 109 = some (.iconst (4), 1, []) := by decide +kernel
theorem r82_110 : am_at 82 110 = some (.if_icmp .ge (44), 3, [154]) := by decide +kernel
theorem r82_113 : am_at 82 113 = some (.aload_n 0, 1, [0]) := by decide +kernel
theorem r82_114 : am_at 82 114 = some (.getfield 7, 3, [8, 1, 3, 1216]) := by decide +kernel
theorem r82_117 : am_at 82 117 = some (.bipush (13), 2, []) := by decide +kernel
theorem r82_119 : am_at 82 119 = some (.iload_n 3, 1, [3]) := by decide +kernel
theorem r82_120 : am_at 82 120 = some (.iadd, 1, []) := by decide +kernel
theorem r82_121 : am_at 82 121 = some (.aload_n 0, 1, [0]) := by decide +kernel
theorem r82_122 : am_at 82 122 = some (.getfield 7, 3, [8, 1, 3, 1216]) := by decide +kernel
theorem r82_125 : am_at 82 125 = some (.iconst (3), 1, []) := by decide +kernel
theorem r82_126 : am_at 82 126 = some (.iaload, 1, []) := by decide +kernel
theorem r82_127 : am_at 82 127 = some (.iastore, 1, []) := by decide +kernel
theorem r82_128 : am_at 82 128 = some (.aload_n 0, 1, [0]) := by decide +kernel
theorem r82_129 : am_at 82 129 = some (.getfield 7, 3, [8, 1, 3, 1216]) := by decide +kernel
theorem r82_132 : am_at 82 132 = some (.bipush (17), 2, []) := by decide +kernel
theorem r82_134 : am_at 82 134 = some (.iload_n 3, 1, [3]) := by decide +kernel
theorem r82_135 : am_at 82 135 = some (.iadd, 1, []) := by decide +kernel
theorem r82_136 : am_at 82 136 = some (.iconst (0), 1, []) := by decide +kernel
theorem r82_137 : am_at 82 137 = some (.iastore, 1, []) := by decide +kernel
theorem r82_138 : am_at 82 138 = some (.aload_n 0, 1, [0]) := by decide +kernel
theorem r82_139 : am_at 82 139 = some (.getfield 7, 3, [8, 1, 3, 1216]) := by decide +kernel
theorem r82_142 : am_at 82 142 = some (.bipush (21), 2, []) := by decide +kernel
theorem r82_144 : am_at 82 144 = some (.iload_n 3, 1, [3]) := by decide +kernel
theorem r82_145 : am_at 82 145 = some (.iadd, 1, []) := by decide +kernel
theorem r82_146 : am_at 82 146 = some (.iconst (0), 1, []) := by decide +kernel
theorem r82_147 : am_at 82 147 = some (.iastore, 1, []) := by decide +kernel
theorem r82_148 : am_at 82 148 = some (.iinc 3 (1), 3, [3]) := by decide +kernel
theorem r82_151 : am_at 82 151 = some (.goto (-43), 3, [108]) := by decide +kernel
theorem r82_154 : am_at 82 154 = some (.aload_n 0, 1, [0]) := by decide +kernel
theorem r82_155 : am_at 82 155 = some (.iload_n 1, 1, [1]) := by decide +kernel
theorem r82_156 : am_at 82 156 = some (.invokevirtual 151, 3, [81, 2, 1347, 0]) := by decide +kernel
theorem r82_159 : am_at 82 159 = some (.ireturn, 1, []) := by decide +kernel
theorem rt82 : am_rtt 82 = some (some .int) := by decide +kernel
set_option maxRecDepth 100000 in
theorem pg82 : am_pg[82]? = some am_m82 := rfl
theorem m82_L108_w {d : Nat} {N : Nat} {v1 : Int32} {mc ms : Nat} {Q : am_O → am_AH → Prop} (hd : 3 ≤ d) : ∀ (n : Nat) (D : am_D) (v3 : Int32) {q : am_D} (h : m82_L108 N v1  n D v3 = some q) (k0 : am_X xs L 82 d mc ms 154 [.ref 106, .int v1, am_dead, am_dead] [] (am_mk q) 0 0 Q), am_X xs L 82 d mc ms 108 [.ref 106, .int v1, am_dead, .int v3] [] (am_mk D) 0 0 Q := by
  intro n
  induction n with
  | zero =>
    intro D v3 q h k0
    exact (nomatch (show none = some q from h))
  | succ n ih =>
    intro D v3 q h k0
    rw [m82_L108] at h
    refine x_ld (v := .int v3) r82_108 rfl rfl rfl ?_
    refine x_ic (v := 4) r82_109 rfl rfl ?_
    rcases am_ifE h with ⟨c30, h⟩ | ⟨c30, h⟩
    · refine x_icgeT r82_110 c30 ?_
      refine x_forget (lc0 := [.ref 106, .int v1, am_dead, am_dead]) ⟨Or.inl rfl, Or.inl rfl, Or.inl rfl, Or.inr ⟨rfl, rfl⟩, trivial⟩ ?_
      cases h
      exact k0
    · refine x_icgeF r82_110 c30 rfl ?_
      refine x_ld (v := .ref 106) r82_113 rfl rfl rfl ?_
      refine y_gf (cd := 109) (v := .ref 107) r82_114 rfl rfl rfl ?_
      refine x_bi (v := 13) r82_117 rfl rfl ?_
      refine x_ld (v := .int v3) r82_119 rfl rfl rfl ?_
      refine x_ar r82_120 rfl trivial rfl ?_
      refine x_ld (v := .ref 106) r82_121 rfl rfl rfl ?_
      refine y_gf (cd := 109) (v := .ref 107) r82_122 rfl rfl rfl ?_
      refine x_ic (v := 3) r82_125 rfl rfl ?_
      refine y_ial (n := 1320) r82_126 rfl (by decide) (by decide) (e := 3) (by decide) rfl ?_
      obtain ⟨g33, h⟩ := am_gdE h
      obtain ⟨D31, e32, h⟩ := am_ltE h
      refine y_ias (n := 1320) r82_127 rfl (by decide) g33 rfl e32 rfl ?_
      refine x_ld (v := .ref 106) r82_128 rfl rfl rfl ?_
      refine y_gf (cd := 109) (v := .ref 107) r82_129 rfl rfl rfl ?_
      refine x_bi (v := 17) r82_132 rfl rfl ?_
      refine x_ld (v := .int v3) r82_134 rfl rfl rfl ?_
      refine x_ar r82_135 rfl trivial rfl ?_
      refine x_ic (v := 0) r82_136 rfl rfl ?_
      obtain ⟨g36, h⟩ := am_gdE h
      obtain ⟨D34, e35, h⟩ := am_ltE h
      refine y_ias (n := 1320) r82_137 rfl (by decide) g36 rfl e35 rfl ?_
      refine x_ld (v := .ref 106) r82_138 rfl rfl rfl ?_
      refine y_gf (cd := 109) (v := .ref 107) r82_139 rfl rfl rfl ?_
      refine x_bi (v := 21) r82_142 rfl rfl ?_
      refine x_ld (v := .int v3) r82_144 rfl rfl rfl ?_
      refine x_ar r82_145 rfl trivial rfl ?_
      refine x_ic (v := 0) r82_146 rfl rfl ?_
      obtain ⟨g39, h⟩ := am_gdE h
      obtain ⟨D37, e38, h⟩ := am_ltE h
      refine y_ias (n := 1320) r82_147 rfl (by decide) g39 rfl e38 rfl ?_
      obtain ⟨x40, e41, h⟩ := am_ltE h
      refine x_sto (lc' := [.ref 106, .int v1, am_dead, .int x40]) r82_148 rfl rfl (by subst e41; rfl) rfl ?_
      refine x_goto r82_151 ?_
      exact x_forget (lc0 := [.ref 106, .int v1, am_dead, .int x40]) ⟨Or.inl rfl, Or.inl rfl, Or.inl rfl, Or.inl rfl, trivial⟩ (ih D37 x40 h k0)
theorem m82_w {d mc ms : Nat} {N : Nat} {D : am_D} {v1 : Int32} {Q : am_O → am_AH → Prop} (hd : 3 ≤ d) {r : Int32 × am_D} (h : m82 N D v1 = some r) (hQ : Q (.inl (some (.int r.1))) (am_mk r.2)) : am_X xs L 82 d mc ms 0 [.ref 106, .int v1, am_dead, am_dead] [] (am_mk D) 0 0 Q := by
  unfold m82 at h
  refine x_ld (v := .ref 106) r82_0 rfl rfl rfl ?_
  refine y_gf (cd := 109) (v := .ref 107) r82_1 rfl rfl rfl ?_
  refine x_ic (v := 0) r82_4 rfl rfl ?_
  refine y_ial (n := 1320) r82_5 rfl (by decide) (by decide) (e := 0) (by decide) rfl ?_
  obtain ⟨q1, h3, h⟩ := Option.bind_eq_some_iff.mp h
  have kj2 : am_X xs L 82 d mc ms 22 [.ref 106, .int v1, am_dead, am_dead] [.int q1] (am_mk D) 0 0 Q := by
    refine x_sto (lc' := [.ref 106, .int v1, .int q1, am_dead]) r82_22 rfl rfl rfl rfl ?_
    refine x_ld (v := .ref 106) r82_23 rfl rfl rfl ?_
    refine x_ld (v := .int v1) r82_24 rfl rfl rfl ?_
    refine x_call1 (as := [.int v1]) (rest := [.ref 106]) r82_25 rfl rfl rfl (by decide) (Nat.le_of_ble_eq_true rfl) (m48_ok rfl) (Nat.le_trans (by decide) hd) (Nat.zero_le _) (Nat.zero_le _) rfl ?_
    obtain ⟨q8, h10, h⟩ := am_ltE h
    replace h10 := h10.symm
    have kj9 : am_X xs L 82 d mc ms 44 [.ref 106, .int v1, .int q1, am_dead] [.int q8, .ref 106] (am_mk D) 0 0 Q := by
      obtain ⟨q13, h14, h⟩ := am_ltE h
      replace h14 := h14.symm
      refine x_call1 (as := [.ref 106, .int q8]) (rest := []) r82_44 rfl rfl rfl (by decide) (Nat.le_of_ble_eq_true rfl) (m47_ok h14) (Nat.le_trans (by decide) hd) (Nat.zero_le _) (Nat.zero_le _) rfl ?_
      rcases am_ifE h with ⟨c15, h⟩ | ⟨c15, h⟩
      · refine x_ifneT r82_47 c15 rfl ?_
        refine x_ic (v := 0) r82_50 rfl rfl ?_
        cases h
        exact x_ret (ret := some .int) (C := True) (v := some (.int _)) r82_51 rt82 rfl rfl rfl rfl rfl rfl rfl rfl trivial hQ
      · refine x_ifneF r82_47 c15 ?_
        refine x_ld (v := .ref 106) r82_52 rfl rfl rfl ?_
        obtain ⟨q16, h17, h⟩ := Option.bind_eq_some_iff.mp h
        refine x_call0 (as := [.ref 106]) (rest := []) r82_53 rfl rfl rfl (by decide) (Nat.le_of_ble_eq_true rfl) (m76_ok h17) (Nat.le_trans (by decide) hd) (Nat.zero_le _) (Nat.zero_le _) rfl ?_
        refine x_ld (v := .ref 106) r82_56 rfl rfl rfl ?_
        refine y_gf (cd := 109) (v := .ref 107) r82_57 rfl rfl rfl ?_
        refine x_ic (v := 0) r82_60 rfl rfl ?_
        refine x_ic (v := 1) r82_61 rfl rfl ?_
        obtain ⟨D18, e19, h⟩ := am_ltE h
        refine y_ias (n := 1320) r82_62 rfl (by decide) (by decide) (e := 0) (by decide) e19 rfl ?_
        refine x_ld (v := .ref 106) r82_63 rfl rfl rfl ?_
        refine y_gf (cd := 109) (v := .ref 107) r82_64 rfl rfl rfl ?_
        refine x_ic (v := 1) r82_67 rfl rfl ?_
        refine x_ld (v := .int v1) r82_68 rfl rfl rfl ?_
        obtain ⟨D20, e21, h⟩ := am_ltE h
        refine y_ias (n := 1320) r82_69 rfl (by decide) (by decide) (e := 1) (by decide) e21 rfl ?_
        refine x_ld (v := .ref 106) r82_70 rfl rfl rfl ?_
        refine y_gf (cd := 109) (v := .ref 107) r82_71 rfl rfl rfl ?_
        refine x_ic (v := 2) r82_74 rfl rfl ?_
        refine x_ld (v := .int v1) r82_75 rfl rfl rfl ?_
        refine x_ic (v := 1) r82_76 rfl rfl ?_
        refine x_ar r82_77 rfl trivial rfl ?_
        refine x_ic (v := 4) r82_78 rfl rfl ?_
        refine x_ar r82_79 rfl (by decide) rfl ?_
        obtain ⟨D22, e23, h⟩ := am_ltE h
        refine y_ias (n := 1320) r82_80 rfl (by decide) (by decide) (e := 2) (by decide) e23 rfl ?_
        refine x_ld (v := .ref 106) r82_81 rfl rfl rfl ?_
        refine y_gf (cd := 109) (v := .ref 107) r82_82 rfl rfl rfl ?_
        refine x_ic (v := 4) r82_85 rfl rfl ?_
        refine x_ic (v := 0) r82_86 rfl rfl ?_
        obtain ⟨D24, e25, h⟩ := am_ltE h
        refine y_ias (n := 1320) r82_87 rfl (by decide) (by decide) (e := 4) (by decide) e25 rfl ?_
        refine x_ld (v := .ref 106) r82_88 rfl rfl rfl ?_
        refine y_gf (cd := 109) (v := .ref 107) r82_89 rfl rfl rfl ?_
        refine x_ic (v := 5) r82_92 rfl rfl ?_
        refine x_ic (v := -1) r82_93 rfl rfl ?_
        obtain ⟨D26, e27, h⟩ := am_ltE h
        refine y_ias (n := 1320) r82_94 rfl (by decide) (by decide) (e := 5) (by decide) e27 rfl ?_
        refine x_ld (v := .ref 106) r82_95 rfl rfl rfl ?_
        refine y_gf (cd := 109) (v := .ref 107) r82_96 rfl rfl rfl ?_
        refine x_bi (v := 8) r82_99 rfl rfl ?_
        refine x_ar r82_101 rfl trivial rfl ?_
        refine y_ial (n := 1320) r82_102 rfl (by decide) (by decide) (e := 8) (by decide) rfl ?_
        refine x_ic (v := 1) r82_103 rfl rfl ?_
        refine x_ar r82_104 rfl trivial rfl ?_
        obtain ⟨D28, e29, h⟩ := am_ltE h
        refine y_ias (n := 1320) r82_105 rfl (by decide) (by decide) (e := 8) (by decide) e29 rfl ?_
        refine x_ic (v := 0) r82_106 rfl rfl ?_
        refine x_sto (lc' := [.ref 106, .int v1, .int q1, .int (0 : Int32)]) r82_107 rfl rfl rfl rfl ?_
        obtain ⟨q42, h43, h⟩ := Option.bind_eq_some_iff.mp h
        refine x_forget (lc0 := [.ref 106, .int v1, am_dead, .int (0 : Int32)]) ⟨Or.inl rfl, Or.inl rfl, Or.inr ⟨rfl, rfl⟩, Or.inl rfl, trivial⟩ (m82_L108_w hd N D28 (0 : Int32) h43 ?_)
        refine x_ld (v := .ref 106) r82_154 rfl rfl rfl ?_
        refine x_ld (v := .int v1) r82_155 rfl rfl rfl ?_
        obtain ⟨q44, h45, h⟩ := Option.bind_eq_some_iff.mp h
        refine x_call1 (as := [.ref 106, .int v1]) (rest := []) r82_156 rfl rfl rfl (by decide) (Nat.le_of_ble_eq_true rfl) (m81_ok h45) (Nat.le_trans (by decide) hd) (Nat.zero_le _) (Nat.zero_le _) rfl ?_
        cases h
        exact x_ret (ret := some .int) (C := True) (v := some (.int _)) r82_159 rt82 rfl rfl rfl rfl rfl rfl rfl rfl trivial hQ
    rcases am_ifE h10 with ⟨c11, h10⟩ | ⟨c11, h10⟩
    · refine x_ifneT r82_28 c11 rfl ?_
      refine x_ic (v := 1) r82_31 rfl rfl ?_
      refine x_goto r82_32 ?_
      subst h10
      exact kj9
    · refine x_ifneF r82_28 c11 ?_
      refine x_ld (v := .int q1) r82_35 rfl rfl rfl ?_
      rcases am_ifE h10 with ⟨c12, h10⟩ | ⟨c12, h10⟩
      · refine x_ifneT r82_36 c12 rfl ?_
        refine x_ic (v := 2) r82_39 rfl rfl ?_
        refine x_goto r82_40 ?_
        subst h10
        exact kj9
      · refine x_ifneF r82_36 c12 ?_
        refine x_ic (v := 0) r82_43 rfl rfl ?_
        subst h10
        exact kj9
  rcases am_ifE h3 with ⟨c4, h3⟩ | ⟨c4, h3⟩
  · refine x_ifneT r82_6 c4 rfl ?_
    refine x_ld (v := .ref 106) r82_9 rfl rfl rfl ?_
    refine x_ic (v := 5) r82_10 rfl rfl ?_
    obtain ⟨q5, h6, h3⟩ := Option.bind_eq_some_iff.mp h3
    refine x_call1 (as := [.ref 106, .int (5 : Int32)]) (rest := []) r82_11 rfl rfl rfl (by decide) (Nat.le_of_ble_eq_true rfl) (m57_ok h6) (Nat.le_trans (by decide) hd) (Nat.zero_le _) (Nat.zero_le _) rfl ?_
    rcases am_ifE h3 with ⟨c7, h3⟩ | ⟨c7, h3⟩
    · refine x_ifneT r82_14 c7 rfl ?_
      refine x_ic (v := 1) r82_17 rfl rfl ?_
      refine x_goto r82_18 ?_
      cases h3
      exact kj2
    · refine x_ifneF r82_14 c7 ?_
      refine x_ic (v := 0) r82_21 rfl rfl ?_
      cases h3
      exact kj2
  · refine x_ifneF r82_6 c4 ?_
    refine x_ic (v := 0) r82_21 rfl rfl ?_
    cases h3
    exact kj2
theorem m82_ok {N : Nat} {D : am_D} {v1 : Int32} {r : Int32 × am_D} (h : m82 N D v1 = some r) : am_Y xs L 82 3 0 0 [.ref 106, .int v1] D (.inl (some (.int r.1))) r.2 := am_Yof (mi := am_m82) (lc := [.ref 106, .int v1, am_dead, am_dead]) pg82 (Nat.le_of_ble_eq_true rfl) (am_rc1 (ci := 8) rfl rfl rfl rfl rfl) rfl (fun Q hQ => m82_w (Nat.le_refl _) h hQ)
theorem r83_0 : am_at 83 0 = some (.aload_n 0, 1, [0]) := by decide +kernel
theorem r83_1 : am_at 83 1 = some (.aload_n 0, 1, [0]) := by decide +kernel
theorem r83_2 : am_at 83 2 = some (.getfield 7, 3, [8, 1, 3, 1216]) := by decide +kernel
theorem r83_5 : am_at 83 5 = some (.iconst (0), 1, []) := by decide +kernel
theorem r83_6 : am_at 83 6 = some (.iaload, 1, []) := by decide +kernel
theorem r83_7 : am_at 83 7 = some (.iconst (1), 1, []) := by decide +kernel
theorem r83_8 : am_at 83 8 = some (.if_icmp .ne (7), 3, [15]) := by decide +kernel
theorem r83_11 : am_at 83 11 = some (.iconst (1), 1, []) := by decide +kernel
theorem r83_12 : am_at 83 12 = some (.goto (4), 3, [16]) := by decide +kernel
theorem r83_15 : am_at 83 15 = some (.iconst (0), 1, []) := by decide +kernel
theorem r83_16 : am_at 83 16 = some (.invokevirtual 142, 3, [47, 2, 1323, 0]) := by decide +kernel
theorem r83_19 : am_at 83 19 = some (.ifCond .ne (5), 3, [24]) := by decide +kernel
theorem r83_22 : am_at 83 22 = some (.iconst (0), 1, []) := by decide +kernel
theorem r83_23 : am_at 83 23 = some (.ireturn, 1, []) := by decide +kernel
theorem r83_24 : am_at 83 24 = some (.aload_n 0, 1, [0]) := by decide +kernel
theorem r83_25 : am_at 83 25 = some (.invokevirtual 145, 3, [76, 1, 1327, 0]) := by decide +kernel
theorem r83_28 : am_at 83 28 = some (.bipush (28), 2, []) := by decide +kernel
theorem r83_30 : am_at 83 30 = some (.aload_n 0, 1, [0]) := by decide +kernel
theorem r83_31 : am_at 83 31 = some (.iconst (5), 1, []) := by decide +kernel
theorem r83_32 : am_at 83 32 = some (.invokevirtual 121, 3, [57, 2, 1319, 0]) := by decide +kernel
theorem r83_35 : am_at 83 35 = some (.isub, 1, []) := by decide +kernel
theorem r83_36 : am_at 83 36 = some (.istore_n 1, 1, [1]) := by decide +kernel
theorem r83_37 : am_at 83 37 = some (.iconst (0), 1, []) := by decide +kernel
theorem r83_38 : am_at 83 38 = some (.istore_n 2, 1, [2]) := by decide +kernel
theorem r83_39 : am_at 83 39 = some (.iload_n 2, 1, [2]) := by decide +kernel
theorem r83_40 : am_at 83 40 = some (.bipush (28), 2, []) := by decide +kernel
theorem r83_42 : am_at 83 42 = some (.if_icmp .ge (19), 3, [61]) := by decide +kernel
theorem r83_45 : am_at 83 45 = some (.aload_n 0, 1, [0]) := by decide +kernel
theorem r83_46 : am_at 83 46 = some (.getfield 7, 3, [8, 1, 3, 1216]) := by decide +kernel
theorem r83_49 : am_at 83 49 = some (.bipush (25), 2, []) := by decide +kernel
theorem r83_51 : am_at 83 51 = some (.iload_n 2, 1, [2]) := by decide +kernel
theorem r83_52 : am_at 83 52 = some (.iadd, 1, []) := by decide +kernel
theorem r83_53 : am_at 83 53 = some (.iconst (5), 1, []) := by decide +kernel
theorem r83_54 : am_at 83 54 = some (.iastore, 1, []) := by decide +kernel
theorem r83_55 : am_at 83 55 = some (.iinc 2 (1), 3, [2]) := by decide +kernel
theorem r83_58 : am_at 83 58 = some (.goto (-19), 3, [39]) := by decide +kernel
theorem r83_61 : am_at 83 61 = some (.iconst (0), 1, []) := by decide +kernel
theorem r83_62 : am_at 83 62 = some (.istore_n 2, 1, [2]) := by decide +kernel
theorem r83_63 : am_at 83 63 = some (.iload_n 2, 1, [2]) := by decide +kernel
theorem r83_64 : am_at 83 64 = some (.iconst (4), 1, []) := by decide +kernel
theorem r83_65 : am_at 83 65 = some (.if_icmp .ge (19), 3, [84]) := by decide +kernel
theorem r83_68 : am_at 83 68 = some (.aload_n 0, 1, [0]) := by decide +kernel
theorem r83_69 : am_at 83 69 = some (.getfield 7, 3, [8, 1, 3, 1216]) := by decide +kernel
theorem r83_72 : am_at 83 72 = some (.bipush (17), 2, []) := by decide +kernel
theorem r83_74 : am_at 83 74 = some (.iload_n 2, 1, [2]) := by decide +kernel
theorem r83_75 : am_at 83 75 = some (.iadd, 1, []) := by decide +kernel
theorem r83_76 : am_at 83 76 = some (.iconst (0), 1, []) := by decide +kernel
theorem r83_77 : am_at 83 77 = some (.iastore, 1, []) := by decide +kernel
theorem r83_78 : am_at 83 78 = some (.iinc 2 (1), 3, [2]) := by decide +kernel
theorem r83_81 : am_at 83 81 = some (.goto (-18), 3, [63]) := by decide +kernel
theorem r83_84 : am_at 83 84 = some (.aload_n 0, 1, [0]) := by decide +kernel
theorem r83_85 : am_at 83 85 = some (.getfield 7, 3, [8, 1, 3, 1216]) := by decide +kernel
theorem r83_88 : am_at 83 88 = some (.bipush (12), 2, []) := by decide +kernel
theorem r83_90 : am_at 83 90 = some (.iconst (0), 1, []) := by decide +kernel
theorem r83_91 : am_at 83 91 = some (.iastore, 1, []) := by decide +kernel
theorem r83_92 : am_at 83 92 = some (.aload_n 0, 1, [0]) := by decide +kernel
theorem r83_93 : am_at 83 93 = some (.getfield 7, 3, [8, 1, 3, 1216]) := by decide +kernel
theorem r83_96 : am_at 83 96 = some (.iconst (5), 1, []) := by decide +kernel
theorem r83_97 : am_at 83 97 = some (.iconst (-1), 1, []) := by decide +kernel
theorem r83_98 : am_at 83 98 = some (.iastore, 1, []) := by decide +kernel
theorem r83_99 : am_at 83 99 = some (.aload_n 0, 1, [0]) := by decide +kernel
theorem r83_100 : am_at 83 100 = some (.getfield 7, 3, [8, 1, 3, 1216]) := by decide +kernel
theorem r83_103 : am_at 83 103 = some (.iconst (0), 1, []) := by decide +kernel
theorem r83_104 : am_at 83 104 = some (.iconst (0), 1, []) := by decide +kernel
theorem r83_105 : am_at 83 105 = some (.iastore, 1, []) := by decide +kernel
theorem r83_106 : am_at 83 106 = some (.iload_n 1, 1, [1]) := by decide +kernel
theorem r83_107 : am_at 83 107 = some (.ireturn, 1, []) := by decide +kernel
theorem rt83 : am_rtt 83 = some (some .int) := by decide +kernel
set_option maxRecDepth 100000 in
theorem pg83 : am_pg[83]? = some am_m83 := rfl
theorem m83_L39_w {d : Nat} {N : Nat} {v1 : Int32} {mc ms : Nat} {Q : am_O → am_AH → Prop} (hd : 3 ≤ d) : ∀ (n : Nat) (D : am_D) (v2 : Int32) {q : am_D} (h : m83_L39 N v1  n D v2 = some q) (k0 : am_X xs L 83 d mc ms 61 [.ref 106, .int v1, am_dead] [] (am_mk q) 0 0 Q), am_X xs L 83 d mc ms 39 [.ref 106, .int v1, .int v2] [] (am_mk D) 0 0 Q := by
  intro n
  induction n with
  | zero =>
    intro D v2 q h k0
    exact (nomatch (show none = some q from h))
  | succ n ih =>
    intro D v2 q h k0
    rw [m83_L39] at h
    refine x_ld (v := .int v2) r83_39 rfl rfl rfl ?_
    refine x_bi (v := 28) r83_40 rfl rfl ?_
    rcases am_ifE h with ⟨c14, h⟩ | ⟨c14, h⟩
    · refine x_icgeT r83_42 c14 ?_
      refine x_forget (lc0 := [.ref 106, .int v1, am_dead]) ⟨Or.inl rfl, Or.inl rfl, Or.inr ⟨rfl, rfl⟩, trivial⟩ ?_
      cases h
      exact k0
    · refine x_icgeF r83_42 c14 rfl ?_
      refine x_ld (v := .ref 106) r83_45 rfl rfl rfl ?_
      refine y_gf (cd := 109) (v := .ref 107) r83_46 rfl rfl rfl ?_
      refine x_bi (v := 25) r83_49 rfl rfl ?_
      refine x_ld (v := .int v2) r83_51 rfl rfl rfl ?_
      refine x_ar r83_52 rfl trivial rfl ?_
      refine x_ic (v := 5) r83_53 rfl rfl ?_
      obtain ⟨g17, h⟩ := am_gdE h
      obtain ⟨D15, e16, h⟩ := am_ltE h
      refine y_ias (n := 1320) r83_54 rfl (by decide) g17 rfl e16 rfl ?_
      obtain ⟨x18, e19, h⟩ := am_ltE h
      refine x_sto (lc' := [.ref 106, .int v1, .int x18]) r83_55 rfl rfl (by subst e19; rfl) rfl ?_
      refine x_goto r83_58 ?_
      exact x_forget (lc0 := [.ref 106, .int v1, .int x18]) ⟨Or.inl rfl, Or.inl rfl, Or.inl rfl, trivial⟩ (ih D15 x18 h k0)
theorem m83_L63_w {d : Nat} {N : Nat} {v1 : Int32} {mc ms : Nat} {Q : am_O → am_AH → Prop} (hd : 3 ≤ d) : ∀ (n : Nat) (D : am_D) (v2 : Int32) {q : am_D} (h : m83_L63 N v1  n D v2 = some q) (k0 : am_X xs L 83 d mc ms 84 [.ref 106, .int v1, am_dead] [] (am_mk q) 0 0 Q), am_X xs L 83 d mc ms 63 [.ref 106, .int v1, .int v2] [] (am_mk D) 0 0 Q := by
  intro n
  induction n with
  | zero =>
    intro D v2 q h k0
    exact (nomatch (show none = some q from h))
  | succ n ih =>
    intro D v2 q h k0
    rw [m83_L63] at h
    refine x_ld (v := .int v2) r83_63 rfl rfl rfl ?_
    refine x_ic (v := 4) r83_64 rfl rfl ?_
    rcases am_ifE h with ⟨c22, h⟩ | ⟨c22, h⟩
    · refine x_icgeT r83_65 c22 ?_
      refine x_forget (lc0 := [.ref 106, .int v1, am_dead]) ⟨Or.inl rfl, Or.inl rfl, Or.inr ⟨rfl, rfl⟩, trivial⟩ ?_
      cases h
      exact k0
    · refine x_icgeF r83_65 c22 rfl ?_
      refine x_ld (v := .ref 106) r83_68 rfl rfl rfl ?_
      refine y_gf (cd := 109) (v := .ref 107) r83_69 rfl rfl rfl ?_
      refine x_bi (v := 17) r83_72 rfl rfl ?_
      refine x_ld (v := .int v2) r83_74 rfl rfl rfl ?_
      refine x_ar r83_75 rfl trivial rfl ?_
      refine x_ic (v := 0) r83_76 rfl rfl ?_
      obtain ⟨g25, h⟩ := am_gdE h
      obtain ⟨D23, e24, h⟩ := am_ltE h
      refine y_ias (n := 1320) r83_77 rfl (by decide) g25 rfl e24 rfl ?_
      obtain ⟨x26, e27, h⟩ := am_ltE h
      refine x_sto (lc' := [.ref 106, .int v1, .int x26]) r83_78 rfl rfl (by subst e27; rfl) rfl ?_
      refine x_goto r83_81 ?_
      exact x_forget (lc0 := [.ref 106, .int v1, .int x26]) ⟨Or.inl rfl, Or.inl rfl, Or.inl rfl, trivial⟩ (ih D23 x26 h k0)
theorem m83_w {d mc ms : Nat} {N : Nat} {D : am_D} {Q : am_O → am_AH → Prop} (hd : 3 ≤ d) {r : Int32 × am_D} (h : m83 N D = some r) (hQ : Q (.inl (some (.int r.1))) (am_mk r.2)) : am_X xs L 83 d mc ms 0 [.ref 106, am_dead, am_dead] [] (am_mk D) 0 0 Q := by
  unfold m83 at h
  refine x_ld (v := .ref 106) r83_0 rfl rfl rfl ?_
  refine x_ld (v := .ref 106) r83_1 rfl rfl rfl ?_
  refine y_gf (cd := 109) (v := .ref 107) r83_2 rfl rfl rfl ?_
  refine x_ic (v := 0) r83_5 rfl rfl ?_
  refine y_ial (n := 1320) r83_6 rfl (by decide) (by decide) (e := 0) (by decide) rfl ?_
  refine x_ic (v := 1) r83_7 rfl rfl ?_
  obtain ⟨q1, h3, h⟩ := am_ltE h
  replace h3 := h3.symm
  have kj2 : am_X xs L 83 d mc ms 16 [.ref 106, am_dead, am_dead] [.int q1, .ref 106] (am_mk D) 0 0 Q := by
    obtain ⟨q5, h6, h⟩ := am_ltE h
    replace h6 := h6.symm
    refine x_call1 (as := [.ref 106, .int q1]) (rest := []) r83_16 rfl rfl rfl (by decide) (Nat.le_of_ble_eq_true rfl) (m47_ok h6) (Nat.le_trans (by decide) hd) (Nat.zero_le _) (Nat.zero_le _) rfl ?_
    rcases am_ifE h with ⟨c7, h⟩ | ⟨c7, h⟩
    · refine x_ifneT r83_19 c7 rfl ?_
      refine x_ic (v := 0) r83_22 rfl rfl ?_
      cases h
      exact x_ret (ret := some .int) (C := True) (v := some (.int _)) r83_23 rt83 rfl rfl rfl rfl rfl rfl rfl rfl trivial hQ
    · refine x_ifneF r83_19 c7 ?_
      refine x_ld (v := .ref 106) r83_24 rfl rfl rfl ?_
      obtain ⟨q8, h9, h⟩ := Option.bind_eq_some_iff.mp h
      refine x_call0 (as := [.ref 106]) (rest := []) r83_25 rfl rfl rfl (by decide) (Nat.le_of_ble_eq_true rfl) (m76_ok h9) (Nat.le_trans (by decide) hd) (Nat.zero_le _) (Nat.zero_le _) rfl ?_
      refine x_bi (v := 28) r83_28 rfl rfl ?_
      refine x_ld (v := .ref 106) r83_30 rfl rfl rfl ?_
      refine x_ic (v := 5) r83_31 rfl rfl ?_
      obtain ⟨q10, h11, h⟩ := Option.bind_eq_some_iff.mp h
      refine x_call1 (as := [.ref 106, .int (5 : Int32)]) (rest := [.int (28 : Int32)]) r83_32 rfl rfl rfl (by decide) (Nat.le_of_ble_eq_true rfl) (m57_ok h11) (Nat.le_trans (by decide) hd) (Nat.zero_le _) (Nat.zero_le _) rfl ?_
      refine x_ar r83_35 rfl trivial rfl ?_
      obtain ⟨x12, e13, h⟩ := am_ltE h
      refine am_topI e13 ?_
      refine x_sto (lc' := [.ref 106, .int x12, am_dead]) r83_36 rfl rfl rfl rfl ?_
      refine x_ic (v := 0) r83_37 rfl rfl ?_
      refine x_sto (lc' := [.ref 106, .int x12, .int (0 : Int32)]) r83_38 rfl rfl rfl rfl ?_
      obtain ⟨q20, h21, h⟩ := Option.bind_eq_some_iff.mp h
      refine x_forget (lc0 := [.ref 106, .int x12, .int (0 : Int32)]) ⟨Or.inl rfl, Or.inl rfl, Or.inl rfl, trivial⟩ (m83_L39_w hd N q8 (0 : Int32) h21 ?_)
      refine x_ic (v := 0) r83_61 rfl rfl ?_
      refine x_sto (lc' := [.ref 106, .int x12, .int (0 : Int32)]) r83_62 rfl rfl rfl rfl ?_
      obtain ⟨q28, h29, h⟩ := Option.bind_eq_some_iff.mp h
      refine x_forget (lc0 := [.ref 106, .int x12, .int (0 : Int32)]) ⟨Or.inl rfl, Or.inl rfl, Or.inl rfl, trivial⟩ (m83_L63_w hd N q20 (0 : Int32) h29 ?_)
      refine x_ld (v := .ref 106) r83_84 rfl rfl rfl ?_
      refine y_gf (cd := 109) (v := .ref 107) r83_85 rfl rfl rfl ?_
      refine x_bi (v := 12) r83_88 rfl rfl ?_
      refine x_ic (v := 0) r83_90 rfl rfl ?_
      obtain ⟨D30, e31, h⟩ := am_ltE h
      refine y_ias (n := 1320) r83_91 rfl (by decide) (by decide) (e := 12) (by decide) e31 rfl ?_
      refine x_ld (v := .ref 106) r83_92 rfl rfl rfl ?_
      refine y_gf (cd := 109) (v := .ref 107) r83_93 rfl rfl rfl ?_
      refine x_ic (v := 5) r83_96 rfl rfl ?_
      refine x_ic (v := -1) r83_97 rfl rfl ?_
      obtain ⟨D32, e33, h⟩ := am_ltE h
      refine y_ias (n := 1320) r83_98 rfl (by decide) (by decide) (e := 5) (by decide) e33 rfl ?_
      refine x_ld (v := .ref 106) r83_99 rfl rfl rfl ?_
      refine y_gf (cd := 109) (v := .ref 107) r83_100 rfl rfl rfl ?_
      refine x_ic (v := 0) r83_103 rfl rfl ?_
      refine x_ic (v := 0) r83_104 rfl rfl ?_
      obtain ⟨D34, e35, h⟩ := am_ltE h
      refine y_ias (n := 1320) r83_105 rfl (by decide) (by decide) (e := 0) (by decide) e35 rfl ?_
      refine x_ld (v := .int x12) r83_106 rfl rfl rfl ?_
      cases h
      exact x_ret (ret := some .int) (C := True) (v := some (.int _)) r83_107 rt83 rfl rfl rfl rfl rfl rfl rfl rfl trivial hQ
  rcases am_ifE h3 with ⟨c4, h3⟩ | ⟨c4, h3⟩
  · refine x_icneT r83_8 c4 rfl ?_
    refine x_ic (v := 1) r83_11 rfl rfl ?_
    refine x_goto r83_12 ?_
    subst h3
    exact kj2
  · refine x_icneF r83_8 c4 ?_
    refine x_ic (v := 0) r83_15 rfl rfl ?_
    subst h3
    exact kj2
theorem m83_ok {N : Nat} {D : am_D} {r : Int32 × am_D} (h : m83 N D = some r) : am_Y xs L 83 3 0 0 [.ref 106] D (.inl (some (.int r.1))) r.2 := am_Yof (mi := am_m83) (lc := [.ref 106, am_dead, am_dead]) pg83 (Nat.le_of_ble_eq_true rfl) (am_rc1 (ci := 8) rfl rfl rfl rfl rfl) rfl (fun Q hQ => m83_w (Nat.le_refl _) h hQ)
theorem r84_0 : am_at 84 0 = some (.iload_n 1, 1, [1]) := by decide +kernel
theorem r84_1 : am_at 84 1 = some (.invokestatic 133, 3, [48, 1, 1302, 0]) := by decide +kernel
theorem r84_4 : am_at 84 4 = some (.ifCond .eq (14), 3, [18]) := by decide +kernel
theorem r84_7 : am_at 84 7 = some (.iload_n 2, 1, [2]) := by decide +kernel
theorem r84_8 : am_at 84 8 = some (.invokestatic 136, 3, [49, 1, 1308, 0]) := by decide +kernel
theorem r84_11 : am_at 84 11 = some (.ifCond .eq (7), 3, [18]) := by decide +kernel
theorem r84_14 : am_at 84 14 = some (.iconst (1), 1, []) := by decide +kernel
theorem r84_15 : am_at 84 15 = some (.goto (4), 3, [19]) := by decide +kernel
theorem r84_18 : am_at 84 18 = some (.iconst (0), 1, []) := by decide +kernel
theorem r84_19 : am_at 84 19 = some (.istore 4, 2, [4]) := by decide +kernel
theorem r84_21 : am_at 84 21 = some (.aload_n 0, 1, [0]) := by decide +kernel
theorem r84_22 : am_at 84 22 = some (.iload 4, 2, [4]) := by decide +kernel
theorem r84_24 : am_at 84 24 = some (.ifCond .ne (7), 3, [31]) := by decide +kernel
theorem r84_27 : am_at 84 27 = some (.iconst (1), 1, []) := by decide +kernel
theorem r84_28 : am_at 84 28 = some (.goto (29), 3, [57]) := by decide +kernel
theorem r84_31 : am_at 84 31 = some (.iload_n 3, 1, [3]) := by decide +kernel
theorem r84_32 : am_at 84 32 = some (.invokestatic 154, 3, [50, 1, 1363, 0]) := by decide +kernel
theorem r84_35 : am_at 84 35 = some (.ifCond .ne (7), 3, [42]) := by decide +kernel
theorem r84_38 : am_at 84 38 = some (.iconst (2), 1, []) := by decide +kernel
theorem r84_39 : am_at 84 39 = some (.goto (18), 3, [57]) := by decide +kernel
theorem r84_42 : am_at 84 42 = some (.aload_n 0, 1, [0]) := by decide +kernel
theorem r84_43 : am_at 84 43 = some (.iload_n 1, 1, [1]) := by decide +kernel
theorem r84_44 : am_at 84 44 = some (.iload_n 2, 1, [2]) := by decide +kernel
theorem r84_45 : am_at 84 45 = some (.iload_n 3, 1, [3]) := by decide +kernel
theorem r84_46 : am_at 84 46 = some (.invokevirtual 157, 3, [67, 4, 1366, 0]) := by decide +kernel
theorem r84_49 : am_at 84 49 = some (.ifCond .le (7), 3, [56]) := by decide +kernel
theorem r84_52 : am_at 84 52 = some (.iconst (3), 1, []) := by decide +kernel
theorem r84_53 : am_at 84 53 = some (.goto (4), 3, [57]) := by decide +kernel
theorem r84_56 : am_at 84 56 = some (.iconst (0), 1, []) := by decide +kernel
theorem r84_57 : am_at 84 57 = some (.invokevirtual 142, 3, [47, 2, 1323, 0]) := by decide +kernel
theorem r84_60 : am_at 84 60 = some (.ifCond .ne (5), 3, [65]) := by decide +kernel
theorem r84_63 : am_at 84 63 = some (.iconst (0), 1, []) := by decide +kernel
theorem r84_64 : am_at 84 64 = some (.ireturn, 1, []) := by decide +kernel
theorem r84_65 : am_at 84 65 = some (.aload_n 0, 1, [0]) := by decide +kernel
theorem r84_66 : am_at 84 66 = some (.invokevirtual 145, 3, [76, 1, 1327, 0]) := by decide +kernel
theorem r84_69 : am_at 84 69 = some (.aload_n 0, 1, [0]) := by decide +kernel
theorem r84_70 : am_at 84 70 = some (.iload_n 1, 1, [1]) := by decide +kernel
theorem r84_71 : am_at 84 71 = some (.iload_n 2, 1, [2]) := by decide +kernel
theorem r84_72 : am_at 84 72 = some (.iload_n 3, 1, [3]) := by decide +kernel
theorem r84_73 : am_at 84 73 = some (.invokevirtual 161, 3, [71, 4, 1398, 0]) := by decide +kernel
theorem r84_76 : am_at 84 76 = some (.ireturn, 1, []) := by decide +kernel
theorem rt84 : am_rtt 84 = some (some .int) := by decide +kernel
set_option maxRecDepth 100000 in
theorem pg84 : am_pg[84]? = some am_m84 := rfl
theorem m84_w {d mc ms : Nat} {N : Nat} {D : am_D} {v1 : Int32} {v2 : Int32} {v3 : Int32} {Q : am_O → am_AH → Prop} (hd : 6 ≤ d) {r : Int32 × am_D} (h : m84 N D v1 v2 v3 = some r) (hQ : Q (.inl (some (.int r.1))) (am_mk r.2)) : am_X xs L 84 d mc ms 0 [.ref 106, .int v1, .int v2, .int v3, am_dead] [] (am_mk D) 0 0 Q := by
  unfold m84 at h
  refine x_ld (v := .int v1) r84_0 rfl rfl rfl ?_
  refine x_call1 (as := [.int v1]) (rest := []) r84_1 rfl rfl rfl (by decide) (Nat.le_of_ble_eq_true rfl) (m48_ok rfl) (Nat.le_trans (by decide) hd) (Nat.zero_le _) (Nat.zero_le _) rfl ?_
  obtain ⟨q1, h3, h⟩ := am_ltE h
  replace h3 := h3.symm
  have kj2 : am_X xs L 84 d mc ms 19 [.ref 106, .int v1, .int v2, .int v3, am_dead] [.int q1] (am_mk D) 0 0 Q := by
    refine x_sto (lc' := [.ref 106, .int v1, .int v2, .int v3, .int q1]) r84_19 rfl rfl rfl rfl ?_
    refine x_ld (v := .ref 106) r84_21 rfl rfl rfl ?_
    refine x_ld (v := .int q1) r84_22 rfl rfl rfl ?_
    obtain ⟨q6, h8, h⟩ := Option.bind_eq_some_iff.mp h
    have kj7 : am_X xs L 84 d mc ms 57 [.ref 106, .int v1, .int v2, .int v3, .int q1] [.int q6, .ref 106] (am_mk D) 0 0 Q := by
      obtain ⟨q14, h15, h⟩ := am_ltE h
      replace h15 := h15.symm
      refine x_call1 (as := [.ref 106, .int q6]) (rest := []) r84_57 rfl rfl rfl (by decide) (Nat.le_of_ble_eq_true rfl) (m47_ok h15) (Nat.le_trans (by decide) hd) (Nat.zero_le _) (Nat.zero_le _) rfl ?_
      rcases am_ifE h with ⟨c16, h⟩ | ⟨c16, h⟩
      · refine x_ifneT r84_60 c16 rfl ?_
        refine x_ic (v := 0) r84_63 rfl rfl ?_
        cases h
        exact x_ret (ret := some .int) (C := True) (v := some (.int _)) r84_64 rt84 rfl rfl rfl rfl rfl rfl rfl rfl trivial hQ
      · refine x_ifneF r84_60 c16 ?_
        refine x_ld (v := .ref 106) r84_65 rfl rfl rfl ?_
        obtain ⟨q17, h18, h⟩ := Option.bind_eq_some_iff.mp h
        refine x_call0 (as := [.ref 106]) (rest := []) r84_66 rfl rfl rfl (by decide) (Nat.le_of_ble_eq_true rfl) (m76_ok h18) (Nat.le_trans (by decide) hd) (Nat.zero_le _) (Nat.zero_le _) rfl ?_
        refine x_ld (v := .ref 106) r84_69 rfl rfl rfl ?_
        refine x_ld (v := .int v1) r84_70 rfl rfl rfl ?_
        refine x_ld (v := .int v2) r84_71 rfl rfl rfl ?_
        refine x_ld (v := .int v3) r84_72 rfl rfl rfl ?_
        obtain ⟨q19, h20, h⟩ := Option.bind_eq_some_iff.mp h
        refine x_call1 (as := [.ref 106, .int v1, .int v2, .int v3]) (rest := []) r84_73 rfl rfl rfl (by decide) (Nat.le_of_ble_eq_true rfl) (m71_ok h20) (Nat.le_trans (by decide) hd) (Nat.zero_le _) (Nat.zero_le _) rfl ?_
        cases h
        exact x_ret (ret := some .int) (C := True) (v := some (.int _)) r84_76 rt84 rfl rfl rfl rfl rfl rfl rfl rfl trivial hQ
    rcases am_ifE h8 with ⟨c9, h8⟩ | ⟨c9, h8⟩
    · refine x_ifneT r84_24 c9 rfl ?_
      refine x_ic (v := 1) r84_27 rfl rfl ?_
      refine x_goto r84_28 ?_
      cases h8
      exact kj7
    · refine x_ifneF r84_24 c9 ?_
      refine x_ld (v := .int v3) r84_31 rfl rfl rfl ?_
      refine x_call1 (as := [.int v3]) (rest := [.ref 106]) r84_32 rfl rfl rfl (by decide) (Nat.le_of_ble_eq_true rfl) (m50_ok rfl) (Nat.le_trans (by decide) hd) (Nat.zero_le _) (Nat.zero_le _) rfl ?_
      rcases am_ifE h8 with ⟨c10, h8⟩ | ⟨c10, h8⟩
      · refine x_ifneT r84_35 c10 rfl ?_
        refine x_ic (v := 2) r84_38 rfl rfl ?_
        refine x_goto r84_39 ?_
        cases h8
        exact kj7
      · refine x_ifneF r84_35 c10 ?_
        refine x_ld (v := .ref 106) r84_42 rfl rfl rfl ?_
        refine x_ld (v := .int v1) r84_43 rfl rfl rfl ?_
        refine x_ld (v := .int v2) r84_44 rfl rfl rfl ?_
        refine x_ld (v := .int v3) r84_45 rfl rfl rfl ?_
        obtain ⟨q11, h12, h8⟩ := Option.bind_eq_some_iff.mp h8
        refine x_call1 (as := [.ref 106, .int v1, .int v2, .int v3]) (rest := [.ref 106]) r84_46 rfl rfl rfl (by decide) (Nat.le_of_ble_eq_true rfl) (m67_ok h12) (Nat.le_trans (by decide) hd) (Nat.zero_le _) (Nat.zero_le _) rfl ?_
        rcases am_ifE h8 with ⟨c13, h8⟩ | ⟨c13, h8⟩
        · refine x_ifleT r84_49 c13 ?_
          refine x_ic (v := 0) r84_56 rfl rfl ?_
          cases h8
          exact kj7
        · refine x_ifleF r84_49 c13 rfl ?_
          refine x_ic (v := 3) r84_52 rfl rfl ?_
          refine x_goto r84_53 ?_
          cases h8
          exact kj7
  rcases am_ifE h3 with ⟨c4, h3⟩ | ⟨c4, h3⟩
  · refine x_ifeqT r84_4 c4 ?_
    refine x_ic (v := 0) r84_18 rfl rfl ?_
    subst h3
    exact kj2
  · refine x_ifeqF r84_4 c4 rfl ?_
    refine x_ld (v := .int v2) r84_7 rfl rfl rfl ?_
    refine x_call1 (as := [.int v2]) (rest := []) r84_8 rfl rfl rfl (by decide) (Nat.le_of_ble_eq_true rfl) (m49_ok rfl) (Nat.le_trans (by decide) hd) (Nat.zero_le _) (Nat.zero_le _) rfl ?_
    rcases am_ifE h3 with ⟨c5, h3⟩ | ⟨c5, h3⟩
    · refine x_ifeqT r84_11 c5 ?_
      refine x_ic (v := 0) r84_18 rfl rfl ?_
      subst h3
      exact kj2
    · refine x_ifeqF r84_11 c5 rfl ?_
      refine x_ic (v := 1) r84_14 rfl rfl ?_
      refine x_goto r84_15 ?_
      subst h3
      exact kj2
theorem m84_ok {N : Nat} {D : am_D} {v1 : Int32} {v2 : Int32} {v3 : Int32} {r : Int32 × am_D} (h : m84 N D v1 v2 v3 = some r) : am_Y xs L 84 6 0 0 [.ref 106, .int v1, .int v2, .int v3] D (.inl (some (.int r.1))) r.2 := am_Yof (mi := am_m84) (lc := [.ref 106, .int v1, .int v2, .int v3, am_dead]) pg84 (Nat.le_of_ble_eq_true rfl) (am_rc1 (ci := 8) rfl rfl rfl rfl rfl) rfl (fun Q hQ => m84_w (Nat.le_refl _) h hQ)
theorem r85_0 : am_at 85 0 = some (.iload_n 1, 1, [1]) := by decide +kernel
theorem r85_1 : am_at 85 1 = some (.invokestatic 133, 3, [48, 1, 1302, 0]) := by decide +kernel
theorem r85_4 : am_at 85 4 = some (.istore_n 2, 1, [2]) := by decide +kernel
theorem r85_5 : am_at 85 5 = some (.aload_n 0, 1, [0]) := by decide +kernel
theorem r85_6 : am_at 85 6 = some (.iload_n 2, 1, [2]) := by decide +kernel
theorem r85_7 : am_at 85 7 = some (.ifCond .ne (7), 3, [14]) := by decide +kernel
theorem r85_10 : am_at 85 10 = some (.iconst (1), 1, []) := by decide +kernel
theorem r85_11 : am_at 85 11 = some (.goto (16), 3, [27]) := by decide +kernel
theorem r85_14 : am_at 85 14 = some (.aload_n 0, 1, [0]) := by decide +kernel
theorem r85_15 : am_at 85 15 = some (.iload_n 1, 1, [1]) := by decide +kernel
theorem r85_16 : am_at 85 16 = some (.invokevirtual 164, 3, [69, 2, 1425, 0]) := by decide +kernel
theorem r85_19 : am_at 85 19 = some (.ifCond .le (7), 3, [26]) := by decide +kernel
theorem r85_22 : am_at 85 22 = some (.iconst (2), 1, []) := by decide +kernel
theorem r85_23 : am_at 85 23 = some (.goto (4), 3, [27]) := by decide +kernel
theorem r85_26 : am_at 85 26 = some (.iconst (0), 1, []) := by decide +kernel
theorem r85_27 : am_at 85 27 = some (.invokevirtual 142, 3, [47, 2, 1323, 0]) := by decide +kernel
theorem r85_30 : am_at 85 30 = some (.ifCond .ne (5), 3, [35]) := by decide +kernel
theorem r85_33 : am_at 85 33 = some (.iconst (0), 1, []) := by decide +kernel
theorem r85_34 : am_at 85 34 = some (.ireturn, 1, []) := by decide +kernel
theorem r85_35 : am_at 85 35 = some (.aload_n 0, 1, [0]) := by decide +kernel
theorem r85_36 : am_at 85 36 = some (.invokevirtual 145, 3, [76, 1, 1327, 0]) := by decide +kernel
theorem r85_39 : am_at 85 39 = some (.aload_n 0, 1, [0]) := by decide +kernel
theorem r85_40 : am_at 85 40 = some (.iload_n 1, 1, [1]) := by decide +kernel
theorem r85_41 : am_at 85 41 = some (.invokevirtual 167, 3, [72, 2, 1437, 0]) := by decide +kernel
theorem r85_44 : am_at 85 44 = some (.ireturn, 1, []) := by decide +kernel
theorem rt85 : am_rtt 85 = some (some .int) := by decide +kernel
set_option maxRecDepth 100000 in
theorem pg85 : am_pg[85]? = some am_m85 := rfl
theorem m85_w {d mc ms : Nat} {N : Nat} {D : am_D} {v1 : Int32} {Q : am_O → am_AH → Prop} (hd : 8 ≤ d) {r : Int32 × am_D} (h : m85 N D v1 = some r) (hQ : Q (.inl (some (.int r.1))) (am_mk r.2)) : am_X xs L 85 d mc ms 0 [.ref 106, .int v1, am_dead] [] (am_mk D) 0 0 Q := by
  unfold m85 at h
  refine x_ld (v := .int v1) r85_0 rfl rfl rfl ?_
  refine x_call1 (as := [.int v1]) (rest := []) r85_1 rfl rfl rfl (by decide) (Nat.le_of_ble_eq_true rfl) (m48_ok rfl) (Nat.le_trans (by decide) hd) (Nat.zero_le _) (Nat.zero_le _) rfl ?_
  obtain ⟨x1, e2, h⟩ := am_ltE h
  refine am_topI e2 ?_
  refine x_sto (lc' := [.ref 106, .int v1, .int x1]) r85_4 rfl rfl rfl rfl ?_
  refine x_ld (v := .ref 106) r85_5 rfl rfl rfl ?_
  refine x_ld (v := .int x1) r85_6 rfl rfl rfl ?_
  obtain ⟨q3, h5, h⟩ := Option.bind_eq_some_iff.mp h
  have kj4 : am_X xs L 85 d mc ms 27 [.ref 106, .int v1, .int x1] [.int q3, .ref 106] (am_mk D) 0 0 Q := by
    obtain ⟨q10, h11, h⟩ := am_ltE h
    replace h11 := h11.symm
    refine x_call1 (as := [.ref 106, .int q3]) (rest := []) r85_27 rfl rfl rfl (by decide) (Nat.le_of_ble_eq_true rfl) (m47_ok h11) (Nat.le_trans (by decide) hd) (Nat.zero_le _) (Nat.zero_le _) rfl ?_
    rcases am_ifE h with ⟨c12, h⟩ | ⟨c12, h⟩
    · refine x_ifneT r85_30 c12 rfl ?_
      refine x_ic (v := 0) r85_33 rfl rfl ?_
      cases h
      exact x_ret (ret := some .int) (C := True) (v := some (.int _)) r85_34 rt85 rfl rfl rfl rfl rfl rfl rfl rfl trivial hQ
    · refine x_ifneF r85_30 c12 ?_
      refine x_ld (v := .ref 106) r85_35 rfl rfl rfl ?_
      obtain ⟨q13, h14, h⟩ := Option.bind_eq_some_iff.mp h
      refine x_call0 (as := [.ref 106]) (rest := []) r85_36 rfl rfl rfl (by decide) (Nat.le_of_ble_eq_true rfl) (m76_ok h14) (Nat.le_trans (by decide) hd) (Nat.zero_le _) (Nat.zero_le _) rfl ?_
      refine x_ld (v := .ref 106) r85_39 rfl rfl rfl ?_
      refine x_ld (v := .int v1) r85_40 rfl rfl rfl ?_
      obtain ⟨q15, h16, h⟩ := Option.bind_eq_some_iff.mp h
      refine x_call1 (as := [.ref 106, .int v1]) (rest := []) r85_41 rfl rfl rfl (by decide) (Nat.le_of_ble_eq_true rfl) (m72_ok h16) (Nat.le_trans (by decide) hd) (Nat.zero_le _) (Nat.zero_le _) rfl ?_
      cases h
      exact x_ret (ret := some .int) (C := True) (v := some (.int _)) r85_44 rt85 rfl rfl rfl rfl rfl rfl rfl rfl trivial hQ
  rcases am_ifE h5 with ⟨c6, h5⟩ | ⟨c6, h5⟩
  · refine x_ifneT r85_7 c6 rfl ?_
    refine x_ic (v := 1) r85_10 rfl rfl ?_
    refine x_goto r85_11 ?_
    cases h5
    exact kj4
  · refine x_ifneF r85_7 c6 ?_
    refine x_ld (v := .ref 106) r85_14 rfl rfl rfl ?_
    refine x_ld (v := .int v1) r85_15 rfl rfl rfl ?_
    obtain ⟨q7, h8, h5⟩ := Option.bind_eq_some_iff.mp h5
    refine x_call1 (as := [.ref 106, .int v1]) (rest := [.ref 106]) r85_16 rfl rfl rfl (by decide) (Nat.le_of_ble_eq_true rfl) (m69_ok h8) (Nat.le_trans (by decide) hd) (Nat.zero_le _) (Nat.zero_le _) rfl ?_
    rcases am_ifE h5 with ⟨c9, h5⟩ | ⟨c9, h5⟩
    · refine x_ifleT r85_19 c9 ?_
      refine x_ic (v := 0) r85_26 rfl rfl ?_
      cases h5
      exact kj4
    · refine x_ifleF r85_19 c9 rfl ?_
      refine x_ic (v := 2) r85_22 rfl rfl ?_
      refine x_goto r85_23 ?_
      cases h5
      exact kj4
theorem m85_ok {N : Nat} {D : am_D} {v1 : Int32} {r : Int32 × am_D} (h : m85 N D v1 = some r) : am_Y xs L 85 8 0 0 [.ref 106, .int v1] D (.inl (some (.int r.1))) r.2 := am_Yof (mi := am_m85) (lc := [.ref 106, .int v1, am_dead]) pg85 (Nat.le_of_ble_eq_true rfl) (am_rc1 (ci := 8) rfl rfl rfl rfl rfl) rfl (fun Q hQ => m85_w (Nat.le_refl _) h hQ)
theorem r86_0 : am_at 86 0 = some (.aload_n 0, 1, [0]) := by decide +kernel
theorem r86_1 : am_at 86 1 = some (.iload_n 1, 1, [1]) := by decide +kernel
theorem r86_2 : am_at 86 2 = some (.iconst (0), 1, []) := by decide +kernel
theorem r86_3 : am_at 86 3 = some (.iconst (1), 1, []) := by decide +kernel
theorem r86_4 : am_at 86 4 = some (.invokestatic 65, 3, [46, 3, 1305, 0]) := by decide +kernel
theorem r86_7 : am_at 86 7 = some (.ifCond .ne (7), 3, [14]) := by decide +kernel
theorem r86_10 : am_at 86 10 = some (.iconst (1), 1, []) := by decide +kernel
theorem r86_11 : am_at 86 11 = some (.goto (18), 3, [29]) := by decide +kernel
theorem r86_14 : am_at 86 14 = some (.aload_n 0, 1, [0]) := by decide +kernel
theorem r86_15 : am_at 86 15 = some (.getfield 7, 3, [8, 1, 3, 1216]) := by decide +kernel
theorem r86_18 : am_at 86 18 = some (.iconst (0), 1, []) := by decide +kernel
theorem r86_19 : am_at 86 19 = some (.iaload, 1, []) := by decide +kernel
theorem r86_20 : am_at 86 20 = some (.iconst (1), 1, []) := by decide +kernel
theorem r86_21 : am_at 86 21 = some (.if_icmp .eq (7), 3, [28]) := by decide +kernel
theorem r86_24 : am_at 86 24 = some (.iconst (2), 1, []) := by decide +kernel
theorem r86_25 : am_at 86 25 = some (.goto (4), 3, [29]) := by decide +kernel
theorem r86_28 : am_at 86 28 = some (.iconst (0), 1, []) := by decide +kernel
theorem r86_29 : am_at 86 29 = some (.invokevirtual 142, 3, [47, 2, 1323, 0]) := by decide +kernel
theorem r86_32 : am_at 86 32 = some (.ifCond .ne (5), 3, [37]) := by decide +kernel
theorem r86_35 : am_at 86 35 = some (.iconst (0), 1, []) := by decide +kernel
theorem r86_36 : am_at 86 36 = some (.ireturn, 1, []) := by decide +kernel
theorem r86_37 : am_at 86 37 = some (.aload_n 0, 1, [0]) := by decide +kernel
theorem r86_38 : am_at 86 38 = some (.invokevirtual 145, 3, [76, 1, 1327, 0]) := by decide +kernel
theorem r86_41 : am_at 86 41 = some (.aload_n 0, 1, [0]) := by decide +kernel
theorem r86_42 : am_at 86 42 = some (.iload_n 1, 1, [1]) := by decide +kernel
theorem r86_43 : am_at 86 43 = some (.invokevirtual 170, 3, [73, 2, 1445, 0]) := by decide +kernel
theorem r86_46 : am_at 86 46 = some (.ireturn, 1, []) := by decide +kernel
theorem rt86 : am_rtt 86 = some (some .int) := by decide +kernel
set_option maxRecDepth 100000 in
theorem pg86 : am_pg[86]? = some am_m86 := rfl
theorem m86_w {d mc ms : Nat} {N : Nat} {D : am_D} {v1 : Int32} {Q : am_O → am_AH → Prop} (hd : 3 ≤ d) {r : Int32 × am_D} (h : m86 N D v1 = some r) (hQ : Q (.inl (some (.int r.1))) (am_mk r.2)) : am_X xs L 86 d mc ms 0 [.ref 106, .int v1] [] (am_mk D) 0 0 Q := by
  unfold m86 at h
  refine x_ld (v := .ref 106) r86_0 rfl rfl rfl ?_
  refine x_ld (v := .int v1) r86_1 rfl rfl rfl ?_
  refine x_ic (v := 0) r86_2 rfl rfl ?_
  refine x_ic (v := 1) r86_3 rfl rfl ?_
  refine x_call1 (as := [.int v1, .int (0 : Int32), .int (1 : Int32)]) (rest := [.ref 106]) r86_4 rfl rfl rfl (by decide) (Nat.le_of_ble_eq_true rfl) (m46_ok rfl) (Nat.le_trans (by decide) hd) (Nat.zero_le _) (Nat.zero_le _) rfl ?_
  obtain ⟨q1, h3, h⟩ := am_ltE h
  replace h3 := h3.symm
  have kj2 : am_X xs L 86 d mc ms 29 [.ref 106, .int v1] [.int q1, .ref 106] (am_mk D) 0 0 Q := by
    obtain ⟨q6, h7, h⟩ := am_ltE h
    replace h7 := h7.symm
    refine x_call1 (as := [.ref 106, .int q1]) (rest := []) r86_29 rfl rfl rfl (by decide) (Nat.le_of_ble_eq_true rfl) (m47_ok h7) (Nat.le_trans (by decide) hd) (Nat.zero_le _) (Nat.zero_le _) rfl ?_
    rcases am_ifE h with ⟨c8, h⟩ | ⟨c8, h⟩
    · refine x_ifneT r86_32 c8 rfl ?_
      refine x_ic (v := 0) r86_35 rfl rfl ?_
      cases h
      exact x_ret (ret := some .int) (C := True) (v := some (.int _)) r86_36 rt86 rfl rfl rfl rfl rfl rfl rfl rfl trivial hQ
    · refine x_ifneF r86_32 c8 ?_
      refine x_ld (v := .ref 106) r86_37 rfl rfl rfl ?_
      obtain ⟨q9, h10, h⟩ := Option.bind_eq_some_iff.mp h
      refine x_call0 (as := [.ref 106]) (rest := []) r86_38 rfl rfl rfl (by decide) (Nat.le_of_ble_eq_true rfl) (m76_ok h10) (Nat.le_trans (by decide) hd) (Nat.zero_le _) (Nat.zero_le _) rfl ?_
      refine x_ld (v := .ref 106) r86_41 rfl rfl rfl ?_
      refine x_ld (v := .int v1) r86_42 rfl rfl rfl ?_
      obtain ⟨q11, h12, h⟩ := am_ltE h
      replace h12 := h12.symm
      refine x_call1 (as := [.ref 106, .int v1]) (rest := []) r86_43 rfl rfl rfl (by decide) (Nat.le_of_ble_eq_true rfl) (m73_ok h12) (Nat.le_trans (by decide) hd) (Nat.zero_le _) (Nat.zero_le _) rfl ?_
      cases h
      exact x_ret (ret := some .int) (C := True) (v := some (.int _)) r86_46 rt86 rfl rfl rfl rfl rfl rfl rfl rfl trivial hQ
  rcases am_ifE h3 with ⟨c4, h3⟩ | ⟨c4, h3⟩
  · refine x_ifneT r86_7 c4 rfl ?_
    refine x_ic (v := 1) r86_10 rfl rfl ?_
    refine x_goto r86_11 ?_
    subst h3
    exact kj2
  · refine x_ifneF r86_7 c4 ?_
    refine x_ld (v := .ref 106) r86_14 rfl rfl rfl ?_
    refine y_gf (cd := 109) (v := .ref 107) r86_15 rfl rfl rfl ?_
    refine x_ic (v := 0) r86_18 rfl rfl ?_
    refine y_ial (n := 1320) r86_19 rfl (by decide) (by decide) (e := 0) (by decide) rfl ?_
    refine x_ic (v := 1) r86_20 rfl rfl ?_
    rcases am_ifE h3 with ⟨c5, h3⟩ | ⟨c5, h3⟩
    · refine x_iceqT r86_21 c5 ?_
      refine x_ic (v := 0) r86_28 rfl rfl ?_
      subst h3
      exact kj2
    · refine x_iceqF r86_21 c5 rfl ?_
      refine x_ic (v := 2) r86_24 rfl rfl ?_
      refine x_goto r86_25 ?_
      subst h3
      exact kj2
theorem m86_ok {N : Nat} {D : am_D} {v1 : Int32} {r : Int32 × am_D} (h : m86 N D v1 = some r) : am_Y xs L 86 3 0 0 [.ref 106, .int v1] D (.inl (some (.int r.1))) r.2 := am_Yof (mi := am_m86) (lc := [.ref 106, .int v1]) pg86 (Nat.le_of_ble_eq_true rfl) (am_rc1 (ci := 8) rfl rfl rfl rfl rfl) rfl (fun Q hQ => m86_w (Nat.le_refl _) h hQ)
theorem r87_0 : am_at 87 0 = some (.aload_n 0, 1, [0]) := by decide +kernel
theorem r87_1 : am_at 87 1 = some (.iload_n 1, 1, [1]) := by decide +kernel
theorem r87_2 : am_at 87 2 = some (.iconst (1), 1, []) := by decide +kernel
theorem r87_3 : am_at 87 3 = some (.bipush (99), 2, []) := by decide +kernel
theorem r87_5 : am_at 87 5 = some (.invokestatic 65, 3, [46, 3, 1305, 0]) := by decide +kernel
theorem r87_8 : am_at 87 8 = some (.ifCond .ne (7), 3, [15]) := by decide +kernel
theorem r87_11 : am_at 87 11 = some (.iconst (1), 1, []) := by decide +kernel
theorem r87_12 : am_at 87 12 = some (.goto (18), 3, [30]) := by decide +kernel
theorem r87_15 : am_at 87 15 = some (.aload_n 0, 1, [0]) := by decide +kernel
theorem r87_16 : am_at 87 16 = some (.getfield 7, 3, [8, 1, 3, 1216]) := by decide +kernel
theorem r87_19 : am_at 87 19 = some (.iconst (0), 1, []) := by decide +kernel
theorem r87_20 : am_at 87 20 = some (.iaload, 1, []) := by decide +kernel
theorem r87_21 : am_at 87 21 = some (.iconst (1), 1, []) := by decide +kernel
theorem r87_22 : am_at 87 22 = some (.if_icmp .eq (7), 3, [29]) := by decide +kernel
theorem r87_25 : am_at 87 25 = some (.iconst (2), 1, []) := by decide +kernel
theorem r87_26 : am_at 87 26 = some (.goto (4), 3, [30]) := by decide +kernel
theorem r87_29 : am_at 87 29 = some (.iconst (0), 1, []) := by decide +kernel
theorem r87_30 : am_at 87 30 = some (.invokevirtual 142, 3, [47, 2, 1323, 0]) := by decide +kernel
theorem r87_33 : am_at 87 33 = some (.ifCond .ne (5), 3, [38]) := by decide +kernel
theorem r87_36 : am_at 87 36 = some (.iconst (0), 1, []) := by decide +kernel
theorem r87_37 : am_at 87 37 = some (.ireturn, 1, []) := by decide +kernel
theorem r87_38 : am_at 87 38 = some (.aload_n 0, 1, [0]) := by decide +kernel
theorem r87_39 : am_at 87 39 = some (.invokevirtual 145, 3, [76, 1, 1327, 0]) := by decide +kernel
theorem r87_42 : am_at 87 42 = some (.aload_n 0, 1, [0]) := by decide +kernel
theorem r87_43 : am_at 87 43 = some (.iload_n 1, 1, [1]) := by decide +kernel
theorem r87_44 : am_at 87 44 = some (.invokevirtual 173, 3, [74, 2, 1453, 0]) := by decide +kernel
theorem r87_47 : am_at 87 47 = some (.ireturn, 1, []) := by decide +kernel
theorem rt87 : am_rtt 87 = some (some .int) := by decide +kernel
set_option maxRecDepth 100000 in
theorem pg87 : am_pg[87]? = some am_m87 := rfl
theorem m87_w {d mc ms : Nat} {N : Nat} {D : am_D} {v1 : Int32} {Q : am_O → am_AH → Prop} (hd : 3 ≤ d) {r : Int32 × am_D} (h : m87 N D v1 = some r) (hQ : Q (.inl (some (.int r.1))) (am_mk r.2)) : am_X xs L 87 d mc ms 0 [.ref 106, .int v1] [] (am_mk D) 0 0 Q := by
  unfold m87 at h
  refine x_ld (v := .ref 106) r87_0 rfl rfl rfl ?_
  refine x_ld (v := .int v1) r87_1 rfl rfl rfl ?_
  refine x_ic (v := 1) r87_2 rfl rfl ?_
  refine x_bi (v := 99) r87_3 rfl rfl ?_
  refine x_call1 (as := [.int v1, .int (1 : Int32), .int (99 : Int32)]) (rest := [.ref 106]) r87_5 rfl rfl rfl (by decide) (Nat.le_of_ble_eq_true rfl) (m46_ok rfl) (Nat.le_trans (by decide) hd) (Nat.zero_le _) (Nat.zero_le _) rfl ?_
  obtain ⟨q1, h3, h⟩ := am_ltE h
  replace h3 := h3.symm
  have kj2 : am_X xs L 87 d mc ms 30 [.ref 106, .int v1] [.int q1, .ref 106] (am_mk D) 0 0 Q := by
    obtain ⟨q6, h7, h⟩ := am_ltE h
    replace h7 := h7.symm
    refine x_call1 (as := [.ref 106, .int q1]) (rest := []) r87_30 rfl rfl rfl (by decide) (Nat.le_of_ble_eq_true rfl) (m47_ok h7) (Nat.le_trans (by decide) hd) (Nat.zero_le _) (Nat.zero_le _) rfl ?_
    rcases am_ifE h with ⟨c8, h⟩ | ⟨c8, h⟩
    · refine x_ifneT r87_33 c8 rfl ?_
      refine x_ic (v := 0) r87_36 rfl rfl ?_
      cases h
      exact x_ret (ret := some .int) (C := True) (v := some (.int _)) r87_37 rt87 rfl rfl rfl rfl rfl rfl rfl rfl trivial hQ
    · refine x_ifneF r87_33 c8 ?_
      refine x_ld (v := .ref 106) r87_38 rfl rfl rfl ?_
      obtain ⟨q9, h10, h⟩ := Option.bind_eq_some_iff.mp h
      refine x_call0 (as := [.ref 106]) (rest := []) r87_39 rfl rfl rfl (by decide) (Nat.le_of_ble_eq_true rfl) (m76_ok h10) (Nat.le_trans (by decide) hd) (Nat.zero_le _) (Nat.zero_le _) rfl ?_
      refine x_ld (v := .ref 106) r87_42 rfl rfl rfl ?_
      refine x_ld (v := .int v1) r87_43 rfl rfl rfl ?_
      obtain ⟨q11, h12, h⟩ := Option.bind_eq_some_iff.mp h
      refine x_call1 (as := [.ref 106, .int v1]) (rest := []) r87_44 rfl rfl rfl (by decide) (Nat.le_of_ble_eq_true rfl) (m74_ok h12) (Nat.le_trans (by decide) hd) (Nat.zero_le _) (Nat.zero_le _) rfl ?_
      cases h
      exact x_ret (ret := some .int) (C := True) (v := some (.int _)) r87_47 rt87 rfl rfl rfl rfl rfl rfl rfl rfl trivial hQ
  rcases am_ifE h3 with ⟨c4, h3⟩ | ⟨c4, h3⟩
  · refine x_ifneT r87_8 c4 rfl ?_
    refine x_ic (v := 1) r87_11 rfl rfl ?_
    refine x_goto r87_12 ?_
    subst h3
    exact kj2
  · refine x_ifneF r87_8 c4 ?_
    refine x_ld (v := .ref 106) r87_15 rfl rfl rfl ?_
    refine y_gf (cd := 109) (v := .ref 107) r87_16 rfl rfl rfl ?_
    refine x_ic (v := 0) r87_19 rfl rfl ?_
    refine y_ial (n := 1320) r87_20 rfl (by decide) (by decide) (e := 0) (by decide) rfl ?_
    refine x_ic (v := 1) r87_21 rfl rfl ?_
    rcases am_ifE h3 with ⟨c5, h3⟩ | ⟨c5, h3⟩
    · refine x_iceqT r87_22 c5 ?_
      refine x_ic (v := 0) r87_29 rfl rfl ?_
      subst h3
      exact kj2
    · refine x_iceqF r87_22 c5 rfl ?_
      refine x_ic (v := 2) r87_25 rfl rfl ?_
      refine x_goto r87_26 ?_
      subst h3
      exact kj2
theorem m87_ok {N : Nat} {D : am_D} {v1 : Int32} {r : Int32 × am_D} (h : m87 N D v1 = some r) : am_Y xs L 87 3 0 0 [.ref 106, .int v1] D (.inl (some (.int r.1))) r.2 := am_Yof (mi := am_m87) (lc := [.ref 106, .int v1]) pg87 (Nat.le_of_ble_eq_true rfl) (am_rc1 (ci := 8) rfl rfl rfl rfl rfl) rfl (fun Q hQ => m87_w (Nat.le_refl _) h hQ)
theorem r88_0 : am_at 88 0 = some (.aload_n 0, 1, [0]) := by decide +kernel
theorem r88_1 : am_at 88 1 = some (.iload_n 1, 1, [1]) := by decide +kernel
theorem r88_2 : am_at 88 2 = some (.iconst (1), 1, []) := by decide +kernel
theorem r88_3 : am_at 88 3 = some (.bipush (60), 2, []) := by decide +kernel
theorem r88_5 : am_at 88 5 = some (.invokestatic 65, 3, [46, 3, 1305, 0]) := by decide +kernel
theorem r88_8 : am_at 88 8 = some (.ifCond .eq (7), 3, [15]) := by decide +kernel
theorem r88_11 : am_at 88 11 = some (.iconst (0), 1, []) := by decide +kernel
theorem r88_12 : am_at 88 12 = some (.goto (4), 3, [16]) := by decide +kernel
theorem r88_15 : am_at 88 15 = some (.iconst (1), 1, []) := by decide +kernel
theorem r88_16 : am_at 88 16 = some (.invokevirtual 142, 3, [47, 2, 1323, 0]) := by decide +kernel
theorem r88_19 : am_at 88 19 = some (.ifCond .ne (5), 3, [24]) := by decide +kernel
theorem r88_22 : am_at 88 22 = some (.iconst (0), 1, []) := by decide +kernel
theorem r88_23 : am_at 88 23 = some (.ireturn, 1, []) := by decide +kernel
theorem r88_24 : am_at 88 24 = some (.aload_n 0, 1, [0]) := by decide +kernel
theorem r88_25 : am_at 88 25 = some (.invokevirtual 145, 3, [76, 1, 1327, 0]) := by decide +kernel
theorem r88_28 : am_at 88 28 = some (.aload_n 0, 1, [0]) := by decide +kernel
theorem r88_29 : am_at 88 29 = some (.getfield 7, 3, [8, 1, 3, 1216]) := by decide +kernel
theorem r88_32 : am_at 88 32 = some (.iconst (3), 1, []) := by decide +kernel
theorem r88_33 : am_at 88 33 = some (.iaload, 1, []) := by decide +kernel
theorem r88_34 : am_at 88 34 = some (.istore_n 2, 1, [2]) := by decide +kernel
theorem r88_35 : am_at 88 35 = some (.aload_n 0, 1, [0]) := by decide +kernel
theorem r88_36 : am_at 88 36 = some (.getfield 7, 3, [8, 1, 3, 1216]) := by decide +kernel
theorem r88_39 : am_at 88 39 = some (.iconst (3), 1, []) := by decide +kernel
theorem r88_40 : am_at 88 40 = some (.iload_n 1, 1, [1]) := by decide +kernel
theorem r88_41 : am_at 88 41 = some (.iastore, 1, []) := by decide +kernel
theorem r88_42 : am_at 88 42 = some (.iload_n 2, 1, [2]) := by decide +kernel
theorem r88_43 : am_at 88 43 = some (.ireturn, 1, []) := by decide +kernel
theorem rt88 : am_rtt 88 = some (some .int) := by decide +kernel
set_option maxRecDepth 100000 in
theorem pg88 : am_pg[88]? = some am_m88 := rfl
theorem m88_w {d mc ms : Nat} {N : Nat} {D : am_D} {v1 : Int32} {Q : am_O → am_AH → Prop} (hd : 3 ≤ d) {r : Int32 × am_D} (h : m88 N D v1 = some r) (hQ : Q (.inl (some (.int r.1))) (am_mk r.2)) : am_X xs L 88 d mc ms 0 [.ref 106, .int v1, am_dead] [] (am_mk D) 0 0 Q := by
  unfold m88 at h
  refine x_ld (v := .ref 106) r88_0 rfl rfl rfl ?_
  refine x_ld (v := .int v1) r88_1 rfl rfl rfl ?_
  refine x_ic (v := 1) r88_2 rfl rfl ?_
  refine x_bi (v := 60) r88_3 rfl rfl ?_
  refine x_call1 (as := [.int v1, .int (1 : Int32), .int (60 : Int32)]) (rest := [.ref 106]) r88_5 rfl rfl rfl (by decide) (Nat.le_of_ble_eq_true rfl) (m46_ok rfl) (Nat.le_trans (by decide) hd) (Nat.zero_le _) (Nat.zero_le _) rfl ?_
  obtain ⟨q1, h3, h⟩ := am_ltE h
  replace h3 := h3.symm
  have kj2 : am_X xs L 88 d mc ms 16 [.ref 106, .int v1, am_dead] [.int q1, .ref 106] (am_mk D) 0 0 Q := by
    obtain ⟨q5, h6, h⟩ := am_ltE h
    replace h6 := h6.symm
    refine x_call1 (as := [.ref 106, .int q1]) (rest := []) r88_16 rfl rfl rfl (by decide) (Nat.le_of_ble_eq_true rfl) (m47_ok h6) (Nat.le_trans (by decide) hd) (Nat.zero_le _) (Nat.zero_le _) rfl ?_
    rcases am_ifE h with ⟨c7, h⟩ | ⟨c7, h⟩
    · refine x_ifneT r88_19 c7 rfl ?_
      refine x_ic (v := 0) r88_22 rfl rfl ?_
      cases h
      exact x_ret (ret := some .int) (C := True) (v := some (.int _)) r88_23 rt88 rfl rfl rfl rfl rfl rfl rfl rfl trivial hQ
    · refine x_ifneF r88_19 c7 ?_
      refine x_ld (v := .ref 106) r88_24 rfl rfl rfl ?_
      obtain ⟨q8, h9, h⟩ := Option.bind_eq_some_iff.mp h
      refine x_call0 (as := [.ref 106]) (rest := []) r88_25 rfl rfl rfl (by decide) (Nat.le_of_ble_eq_true rfl) (m76_ok h9) (Nat.le_trans (by decide) hd) (Nat.zero_le _) (Nat.zero_le _) rfl ?_
      refine x_ld (v := .ref 106) r88_28 rfl rfl rfl ?_
      refine y_gf (cd := 109) (v := .ref 107) r88_29 rfl rfl rfl ?_
      refine x_ic (v := 3) r88_32 rfl rfl ?_
      refine y_ial (n := 1320) r88_33 rfl (by decide) (by decide) (e := 3) (by decide) rfl ?_
      obtain ⟨x10, e11, h⟩ := am_ltE h
      refine am_topI e11 ?_
      refine x_sto (lc' := [.ref 106, .int v1, .int x10]) r88_34 rfl rfl rfl rfl ?_
      refine x_ld (v := .ref 106) r88_35 rfl rfl rfl ?_
      refine y_gf (cd := 109) (v := .ref 107) r88_36 rfl rfl rfl ?_
      refine x_ic (v := 3) r88_39 rfl rfl ?_
      refine x_ld (v := .int v1) r88_40 rfl rfl rfl ?_
      obtain ⟨D12, e13, h⟩ := am_ltE h
      refine y_ias (n := 1320) r88_41 rfl (by decide) (by decide) (e := 3) (by decide) e13 rfl ?_
      refine x_ld (v := .int x10) r88_42 rfl rfl rfl ?_
      cases h
      exact x_ret (ret := some .int) (C := True) (v := some (.int _)) r88_43 rt88 rfl rfl rfl rfl rfl rfl rfl rfl trivial hQ
  rcases am_ifE h3 with ⟨c4, h3⟩ | ⟨c4, h3⟩
  · refine x_ifeqT r88_8 c4 ?_
    refine x_ic (v := 1) r88_15 rfl rfl ?_
    subst h3
    exact kj2
  · refine x_ifeqF r88_8 c4 rfl ?_
    refine x_ic (v := 0) r88_11 rfl rfl ?_
    refine x_goto r88_12 ?_
    subst h3
    exact kj2
theorem m88_ok {N : Nat} {D : am_D} {v1 : Int32} {r : Int32 × am_D} (h : m88 N D v1 = some r) : am_Y xs L 88 3 0 0 [.ref 106, .int v1] D (.inl (some (.int r.1))) r.2 := am_Yof (mi := am_m88) (lc := [.ref 106, .int v1, am_dead]) pg88 (Nat.le_of_ble_eq_true rfl) (am_rc1 (ci := 8) rfl rfl rfl rfl rfl) rfl (fun Q hQ => m88_w (Nat.le_refl _) h hQ)
theorem r89_0 : am_at 89 0 = some (.aload_n 0, 1, [0]) := by decide +kernel
theorem r89_1 : am_at 89 1 = some (.iload_n 1, 1, [1]) := by decide +kernel
theorem r89_2 : am_at 89 2 = some (.bipush (33), 2, []) := by decide +kernel
theorem r89_4 : am_at 89 4 = some (.bipush (126), 2, []) := by decide +kernel
theorem r89_6 : am_at 89 6 = some (.invokestatic 65, 3, [46, 3, 1305, 0]) := by decide +kernel
theorem r89_9 : am_at 89 9 = some (.ifCond .ne (7), 3, [16]) := by decide +kernel
theorem r89_12 : am_at 89 12 = some (.iconst (1), 1, []) := by decide +kernel
theorem r89_13 : am_at 89 13 = some (.goto (17), 3, [30]) := by decide +kernel
theorem r89_16 : am_at 89 16 = some (.aload_n 0, 1, [0]) := by decide +kernel
theorem r89_17 : am_at 89 17 = some (.getfield 176, 3, [8, 5, 0, 1220]) := by decide +kernel
theorem r89_20 : am_at 89 20 = some (.bipush (60), 2, []) := by decide +kernel
theorem r89_22 : am_at 89 22 = some (.if_icmp .ne (7), 3, [29]) := by decide +kernel
theorem r89_25 : am_at 89 25 = some (.iconst (2), 1, []) := by decide +kernel
theorem r89_26 : am_at 89 26 = some (.goto (4), 3, [30]) := by decide +kernel
theorem r89_29 : am_at 89 29 = some (.iconst (0), 1, []) := by decide +kernel
theorem r89_30 : am_at 89 30 = some (.invokevirtual 142, 3, [47, 2, 1323, 0]) := by decide +kernel
theorem r89_33 : am_at 89 33 = some (.ifCond .ne (5), 3, [38]) := by decide +kernel
theorem r89_36 : am_at 89 36 = some (.iconst (0), 1, []) := by decide +kernel
theorem r89_37 : am_at 89 37 = some (.ireturn, 1, []) := by decide +kernel
theorem r89_38 : am_at 89 38 = some (.aload_n 0, 1, [0]) := by decide +kernel
theorem r89_39 : am_at 89 39 = some (.getfield 13, 3, [8, 4, 3, 1219]) := by decide +kernel
theorem r89_42 : am_at 89 42 = some (.aload_n 0, 1, [0]) := by decide +kernel
theorem r89_43 : am_at 89 43 = some (.getfield 176, 3, [8, 5, 0, 1220]) := by decide +kernel
theorem r89_46 : am_at 89 46 = some (.iload_n 1, 1, [1]) := by decide +kernel
theorem r89_47 : am_at 89 47 = some (.iastore, 1, []) := by decide +kernel
theorem r89_48 : am_at 89 48 = some (.aload_n 0, 1, [0]) := by decide +kernel
theorem r89_49 : am_at 89 49 = some (.dup, 1, []) := by decide +kernel
theorem r89_50 : am_at 89 50 = some (.getfield 176, 3, [8, 5, 0, 1220]) := by decide +kernel
theorem r89_53 : am_at 89 53 = some (.iconst (1), 1, []) := by decide +kernel
theorem r89_54 : am_at 89 54 = some (.iadd, 1, []) := by decide +kernel
theorem r89_55 : am_at 89 55 = some (.putfield 176, 3, [8, 5, 0, 1220]) := by decide +kernel
theorem r89_58 : am_at 89 58 = some (.aload_n 0, 1, [0]) := by decide +kernel
theorem r89_59 : am_at 89 59 = some (.getfield 176, 3, [8, 5, 0, 1220]) := by decide +kernel
theorem r89_62 : am_at 89 62 = some (.ireturn, 1, []) := by decide +kernel
theorem rt89 : am_rtt 89 = some (some .int) := by decide +kernel
set_option maxRecDepth 100000 in
theorem pg89 : am_pg[89]? = some am_m89 := rfl
theorem m89_w {d mc ms : Nat} {D : am_D} {v1 : Int32} {Q : am_O → am_AH → Prop} (hd : 2 ≤ d) {r : Int32 × am_D} (h : m89 D v1 = some r) (hQ : Q (.inl (some (.int r.1))) (am_mk r.2)) : am_X xs L 89 d mc ms 0 [.ref 106, .int v1] [] (am_mk D) 0 0 Q := by
  unfold m89 at h
  refine x_ld (v := .ref 106) r89_0 rfl rfl rfl ?_
  refine x_ld (v := .int v1) r89_1 rfl rfl rfl ?_
  refine x_bi (v := 33) r89_2 rfl rfl ?_
  refine x_bi (v := 126) r89_4 rfl rfl ?_
  refine x_call1 (as := [.int v1, .int (33 : Int32), .int (126 : Int32)]) (rest := [.ref 106]) r89_6 rfl rfl rfl (by decide) (Nat.le_of_ble_eq_true rfl) (m46_ok rfl) (Nat.le_trans (by decide) hd) (Nat.zero_le _) (Nat.zero_le _) rfl ?_
  obtain ⟨q1, h3, h⟩ := am_ltE h
  replace h3 := h3.symm
  have kj2 : am_X xs L 89 d mc ms 30 [.ref 106, .int v1] [.int q1, .ref 106] (am_mk D) 0 0 Q := by
    obtain ⟨q6, h7, h⟩ := am_ltE h
    replace h7 := h7.symm
    refine x_call1 (as := [.ref 106, .int q1]) (rest := []) r89_30 rfl rfl rfl (by decide) (Nat.le_of_ble_eq_true rfl) (m47_ok h7) (Nat.le_trans (by decide) hd) (Nat.zero_le _) (Nat.zero_le _) rfl ?_
    rcases am_ifE h with ⟨c8, h⟩ | ⟨c8, h⟩
    · refine x_ifneT r89_33 c8 rfl ?_
      refine x_ic (v := 0) r89_36 rfl rfl ?_
      cases h
      exact x_ret (ret := some .int) (C := True) (v := some (.int _)) r89_37 rt89 rfl rfl rfl rfl rfl rfl rfl rfl trivial hQ
    · refine x_ifneF r89_33 c8 ?_
      refine x_ld (v := .ref 106) r89_38 rfl rfl rfl ?_
      refine y_gf (cd := 110) (v := .ref 108) r89_39 rfl rfl rfl ?_
      refine x_ld (v := .ref 106) r89_42 rfl rfl rfl ?_
      refine y_gf (cd := 0) (v := .int (q6.2.1 106 5)) r89_43 rfl rfl rfl ?_
      refine x_ld (v := .int v1) r89_46 rfl rfl rfl ?_
      obtain ⟨g11, h⟩ := am_gdE h
      obtain ⟨D9, e10, h⟩ := am_ltE h
      refine y_ias (n := 60) r89_47 rfl (by decide) g11 rfl e10 rfl ?_
      refine x_ld (v := .ref 106) r89_48 rfl rfl rfl ?_
      refine x_ar r89_49 rfl trivial rfl ?_
      refine y_gf (cd := 0) (v := .int (D9.1 106 5)) r89_50 rfl rfl rfl ?_
      refine x_ic (v := 1) r89_53 rfl rfl ?_
      refine x_ar r89_54 rfl trivial rfl ?_
      obtain ⟨D12, e13, h⟩ := am_ltE h
      refine y_pf0 r89_55 rfl e13 rfl ?_
      refine x_ld (v := .ref 106) r89_58 rfl rfl rfl ?_
      refine y_gf (cd := 0) (v := .int (D12.1 106 5)) r89_59 rfl rfl rfl ?_
      cases h
      exact x_ret (ret := some .int) (C := True) (v := some (.int _)) r89_62 rt89 rfl rfl rfl rfl rfl rfl rfl rfl trivial hQ
  rcases am_ifE h3 with ⟨c4, h3⟩ | ⟨c4, h3⟩
  · refine x_ifneT r89_9 c4 rfl ?_
    refine x_ic (v := 1) r89_12 rfl rfl ?_
    refine x_goto r89_13 ?_
    subst h3
    exact kj2
  · refine x_ifneF r89_9 c4 ?_
    refine x_ld (v := .ref 106) r89_16 rfl rfl rfl ?_
    refine y_gf (cd := 0) (v := .int (D.1 106 5)) r89_17 rfl rfl rfl ?_
    refine x_bi (v := 60) r89_20 rfl rfl ?_
    rcases am_ifE h3 with ⟨c5, h3⟩ | ⟨c5, h3⟩
    · refine x_icneT r89_22 c5 rfl ?_
      refine x_ic (v := 2) r89_25 rfl rfl ?_
      refine x_goto r89_26 ?_
      subst h3
      exact kj2
    · refine x_icneF r89_22 c5 ?_
      refine x_ic (v := 0) r89_29 rfl rfl ?_
      subst h3
      exact kj2
theorem m89_ok {D : am_D} {v1 : Int32} {r : Int32 × am_D} (h : m89 D v1 = some r) : am_Y xs L 89 2 0 0 [.ref 106, .int v1] D (.inl (some (.int r.1))) r.2 := am_Yof (mi := am_m89) (lc := [.ref 106, .int v1]) pg89 (Nat.le_of_ble_eq_true rfl) (am_rc1 (ci := 8) rfl rfl rfl rfl rfl) rfl (fun Q hQ => m89_w (Nat.le_refl _) h hQ)
theorem r90_0 : am_at 90 0 = some (.aload_n 0, 1, [0]) := by decide +kernel
theorem r90_1 : am_at 90 1 = some (.iconst (0), 1, []) := by decide +kernel
theorem r90_2 : am_at 90 2 = some (.putfield 61, 3, [8, 0, 0, 1215]) := by decide +kernel
theorem r90_5 : am_at 90 5 = some (.aload_n 0, 1, [0]) := by decide +kernel
theorem r90_6 : am_at 90 6 = some (.getfield 176, 3, [8, 5, 0, 1220]) := by decide +kernel
theorem r90_9 : am_at 90 9 = some (.istore_n 1, 1, [1]) := by decide +kernel
theorem r90_10 : am_at 90 10 = some (.aload_n 0, 1, [0]) := by decide +kernel
theorem r90_11 : am_at 90 11 = some (.iconst (0), 1, []) := by decide +kernel
theorem r90_12 : am_at 90 12 = some (.putfield 176, 3, [8, 5, 0, 1220]) := by decide +kernel
theorem r90_15 : am_at 90 15 = some (.iload_n 1, 1, [1]) := by decide +kernel
theorem r90_16 : am_at 90 16 = some (.ireturn, 1, []) := by decide +kernel
theorem rt90 : am_rtt 90 = some (some .int) := by decide +kernel
set_option maxRecDepth 100000 in
theorem pg90 : am_pg[90]? = some am_m90 := rfl
theorem m90_w {d mc ms : Nat} {D : am_D} {Q : am_O → am_AH → Prop} (hd : 1 ≤ d) {r : Int32 × am_D} (h : m90 D = r) (hQ : Q (.inl (some (.int r.1))) (am_mk r.2)) : am_X xs L 90 d mc ms 0 [.ref 106, am_dead] [] (am_mk D) 0 0 Q := by
  unfold m90 at h
  refine x_ld (v := .ref 106) r90_0 rfl rfl rfl ?_
  refine x_ic (v := 0) r90_1 rfl rfl ?_
  obtain ⟨D1, e2, h⟩ := am_ltE h
  refine y_pf0 r90_2 rfl e2 rfl ?_
  refine x_ld (v := .ref 106) r90_5 rfl rfl rfl ?_
  refine y_gf (cd := 0) (v := .int (D1.1 106 5)) r90_6 rfl rfl rfl ?_
  obtain ⟨x3, e4, h⟩ := am_ltE h
  refine am_topI e4 ?_
  refine x_sto (lc' := [.ref 106, .int x3]) r90_9 rfl rfl rfl rfl ?_
  refine x_ld (v := .ref 106) r90_10 rfl rfl rfl ?_
  refine x_ic (v := 0) r90_11 rfl rfl ?_
  obtain ⟨D5, e6, h⟩ := am_ltE h
  refine y_pf0 r90_12 rfl e6 rfl ?_
  refine x_ld (v := .int x3) r90_15 rfl rfl rfl ?_
  subst h
  exact x_ret (ret := some .int) (C := True) (v := some (.int _)) r90_16 rt90 rfl rfl rfl rfl rfl rfl rfl rfl trivial hQ
theorem m90_ok {D : am_D} {r : Int32 × am_D} (h : m90 D = r) : am_Y xs L 90 1 0 0 [.ref 106] D (.inl (some (.int r.1))) r.2 := am_Yof (mi := am_m90) (lc := [.ref 106, am_dead]) pg90 (Nat.le_of_ble_eq_true rfl) (am_rc1 (ci := 8) rfl rfl rfl rfl rfl) rfl (fun Q hQ => m90_w (Nat.le_refl _) h hQ)
theorem r91_0 : am_at 91 0 = some (.aload_n 0, 1, [0]) := by decide +kernel
theorem r91_1 : am_at 91 1 = some (.getfield 179, 3, [8, 6, 0, 1221]) := by decide +kernel
theorem r91_4 : am_at 91 4 = some (.aload_n 0, 1, [0]) := by decide +kernel
theorem r91_5 : am_at 91 5 = some (.getfield 176, 3, [8, 5, 0, 1220]) := by decide +kernel
theorem r91_8 : am_at 91 8 = some (.if_icmp .ge (15), 3, [23]) := by decide +kernel
theorem r91_11 : am_at 91 11 = some (.aload_n 0, 1, [0]) := by decide +kernel
theorem r91_12 : am_at 91 12 = some (.getfield 13, 3, [8, 4, 3, 1219]) := by decide +kernel
theorem r91_15 : am_at 91 15 = some (.aload_n 0, 1, [0]) := by decide +kernel
theorem r91_16 : am_at 91 16 = some (.getfield 179, 3, [8, 6, 0, 1221]) := by decide +kernel
theorem r91_19 : am_at 91 19 = some (.iaload, 1, []) := by decide +kernel
theorem r91_20 : am_at 91 20 = some (.goto (4), 3, [24]) := by decide +kernel
theorem r91_23 : am_at 91 23 = some (.iconst (0), 1, []) := by decide +kernel
theorem r91_24 : am_at 91 24 = some (.ireturn, 1, []) := by decide +kernel
theorem rt91 : am_rtt 91 = some (some .int) := by decide +kernel
set_option maxRecDepth 100000 in
theorem pg91 : am_pg[91]? = some am_m91 := rfl
theorem m91_w {d mc ms : Nat} {D : am_D} {Q : am_O → am_AH → Prop} (hd : 1 ≤ d) {r : Int32} (h : m91 D = some r) (hQ : Q (.inl (some (.int r))) (am_mk D)) : am_X xs L 91 d mc ms 0 [.ref 106] [] (am_mk D) 0 0 Q := by
  unfold m91 at h
  refine x_ld (v := .ref 106) r91_0 rfl rfl rfl ?_
  refine y_gf (cd := 0) (v := .int (D.1 106 6)) r91_1 rfl rfl rfl ?_
  refine x_ld (v := .ref 106) r91_4 rfl rfl rfl ?_
  refine y_gf (cd := 0) (v := .int (D.1 106 5)) r91_5 rfl rfl rfl ?_
  rcases am_ifE h with ⟨c1, h⟩ | ⟨c1, h⟩
  · refine x_icgeT r91_8 c1 ?_
    refine x_ic (v := 0) r91_23 rfl rfl ?_
    cases h
    exact x_ret (ret := some .int) (C := True) (v := some (.int _)) r91_24 rt91 rfl rfl rfl rfl rfl rfl rfl rfl trivial hQ
  · refine x_icgeF r91_8 c1 rfl ?_
    refine x_ld (v := .ref 106) r91_11 rfl rfl rfl ?_
    refine y_gf (cd := 110) (v := .ref 108) r91_12 rfl rfl rfl ?_
    refine x_ld (v := .ref 106) r91_15 rfl rfl rfl ?_
    refine y_gf (cd := 0) (v := .int (D.1 106 6)) r91_16 rfl rfl rfl ?_
    obtain ⟨g2, h⟩ := am_gdE h
    refine y_ial (n := 60) r91_19 rfl (by decide) g2 rfl rfl ?_
    refine x_goto r91_20 ?_
    cases h
    exact x_ret (ret := some .int) (C := True) (v := some (.int _)) r91_24 rt91 rfl rfl rfl rfl rfl rfl rfl rfl trivial hQ
theorem m91_ok {D : am_D} {r : Int32} (h : m91 D = some r) : am_Y xs L 91 1 0 0 [.ref 106] D (.inl (some (.int r))) D := am_Yof (mi := am_m91) (lc := [.ref 106]) pg91 (Nat.le_of_ble_eq_true rfl) (am_rc1 (ci := 8) rfl rfl rfl rfl rfl) rfl (fun Q hQ => m91_w (Nat.le_refl _) h hQ)
theorem r92_0 : am_at 92 0 = some (.aload_n 0, 1, [0]) := by decide +kernel
theorem r92_1 : am_at 92 1 = some (.invokevirtual 182, 3, [91, 1, 1481, 0]) := by decide +kernel
theorem r92_4 : am_at 92 4 = some (.iload_n 1, 1, [1]) := by decide +kernel
theorem r92_5 : am_at 92 5 = some (.if_icmp .ne (7), 3, [12]) := by decide +kernel
theorem r92_8 : am_at 92 8 = some (.iconst (1), 1, []) := by decide +kernel
theorem r92_9 : am_at 92 9 = some (.goto (4), 3, [13]) := by decide +kernel
theorem r92_12 : am_at 92 12 = some (.iconst (0), 1, []) := by decide +kernel
theorem r92_13 : am_at 92 13 = some (.istore_n 2, 1, [2]) := by decide +kernel
theorem r92_14 : am_at 92 14 = some (.aload_n 0, 1, [0]) := by decide +kernel
theorem r92_15 : am_at 92 15 = some (.dup, 1, []) := by decide +kernel
theorem r92_16 : am_at 92 16 = some (.getfield 179, 3, [8, 6, 0, 1221]) := by decide +kernel
theorem r92_19 : am_at 92 19 = some (.iload_n 2, 1, [2]) := by decide +kernel
theorem r92_20 : am_at 92 20 = some (.ifCond .eq (7), 3, [27]) := by decide +kernel
theorem r92_23 : am_at 92 23 = some (.iconst (1), 1, []) := by decide +kernel
theorem r92_24 : am_at 92 24 = some (.goto (4), 3, [28]) := by decide +kernel
theorem r92_27 : am_at 92 27 = some (.iconst (0), 1, []) := by decide +kernel
theorem r92_28 : am_at 92 28 = some (.iadd, 1, []) := by decide +kernel
theorem r92_29 : am_at 92 29 = some (.putfield 179, 3, [8, 6, 0, 1221]) := by decide +kernel
theorem r92_32 : am_at 92 32 = some (.iload_n 2, 1, [2]) := by decide +kernel
theorem r92_33 : am_at 92 33 = some (.ireturn, 1, []) := by decide +kernel
theorem rt92 : am_rtt 92 = some (some .boolean) := by decide +kernel
set_option maxRecDepth 100000 in
theorem pg92 : am_pg[92]? = some am_m92 := rfl
theorem m92_w {d mc ms : Nat} {D : am_D} {v1 : Int32} {Q : am_O → am_AH → Prop} (hd : 2 ≤ d) {r : Int32 × am_D} (h : m92 D v1 = some r) (hQ : Q (.inl (some (.int r.1))) (am_mk r.2)) : am_X xs L 92 d mc ms 0 [.ref 106, .int v1, am_dead] [] (am_mk D) 0 0 Q := by
  unfold m92 at h
  refine x_ld (v := .ref 106) r92_0 rfl rfl rfl ?_
  obtain ⟨q1, h2, h⟩ := Option.bind_eq_some_iff.mp h
  refine x_call1 (as := [.ref 106]) (rest := []) r92_1 rfl rfl rfl (by decide) (Nat.le_of_ble_eq_true rfl) (m91_ok h2) (Nat.le_trans (by decide) hd) (Nat.zero_le _) (Nat.zero_le _) rfl ?_
  refine x_ld (v := .int v1) r92_4 rfl rfl rfl ?_
  obtain ⟨q3, h5, h⟩ := am_ltE h
  replace h5 := h5.symm
  have kj4 : am_X xs L 92 d mc ms 13 [.ref 106, .int v1, am_dead] [.int q3] (am_mk D) 0 0 Q := by
    refine x_sto (lc' := [.ref 106, .int v1, .int q3]) r92_13 rfl rfl rfl rfl ?_
    refine x_ld (v := .ref 106) r92_14 rfl rfl rfl ?_
    refine x_ar r92_15 rfl trivial rfl ?_
    refine y_gf (cd := 0) (v := .int (D.1 106 6)) r92_16 rfl rfl rfl ?_
    refine x_ld (v := .int q3) r92_19 rfl rfl rfl ?_
    obtain ⟨q7, h9, h⟩ := am_ltE h
    replace h9 := h9.symm
    have kj8 : am_X xs L 92 d mc ms 28 [.ref 106, .int v1, .int q3] [.int q7, .int (D.1 106 6), .ref 106] (am_mk D) 0 0 Q := by
      refine x_ar r92_28 rfl trivial rfl ?_
      obtain ⟨D11, e12, h⟩ := am_ltE h
      refine y_pf0 r92_29 rfl e12 rfl ?_
      refine x_ld (v := .int q3) r92_32 rfl rfl rfl ?_
      obtain ⟨g13, h⟩ := am_gdE h
      cases h
      exact x_ret (ret := some .boolean) (C := narrow .boolean (.int _) = .int _) (v := some (.int _)) r92_33 rt92 rfl rfl rfl rfl rfl rfl rfl rfl (congrArg Value.int g13) hQ
    rcases am_ifE h9 with ⟨c10, h9⟩ | ⟨c10, h9⟩
    · refine x_ifeqT r92_20 c10 ?_
      refine x_ic (v := 0) r92_27 rfl rfl ?_
      subst h9
      exact kj8
    · refine x_ifeqF r92_20 c10 rfl ?_
      refine x_ic (v := 1) r92_23 rfl rfl ?_
      refine x_goto r92_24 ?_
      subst h9
      exact kj8
  rcases am_ifE h5 with ⟨c6, h5⟩ | ⟨c6, h5⟩
  · refine x_icneT r92_5 c6 rfl ?_
    refine x_ic (v := 1) r92_8 rfl rfl ?_
    refine x_goto r92_9 ?_
    subst h5
    exact kj4
  · refine x_icneF r92_5 c6 ?_
    refine x_ic (v := 0) r92_12 rfl rfl ?_
    subst h5
    exact kj4
theorem m92_ok {D : am_D} {v1 : Int32} {r : Int32 × am_D} (h : m92 D v1 = some r) : am_Y xs L 92 2 0 0 [.ref 106, .int v1] D (.inl (some (.int r.1))) r.2 := am_Yof (mi := am_m92) (lc := [.ref 106, .int v1, am_dead]) pg92 (Nat.le_of_ble_eq_true rfl) (am_rc1 (ci := 8) rfl rfl rfl rfl rfl) rfl (fun Q hQ => m92_w (Nat.le_refl _) h hQ)
theorem r93_0 : am_at 93 0 = some (.aload_n 0, 1, [0]) := by decide +kernel
theorem r93_1 : am_at 93 1 = some (.invokevirtual 182, 3, [91, 1, 1481, 0]) := by decide +kernel
theorem r93_4 : am_at 93 4 = some (.bipush (48), 2, []) := by decide +kernel
theorem r93_6 : am_at 93 6 = some (.iload_n 1, 1, [1]) := by decide +kernel
theorem r93_7 : am_at 93 7 = some (.iadd, 1, []) := by decide +kernel
theorem r93_8 : am_at 93 8 = some (.bipush (48), 2, []) := by decide +kernel
theorem r93_10 : am_at 93 10 = some (.iload_n 2, 1, [2]) := by decide +kernel
theorem r93_11 : am_at 93 11 = some (.iadd, 1, []) := by decide +kernel
theorem r93_12 : am_at 93 12 = some (.invokestatic 65, 3, [46, 3, 1305, 0]) := by decide +kernel
theorem r93_15 : am_at 93 15 = some (.ifCond .eq (13), 3, [28]) := by decide +kernel
theorem r93_18 : am_at 93 18 = some (.aload_n 0, 1, [0]) := by decide +kernel
theorem r93_19 : am_at 93 19 = some (.invokevirtual 182, 3, [91, 1, 1481, 0]) := by decide +kernel
theorem r93_22 : am_at 93 22 = some (.bipush (48), 2, []) := by decide +kernel
theorem r93_24 : am_at 93 24 = some (.isub, 1, []) := by decide +kernel
theorem r93_25 : am_at 93 25 = some (.goto (4), 3, [29]) := by decide +kernel
theorem r93_28 : am_at 93 28 = some (.iconst (-1), 1, []) := by decide +kernel
theorem r93_29 : am_at 93 29 = some (.istore_n 3, 1, [3]) := by decide +kernel
theorem r93_30 : am_at 93 30 = some (.aload_n 0, 1, [0]) := by decide +kernel
theorem r93_31 : am_at 93 31 = some (.dup, 1, []) := by decide +kernel
theorem r93_32 : am_at 93 32 = some (.getfield 179, 3, [8, 6, 0, 1221]) := by decide +kernel
theorem r93_35 : am_at 93 35 = some (.iload_n 3, 1, [3]) := by decide +kernel
theorem r93_36 : am_at 93 36 = some (.iconst (-1), 1, []) := by decide +kernel
theorem r93_37 : am_at 93 37 = some (.if_icmp .ne (7), 3, [44]) := by decide +kernel
theorem r93_40 : am_at 93 40 = some (.iconst (0), 1, []) := by decide +kernel
theorem r93_41 : am_at 93 41 = some (.goto (4), 3, [45]) := by decide +kernel
theorem r93_44 : am_at 93 44 = some (.iconst (1), 1, []) := by decide +kernel
theorem r93_45 : am_at 93 45 = some (.iadd, 1, []) := by decide +kernel
theorem r93_46 : am_at 93 46 = some (.putfield 179, 3, [8, 6, 0, 1221]) := by decide +kernel
theorem r93_49 : am_at 93 49 = some (.iload_n 3, 1, [3]) := by decide +kernel
theorem r93_50 : am_at 93 50 = some (.ireturn, 1, []) := by decide +kernel
theorem rt93 : am_rtt 93 = some (some .int) := by decide +kernel
set_option maxRecDepth 100000 in
theorem pg93 : am_pg[93]? = some am_m93 := rfl
theorem m93_w {d mc ms : Nat} {D : am_D} {v1 : Int32} {v2 : Int32} {Q : am_O → am_AH → Prop} (hd : 2 ≤ d) {r : Int32 × am_D} (h : m93 D v1 v2 = some r) (hQ : Q (.inl (some (.int r.1))) (am_mk r.2)) : am_X xs L 93 d mc ms 0 [.ref 106, .int v1, .int v2, am_dead] [] (am_mk D) 0 0 Q := by
  unfold m93 at h
  refine x_ld (v := .ref 106) r93_0 rfl rfl rfl ?_
  obtain ⟨q1, h2, h⟩ := Option.bind_eq_some_iff.mp h
  refine x_call1 (as := [.ref 106]) (rest := []) r93_1 rfl rfl rfl (by decide) (Nat.le_of_ble_eq_true rfl) (m91_ok h2) (Nat.le_trans (by decide) hd) (Nat.zero_le _) (Nat.zero_le _) rfl ?_
  refine x_bi (v := 48) r93_4 rfl rfl ?_
  refine x_ld (v := .int v1) r93_6 rfl rfl rfl ?_
  refine x_ar r93_7 rfl trivial rfl ?_
  refine x_bi (v := 48) r93_8 rfl rfl ?_
  refine x_ld (v := .int v2) r93_10 rfl rfl rfl ?_
  refine x_ar r93_11 rfl trivial rfl ?_
  refine x_call1 (as := [.int q1, .int ((48 : Int32) + v1), .int ((48 : Int32) + v2)]) (rest := []) r93_12 rfl rfl rfl (by decide) (Nat.le_of_ble_eq_true rfl) (m46_ok rfl) (Nat.le_trans (by decide) hd) (Nat.zero_le _) (Nat.zero_le _) rfl ?_
  obtain ⟨q3, h5, h⟩ := Option.bind_eq_some_iff.mp h
  have kj4 : am_X xs L 93 d mc ms 29 [.ref 106, .int v1, .int v2, am_dead] [.int q3] (am_mk D) 0 0 Q := by
    refine x_sto (lc' := [.ref 106, .int v1, .int v2, .int q3]) r93_29 rfl rfl rfl rfl ?_
    refine x_ld (v := .ref 106) r93_30 rfl rfl rfl ?_
    refine x_ar r93_31 rfl trivial rfl ?_
    refine y_gf (cd := 0) (v := .int (D.1 106 6)) r93_32 rfl rfl rfl ?_
    refine x_ld (v := .int q3) r93_35 rfl rfl rfl ?_
    refine x_ic (v := -1) r93_36 rfl rfl ?_
    obtain ⟨q9, h11, h⟩ := am_ltE h
    replace h11 := h11.symm
    have kj10 : am_X xs L 93 d mc ms 45 [.ref 106, .int v1, .int v2, .int q3] [.int q9, .int (D.1 106 6), .ref 106] (am_mk D) 0 0 Q := by
      refine x_ar r93_45 rfl trivial rfl ?_
      obtain ⟨D13, e14, h⟩ := am_ltE h
      refine y_pf0 r93_46 rfl e14 rfl ?_
      refine x_ld (v := .int q3) r93_49 rfl rfl rfl ?_
      cases h
      exact x_ret (ret := some .int) (C := True) (v := some (.int _)) r93_50 rt93 rfl rfl rfl rfl rfl rfl rfl rfl trivial hQ
    rcases am_ifE h11 with ⟨c12, h11⟩ | ⟨c12, h11⟩
    · refine x_icneT r93_37 c12 rfl ?_
      refine x_ic (v := 0) r93_40 rfl rfl ?_
      refine x_goto r93_41 ?_
      subst h11
      exact kj10
    · refine x_icneF r93_37 c12 ?_
      refine x_ic (v := 1) r93_44 rfl rfl ?_
      subst h11
      exact kj10
  rcases am_ifE h5 with ⟨c6, h5⟩ | ⟨c6, h5⟩
  · refine x_ifeqT r93_15 c6 ?_
    refine x_ic (v := -1) r93_28 rfl rfl ?_
    cases h5
    exact kj4
  · refine x_ifeqF r93_15 c6 rfl ?_
    refine x_ld (v := .ref 106) r93_18 rfl rfl rfl ?_
    obtain ⟨q7, h8, h5⟩ := Option.bind_eq_some_iff.mp h5
    refine x_call1 (as := [.ref 106]) (rest := []) r93_19 rfl rfl rfl (by decide) (Nat.le_of_ble_eq_true rfl) (m91_ok h8) (Nat.le_trans (by decide) hd) (Nat.zero_le _) (Nat.zero_le _) rfl ?_
    refine x_bi (v := 48) r93_22 rfl rfl ?_
    refine x_ar r93_24 rfl trivial rfl ?_
    refine x_goto r93_25 ?_
    cases h5
    exact kj4
theorem m93_ok {D : am_D} {v1 : Int32} {v2 : Int32} {r : Int32 × am_D} (h : m93 D v1 v2 = some r) : am_Y xs L 93 2 0 0 [.ref 106, .int v1, .int v2] D (.inl (some (.int r.1))) r.2 := am_Yof (mi := am_m93) (lc := [.ref 106, .int v1, .int v2, am_dead]) pg93 (Nat.le_of_ble_eq_true rfl) (am_rc1 (ci := 8) rfl rfl rfl rfl rfl) rfl (fun Q hQ => m93_w (Nat.le_refl _) h hQ)
theorem r94_0 : am_at 94 0 = some (.aload_n 0, 1, [0]) := by decide +kernel
theorem r94_1 : am_at 94 1 = some (.iconst (0), 1, []) := by decide +kernel
theorem r94_2 : am_at 94 2 = some (.bipush (6), 2, []) := by decide +kernel
theorem r94_4 : am_at 94 4 = some (.invokevirtual 185, 3, [93, 3, 1493, 0]) := by decide +kernel
theorem r94_7 : am_at 94 7 = some (.istore_n 1, 1, [1]) := by decide +kernel
theorem r94_8 : am_at 94 8 = some (.iload_n 1, 1, [1]) := by decide +kernel
theorem r94_9 : am_at 94 9 = some (.iconst (-1), 1, []) := by decide +kernel
theorem r94_10 : am_at 94 10 = some (.if_icmp .ne (7), 3, [17]) := by decide +kernel
theorem r94_13 : am_at 94 13 = some (.iconst (-1), 1, []) := by decide +kernel
theorem r94_14 : am_at 94 14 = some (.goto (10), 3, [24]) := by decide +kernel
theorem r94_17 : am_at 94 17 = some (.aload_n 0, 1, [0]) := by decide +kernel
theorem r94_18 : am_at 94 18 = some (.iload_n 1, 1, [1]) := by decide +kernel
theorem r94_19 : am_at 94 19 = some (.bipush (6), 2, []) := by decide +kernel
theorem r94_21 : am_at 94 21 = some (.invokevirtual 185, 3, [93, 3, 1493, 0]) := by decide +kernel
theorem r94_24 : am_at 94 24 = some (.istore_n 2, 1, [2]) := by decide +kernel
theorem r94_25 : am_at 94 25 = some (.iload_n 2, 1, [2]) := by decide +kernel
theorem r94_26 : am_at 94 26 = some (.iconst (-1), 1, []) := by decide +kernel
theorem r94_27 : am_at 94 27 = some (.if_icmp .ne (7), 3, [34]) := by decide +kernel
theorem r94_30 : am_at 94 30 = some (.iconst (-1), 1, []) := by decide +kernel
theorem r94_31 : am_at 94 31 = some (.goto (8), 3, [39]) := by decide +kernel
theorem r94_34 : am_at 94 34 = some (.iload_n 1, 1, [1]) := by decide +kernel
theorem r94_35 : am_at 94 35 = some (.iload_n 2, 1, [2]) := by decide +kernel
theorem r94_36 : am_at 94 36 = some (.invokestatic 188, 3, [55, 2, 1501, 0]) := by decide +kernel
theorem r94_39 : am_at 94 39 = some (.ireturn, 1, []) := by decide +kernel
theorem rt94 : am_rtt 94 = some (some .int) := by decide +kernel
set_option maxRecDepth 100000 in
theorem pg94 : am_pg[94]? = some am_m94 := rfl
theorem m94_w {d mc ms : Nat} {D : am_D} {Q : am_O → am_AH → Prop} (hd : 3 ≤ d) {r : Int32 × am_D} (h : m94 D = some r) (hQ : Q (.inl (some (.int r.1))) (am_mk r.2)) : am_X xs L 94 d mc ms 0 [.ref 106, am_dead, am_dead] [] (am_mk D) 0 0 Q := by
  unfold m94 at h
  refine x_ld (v := .ref 106) r94_0 rfl rfl rfl ?_
  refine x_ic (v := 0) r94_1 rfl rfl ?_
  refine x_bi (v := 6) r94_2 rfl rfl ?_
  obtain ⟨q1, h2, h⟩ := Option.bind_eq_some_iff.mp h
  refine x_call1 (as := [.ref 106, .int (0 : Int32), .int (6 : Int32)]) (rest := []) r94_4 rfl rfl rfl (by decide) (Nat.le_of_ble_eq_true rfl) (m93_ok h2) (Nat.le_trans (by decide) hd) (Nat.zero_le _) (Nat.zero_le _) rfl ?_
  refine x_sto (lc' := [.ref 106, .int q1.1, am_dead]) r94_7 rfl rfl rfl rfl ?_
  refine x_ld (v := .int q1.1) r94_8 rfl rfl rfl ?_
  refine x_ic (v := -1) r94_9 rfl rfl ?_
  obtain ⟨q3, h5, h⟩ := Option.bind_eq_some_iff.mp h
  have kj4 : am_X xs L 94 d mc ms 24 [.ref 106, .int q1.1, am_dead] [.int q3.1] (am_mk q3.2) 0 0 Q := by
    refine x_sto (lc' := [.ref 106, .int q1.1, .int q3.1]) r94_24 rfl rfl rfl rfl ?_
    refine x_ld (v := .int q3.1) r94_25 rfl rfl rfl ?_
    refine x_ic (v := -1) r94_26 rfl rfl ?_
    rcases am_ifE h with ⟨c9, h⟩ | ⟨c9, h⟩
    · refine x_icneT r94_27 c9 rfl ?_
      refine x_ic (v := -1) r94_30 rfl rfl ?_
      refine x_goto r94_31 ?_
      cases h
      exact x_ret (ret := some .int) (C := True) (v := some (.int _)) r94_39 rt94 rfl rfl rfl rfl rfl rfl rfl rfl trivial hQ
    · refine x_icneF r94_27 c9 ?_
      refine x_ld (v := .int q1.1) r94_34 rfl rfl rfl ?_
      refine x_ld (v := .int q3.1) r94_35 rfl rfl rfl ?_
      refine x_call1 (as := [.int q1.1, .int q3.1]) (rest := []) r94_36 rfl rfl rfl (by decide) (Nat.le_of_ble_eq_true rfl) (m55_ok rfl) (Nat.le_trans (by decide) hd) (Nat.zero_le _) (Nat.zero_le _) rfl ?_
      cases h
      exact x_ret (ret := some .int) (C := True) (v := some (.int _)) r94_39 rt94 rfl rfl rfl rfl rfl rfl rfl rfl trivial hQ
  rcases am_ifE h5 with ⟨c6, h5⟩ | ⟨c6, h5⟩
  · refine x_icneT r94_10 c6 rfl ?_
    refine x_ic (v := -1) r94_13 rfl rfl ?_
    refine x_goto r94_14 ?_
    cases h5
    exact kj4
  · refine x_icneF r94_10 c6 ?_
    refine x_ld (v := .ref 106) r94_17 rfl rfl rfl ?_
    refine x_ld (v := .int q1.1) r94_18 rfl rfl rfl ?_
    refine x_bi (v := 6) r94_19 rfl rfl ?_
    obtain ⟨q7, h8, h5⟩ := Option.bind_eq_some_iff.mp h5
    refine x_call1 (as := [.ref 106, .int q1.1, .int (6 : Int32)]) (rest := []) r94_21 rfl rfl rfl (by decide) (Nat.le_of_ble_eq_true rfl) (m93_ok h8) (Nat.le_trans (by decide) hd) (Nat.zero_le _) (Nat.zero_le _) rfl ?_
    cases h5
    exact kj4
theorem m94_ok {D : am_D} {r : Int32 × am_D} (h : m94 D = some r) : am_Y xs L 94 3 0 0 [.ref 106] D (.inl (some (.int r.1))) r.2 := am_Yof (mi := am_m94) (lc := [.ref 106, am_dead, am_dead]) pg94 (Nat.le_of_ble_eq_true rfl) (am_rc1 (ci := 8) rfl rfl rfl rfl rfl) rfl (fun Q hQ => m94_w (Nat.le_refl _) h hQ)
end XE
