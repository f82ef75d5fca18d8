/-! walks (by wip/p34/tools/decomp.py): 209 211 214 220 221 226 258 2 3 18 20 21 -/
section XE
variable {xs : Nat → Int32} {L : Nat}
theorem r209_0 : am_at 209 0 = some (.aload_n 0, 1, [0]) := by decide +kernel
theorem r209_1 : am_at 209 1 = some (.getfield 12, 3, [4, 0, 3, 87]) := by decide +kernel
theorem r209_4 : am_at 209 4 = some (.iload_n 2, 1, [2]) := by decide +kernel
theorem r209_5 : am_at 209 5 = some (.iload_n 3, 1, [3]) := by decide +kernel
theorem r209_6 : am_at 209 6 = some (.invokevirtual 92, 3, [162, 3, 690, 0]) := by decide +kernel
theorem r209_9 : am_at 209 9 = some (.istore 4, 2, [4]) := by decide +kernel
theorem r209_11 : am_at 209 11 = some (.aload_n 0, 1, [0]) := by decide +kernel
theorem r209_12 : am_at 209 12 = some (.getfield 12, 3, [4, 0, 3, 87]) := by decide +kernel
theorem r209_15 : am_at 209 15 = some (.iload_n 2, 1, [2]) := by decide +kernel
theorem r209_16 : am_at 209 16 = some (.iload_n 3, 1, [3]) := by decide +kernel
theorem r209_17 : am_at 209 17 = some (.invokevirtual 96, 3, [163, 3, 691, 0]) := by decide +kernel
theorem r209_20 : am_at 209 20 = some (.istore 5, 2, [5]) := by decide +kernel
theorem r209_22 : am_at 209 22 = some (.iconst (0), 1, []) := by decide +kernel
theorem r209_23 : am_at 209 23 = some (.istore 6, 2, [6]) := by decide +kernel
theorem r209_25 : am_at 209 25 = some (.iconst (0), 1, []) := by decide +kernel
theorem r209_26 : am_at 209 26 = some (.istore 7, 2, [7]) := by decide +kernel
theorem r209_28 : am_at 209 28 = some (.iload 7, 2, [7]) := by decide +kernel
theorem r209_30 : am_at 209 30 = some (.aload_n 0, 1, [0]) := by decide +kernel
theorem r209_31 : am_at 209 31 = some (.getfield 18, 3, [4, 1, 3, 90]) := by decide +kernel
theorem r209_34 : am_at 209 34 = some (.arraylength, 1, []) := by decide +kernel
theorem r209_35 : am_at 209 35 = some (.if_icmp .ge (62), 3, [97]) := by decide +kernel
theorem r209_38 : am_at 209 38 = some (.iload 7, 2, [7]) := by decide +kernel
theorem r209_40 : am_at 209 40 = some (.iload 4, 2, [4]) := by decide +kernel
theorem r209_42 : am_at 209 42 = some (.invokestatic 99, 3, [253, 2, 695, 0]) := by decide +kernel
theorem r209_45 : am_at 209 45 = some (.ifCond .ne (13), 3, [58]) := by decide +kernel
theorem r209_48 : am_at 209 48 = some (.iload 7, 2, [7]) := by decide +kernel
theorem r209_50 : am_at 209 50 = some (.iload 5, 2, [5]) := by decide +kernel
theorem r209_52 : am_at 209 52 = some (.invokestatic 99, 3, [253, 2, 695, 0]) := by decide +kernel
theorem r209_55 : am_at 209 55 = some (.ifCond .eq (7), 3, [62]) := by decide +kernel
theorem r209_58 : am_at 209 58 = some (.iconst (1), 1, []) := by decide +kernel
theorem r209_59 : am_at 209 59 = some (.goto (4), 3, [63]) := by decide +kernel
theorem r209_62 : am_at 209 62 = some (.iconst (0), 1, []) := by decide +kernel
theorem r209_63 : am_at 209 63 = some (.istore 8, 2, [8]) := by decide +kernel
theorem r209_65 : am_at 209 65 = some (.iload 6, 2, [6]) := by decide +kernel
theorem r209_67 : am_at 209 67 = some (.aload_n 0, 1, [0]) := by decide +kernel
theorem r209_68 : am_at 209 68 = some (.getfield 18, 3, [4, 1, 3, 90]) := by decide +kernel
theorem r209_71 : am_at 209 71 = some (.iload 7, 2, [7]) := by decide +kernel
theorem r209_73 : am_at 209 73 = some (.iaload, 1, []) := by decide +kernel
theorem r209_74 : am_at 209 74 = some (.iload_n 1, 1, [1]) := by decide +kernel
theorem r209_75 : am_at 209 75 = some (.if_icmp .ne (12), 3, [87]) := by decide +kernel
theorem r209_78 : am_at 209 78 = some (.iload 8, 2, [8]) := by decide +kernel
theorem r209_80 : am_at 209 80 = some (.ifCond .eq (7), 3, [87]) := by decide +kernel
theorem r209_83 : am_at 209 83 = some (.iconst (1), 1, []) := by decide +kernel
theorem r209_84 : am_at 209 84 = some (.goto (4), 3, [88]) := by decide +kernel
theorem r209_87 : am_at 209 87 = some (.iconst (0), 1, []) := by decide +kernel
theorem r209_88 : am_at 209 88 = some (.iadd, 1, []) := by decide +kernel
theorem r209_89 : am_at 209 89 = some (.istore 6, 2, [6]) := by decide +kernel
theorem r209_91 : am_at 209 91 = some (.iinc 7 (1), 3, [7]) := by decide +kernel
theorem r209_94 : am_at 209 94 = some (.goto (-66), 3, [28]) := by decide +kernel
theorem r209_97 : am_at 209 97 = some (.iload 6, 2, [6]) := by decide +kernel
theorem r209_99 : am_at 209 99 = some (.ireturn, 1, []) := by decide +kernel
theorem rt209 : am_rtt 209 = some (some .int) := by decide +kernel
set_option maxRecDepth 100000 in
theorem pg209 : am_pg[209]? = some am_m209 := rfl
theorem m209_L28_w {d : Nat} {N : Nat} {D : am_D} {v1 : Int32} {v4 : Int32} {v5 : Int32} {mc ms : Nat} {Q : am_O → am_AH → Prop} (hd : 4 ≤ d) : ∀ (n : Nat) (v6 : Int32) (v7 : Int32) {q : Int32} (h : m209_L28 N D v1 v4 v5  n v6 v7 = some q) (k0 : am_X xs L 209 d mc ms 97 [.ref 1, am_dead, am_dead, am_dead, am_dead, am_dead, .int q, am_dead, am_dead] [] (am_mk D) 0 0 Q), am_X xs L 209 d mc ms 28 [.ref 1, .int v1, am_dead, am_dead, .int v4, .int v5, .int v6, .int v7, am_dead] [] (am_mk D) 0 0 Q := by
  intro n
  induction n with
  | zero =>
    intro v6 v7 q h k0
    exact (nomatch (show none = some q from h))
  | succ n ih =>
    intro v6 v7 q h k0
    rw [m209_L28] at h
    refine x_ld (v := .int v7) r209_28 rfl rfl rfl ?_
    refine x_ld (v := .ref 1) r209_30 rfl rfl rfl ?_
    refine y_gf (cd := 9) (v := .ref 7) r209_31 rfl rfl rfl ?_
    refine y_alen (tag := 0) (n := 28) (v := 28) r209_34 rfl rfl rfl ?_
    rcases am_ifE h with ⟨c5, h⟩ | ⟨c5, h⟩
    · refine x_icgeT r209_35 c5 ?_
      refine x_forget (lc0 := [.ref 1, am_dead, am_dead, am_dead, am_dead, am_dead, .int v6, am_dead, am_dead]) ⟨Or.inl rfl, Or.inr ⟨rfl, rfl⟩, Or.inl rfl, Or.inl rfl, Or.inr ⟨rfl, rfl⟩, Or.inr ⟨rfl, rfl⟩, Or.inl rfl, Or.inr ⟨rfl, rfl⟩, Or.inl rfl, trivial⟩ ?_
      cases h
      exact k0
    · refine x_icgeF r209_35 c5 rfl ?_
      refine x_ld (v := .int v7) r209_38 rfl rfl rfl ?_
      refine x_ld (v := .int v4) r209_40 rfl rfl rfl ?_
      refine x_call1 (as := [.int v7, .int v4]) (rest := []) r209_42 rfl rfl rfl (by decide) (Nat.le_of_ble_eq_true rfl) (m253_ok rfl) (Nat.le_trans (by decide) hd) (Nat.zero_le _) (Nat.zero_le _) rfl ?_
      obtain ⟨q6, h8, h⟩ := am_ltE h
      replace h8 := h8.symm
      have kj7 : am_X xs L 209 d mc ms 63 [.ref 1, .int v1, am_dead, am_dead, .int v4, .int v5, .int v6, .int v7, am_dead] [.int q6] (am_mk D) 0 0 Q := by
        refine x_sto (lc' := [.ref 1, .int v1, am_dead, am_dead, .int v4, .int v5, .int v6, .int v7, .int q6]) r209_63 rfl rfl rfl rfl ?_
        refine x_ld (v := .int v6) r209_65 rfl rfl rfl ?_
        refine x_ld (v := .ref 1) r209_67 rfl rfl rfl ?_
        refine y_gf (cd := 9) (v := .ref 7) r209_68 rfl rfl rfl ?_
        refine x_ld (v := .int v7) r209_71 rfl rfl rfl ?_
        obtain ⟨g11, h⟩ := am_gdE h
        refine y_ial (n := 28) r209_73 rfl (by decide) g11 rfl rfl ?_
        refine x_ld (v := .int v1) r209_74 rfl rfl rfl ?_
        obtain ⟨q12, h14, h⟩ := am_ltE h
        replace h14 := h14.symm
        have kj13 : am_X xs L 209 d mc ms 88 [.ref 1, .int v1, am_dead, am_dead, .int v4, .int v5, .int v6, .int v7, .int q6] [.int q12, .int v6] (am_mk D) 0 0 Q := by
          refine x_ar r209_88 rfl trivial rfl ?_
          obtain ⟨x17, e18, h⟩ := am_ltE h
          refine am_topI e18 ?_
          refine x_sto (lc' := [.ref 1, .int v1, am_dead, am_dead, .int v4, .int v5, .int x17, .int v7, .int q6]) r209_89 rfl rfl rfl rfl ?_
          obtain ⟨x19, e20, h⟩ := am_ltE h
          refine x_sto (lc' := [.ref 1, .int v1, am_dead, am_dead, .int v4, .int v5, .int x17, .int x19, .int q6]) r209_91 rfl rfl (by subst e20; rfl) rfl ?_
          refine x_goto r209_94 ?_
          exact x_forget (lc0 := [.ref 1, .int v1, am_dead, am_dead, .int v4, .int v5, .int x17, .int x19, am_dead]) ⟨Or.inl rfl, Or.inl rfl, Or.inl rfl, Or.inl rfl, Or.inl rfl, Or.inl rfl, Or.inl rfl, Or.inl rfl, Or.inr ⟨rfl, rfl⟩, trivial⟩ (ih x17 x19 h k0)
        rcases am_ifE h14 with ⟨c15, h14⟩ | ⟨c15, h14⟩
        · refine x_icneT r209_75 c15 rfl ?_
          refine x_ld (v := .int q6) r209_78 rfl rfl rfl ?_
          rcases am_ifE h14 with ⟨c16, h14⟩ | ⟨c16, h14⟩
          · refine x_ifeqT r209_80 c16 ?_
            refine x_ic (v := 0) r209_87 rfl rfl ?_
            subst h14
            exact kj13
          · refine x_ifeqF r209_80 c16 rfl ?_
            refine x_ic (v := 1) r209_83 rfl rfl ?_
            refine x_goto r209_84 ?_
            subst h14
            exact kj13
        · refine x_icneF r209_75 c15 ?_
          refine x_ic (v := 0) r209_87 rfl rfl ?_
          subst h14
          exact kj13
      rcases am_ifE h8 with ⟨c9, h8⟩ | ⟨c9, h8⟩
      · refine x_ifneT r209_45 c9 rfl ?_
        refine x_ld (v := .int v7) r209_48 rfl rfl rfl ?_
        refine x_ld (v := .int v5) r209_50 rfl rfl rfl ?_
        refine x_call1 (as := [.int v7, .int v5]) (rest := []) r209_52 rfl rfl rfl (by decide) (Nat.le_of_ble_eq_true rfl) (m253_ok rfl) (Nat.le_trans (by decide) hd) (Nat.zero_le _) (Nat.zero_le _) rfl ?_
        rcases am_ifE h8 with ⟨c10, h8⟩ | ⟨c10, h8⟩
        · refine x_ifeqT r209_55 c10 ?_
          refine x_ic (v := 0) r209_62 rfl rfl ?_
          subst h8
          exact kj7
        · refine x_ifeqF r209_55 c10 rfl ?_
          refine x_ic (v := 1) r209_58 rfl rfl ?_
          refine x_goto r209_59 ?_
          subst h8
          exact kj7
      · refine x_ifneF r209_45 c9 ?_
        refine x_ic (v := 1) r209_58 rfl rfl ?_
        refine x_goto r209_59 ?_
        subst h8
        exact kj7
theorem m209_w {d mc ms : Nat} {N : Nat} {D : am_D} {v1 : Int32} {v2 : Int32} {v3 : Int32} {Q : am_O → am_AH → Prop} (hd : 4 ≤ d) {r : Int32} (h : m209 N D v1 v2 v3 = some r) (hQ : Q (.inl (some (.int r))) (am_mk D)) : am_X xs L 209 d mc ms 0 [.ref 1, .int v1, .int v2, .int v3, am_dead, am_dead, am_dead, am_dead, am_dead] [] (am_mk D) 0 0 Q := by
  unfold m209 at h
  refine x_ld (v := .ref 1) r209_0 rfl rfl rfl ?_
  refine y_gf (cd := 4) (v := .ref 2) r209_1 rfl rfl rfl ?_
  refine x_ld (v := .int v2) r209_4 rfl rfl rfl ?_
  refine x_ld (v := .int v3) r209_5 rfl rfl rfl ?_
  refine x_call1 (as := [.ref 2, .int v2, .int v3]) (rest := []) r209_6 rfl rfl rfl (by decide) (Nat.le_of_ble_eq_true rfl) (m162_ok rfl) (Nat.le_trans (by decide) hd) (Nat.zero_le _) (Nat.zero_le _) rfl ?_
  obtain ⟨x1, e2, h⟩ := am_ltE h
  refine am_topI e2 ?_
  refine x_sto (lc' := [.ref 1, .int v1, .int v2, .int v3, .int x1, am_dead, am_dead, am_dead, am_dead]) r209_9 rfl rfl rfl rfl ?_
  refine x_ld (v := .ref 1) r209_11 rfl rfl rfl ?_
  refine y_gf (cd := 4) (v := .ref 2) r209_12 rfl rfl rfl ?_
  refine x_ld (v := .int v2) r209_15 rfl rfl rfl ?_
  refine x_ld (v := .int v3) r209_16 rfl rfl rfl ?_
  refine x_call1 (as := [.ref 2, .int v2, .int v3]) (rest := []) r209_17 rfl rfl rfl (by decide) (Nat.le_of_ble_eq_true rfl) (m163_ok rfl) (Nat.le_trans (by decide) hd) (Nat.zero_le _) (Nat.zero_le _) rfl ?_
  obtain ⟨x3, e4, h⟩ := am_ltE h
  refine am_topI e4 ?_
  refine x_sto (lc' := [.ref 1, .int v1, .int v2, .int v3, .int x1, .int x3, am_dead, am_dead, am_dead]) r209_20 rfl rfl rfl rfl ?_
  refine x_ic (v := 0) r209_22 rfl rfl ?_
  refine x_sto (lc' := [.ref 1, .int v1, .int v2, .int v3, .int x1, .int x3, .int (0 : Int32), am_dead, am_dead]) r209_23 rfl rfl rfl rfl ?_
  refine x_ic (v := 0) r209_25 rfl rfl ?_
  refine x_sto (lc' := [.ref 1, .int v1, .int v2, .int v3, .int x1, .int x3, .int (0 : Int32), .int (0 : Int32), am_dead]) r209_26 rfl rfl rfl rfl ?_
  obtain ⟨q21, h22, h⟩ := Option.bind_eq_some_iff.mp h
  refine x_forget (lc0 := [.ref 1, .int v1, am_dead, am_dead, .int x1, .int x3, .int (0 : Int32), .int (0 : Int32), am_dead]) ⟨Or.inl rfl, Or.inl rfl, Or.inr ⟨rfl, rfl⟩, Or.inr ⟨rfl, rfl⟩, Or.inl rfl, Or.inl rfl, Or.inl rfl, Or.inl rfl, Or.inl rfl, trivial⟩ (m209_L28_w hd N (0 : Int32) (0 : Int32) h22 ?_)
  refine x_ld (v := .int q21) r209_97 rfl rfl rfl ?_
  cases h
  exact x_ret (ret := some .int) (C := True) (v := some (.int _)) r209_99 rt209 rfl rfl rfl rfl rfl rfl rfl rfl trivial hQ
theorem m209_ok {N : Nat} {D : am_D} {v1 : Int32} {v2 : Int32} {v3 : Int32} {r : Int32} (h : m209 N D v1 v2 v3 = some r) : am_Y xs L 209 4 0 0 [.ref 1, .int v1, .int v2, .int v3] D (.inl (some (.int r))) D := am_Yof (mi := am_m209) (lc := [.ref 1, .int v1, .int v2, .int v3, am_dead, am_dead, am_dead, am_dead, am_dead]) pg209 (Nat.le_of_ble_eq_true rfl) (am_rc1 (ci := 4) rfl rfl rfl rfl rfl) rfl (fun Q hQ => m209_w (Nat.le_refl _) h hQ)
theorem r211_0 : am_at 211 0 = some (.iconst (0), 1, []) := by decide +kernel
theorem r211_1 : am_at 211 1 = some (.istore_n 1, 1, [1]) := by decide +kernel
theorem r211_2 : am_at 211 2 = some (.iconst (0), 1, []) := by decide +kernel
theorem r211_3 : am_at 211 3 = some (.istore_n 2, 1, [2]) := by decide +kernel
theorem r211_4 : am_at 211 4 = some (.iload_n 2, 1, [2]) := by decide +kernel
theorem r211_5 : am_at 211 5 = some (.iconst (4), 1, []) := by decide +kernel
theorem r211_6 : am_at 211 6 = some (.if_icmp .ge (17), 3, [23]) := by decide +kernel
theorem r211_9 : am_at 211 9 = some (.iload_n 1, 1, [1]) := by decide +kernel
theorem r211_10 : am_at 211 10 = some (.aload_n 0, 1, [0]) := by decide +kernel
theorem r211_11 : am_at 211 11 = some (.iload_n 2, 1, [2]) := by decide +kernel
theorem r211_12 : am_at 211 12 = some (.invokevirtual 106, 3, [205, 2, 683, 0]) := by decide +kernel
theorem r211_15 : am_at 211 15 = some (.iadd, 1, []) := by decide +kernel
theorem r211_16 : am_at 211 16 = some (.istore_n 1, 1, [1]) := by decide +kernel
theorem r211_17 : am_at 211 17 = some (.iinc 2 (1), 3, [2]) := by decide +kernel
theorem r211_20 : am_at 211 20 = some (.goto (-16), 3, [4]) := by decide +kernel
theorem r211_23 : am_at 211 23 = some (.iload_n 1, 1, [1]) := by decide +kernel
theorem r211_24 : am_at 211 24 = some (.ireturn, 1, []) := by decide +kernel
theorem rt211 : am_rtt 211 = some (some .int) := by decide +kernel
set_option maxRecDepth 100000 in
theorem pg211 : am_pg[211]? = some am_m211 := rfl
theorem m211_L4_w {d : Nat} {N : Nat} {D : am_D} {mc ms : Nat} {Q : am_O → am_AH → Prop} (hd : 3 ≤ d) : ∀ (n : Nat) (v1 : Int32) (v2 : Int32) {q : Int32} (h : m211_L4 N D  n v1 v2 = some q) (k0 : am_X xs L 211 d mc ms 23 [.ref 1, .int q, am_dead] [] (am_mk D) 0 0 Q), am_X xs L 211 d mc ms 4 [.ref 1, .int v1, .int v2] [] (am_mk D) 0 0 Q := by
  intro n
  induction n with
  | zero =>
    intro v1 v2 q h k0
    exact (nomatch (show none = some q from h))
  | succ n ih =>
    intro v1 v2 q h k0
    rw [m211_L4] at h
    refine x_ld (v := .int v2) r211_4 rfl rfl rfl ?_
    refine x_ic (v := 4) r211_5 rfl rfl ?_
    rcases am_ifE h with ⟨c1, h⟩ | ⟨c1, h⟩
    · refine x_icgeT r211_6 c1 ?_
      refine x_forget (lc0 := [.ref 1, .int v1, am_dead]) ⟨Or.inl rfl, Or.inl rfl, Or.inr ⟨rfl, rfl⟩, trivial⟩ ?_
      cases h
      exact k0
    · refine x_icgeF r211_6 c1 rfl ?_
      refine x_ld (v := .int v1) r211_9 rfl rfl rfl ?_
      refine x_ld (v := .ref 1) r211_10 rfl rfl rfl ?_
      refine x_ld (v := .int v2) r211_11 rfl rfl rfl ?_
      obtain ⟨q2, h3, h⟩ := Option.bind_eq_some_iff.mp h
      refine x_call1 (as := [.ref 1, .int v2]) (rest := [.int v1]) r211_12 rfl rfl rfl (by decide) (Nat.le_of_ble_eq_true rfl) (m205_ok h3) (Nat.le_trans (by decide) hd) (Nat.zero_le _) (Nat.zero_le _) rfl ?_
      refine x_ar r211_15 rfl trivial rfl ?_
      obtain ⟨x4, e5, h⟩ := am_ltE h
      refine am_topI e5 ?_
      refine x_sto (lc' := [.ref 1, .int x4, .int v2]) r211_16 rfl rfl rfl rfl ?_
      obtain ⟨x6, e7, h⟩ := am_ltE h
      refine x_sto (lc' := [.ref 1, .int x4, .int x6]) r211_17 rfl rfl (by subst e7; rfl) rfl ?_
      refine x_goto r211_20 ?_
      exact x_forget (lc0 := [.ref 1, .int x4, .int x6]) ⟨Or.inl rfl, Or.inl rfl, Or.inl rfl, trivial⟩ (ih x4 x6 h k0)
theorem m211_w {d mc ms : Nat} {N : Nat} {D : am_D} {Q : am_O → am_AH → Prop} (hd : 3 ≤ d) {r : Int32} (h : m211 N D = some r) (hQ : Q (.inl (some (.int r))) (am_mk D)) : am_X xs L 211 d mc ms 0 [.ref 1, am_dead, am_dead] [] (am_mk D) 0 0 Q := by
  unfold m211 at h
  refine x_ic (v := 0) r211_0 rfl rfl ?_
  refine x_sto (lc' := [.ref 1, .int (0 : Int32), am_dead]) r211_1 rfl rfl rfl rfl ?_
  refine x_ic (v := 0) r211_2 rfl rfl ?_
  refine x_sto (lc' := [.ref 1, .int (0 : Int32), .int (0 : Int32)]) r211_3 rfl rfl rfl rfl ?_
  obtain ⟨q8, h9, h⟩ := Option.bind_eq_some_iff.mp h
  refine x_forget (lc0 := [.ref 1, .int (0 : Int32), .int (0 : Int32)]) ⟨Or.inl rfl, Or.inl rfl, Or.inl rfl, trivial⟩ (m211_L4_w hd N (0 : Int32) (0 : Int32) h9 ?_)
  refine x_ld (v := .int q8) r211_23 rfl rfl rfl ?_
  cases h
  exact x_ret (ret := some .int) (C := True) (v := some (.int _)) r211_24 rt211 rfl rfl rfl rfl rfl rfl rfl rfl trivial hQ
theorem m211_ok {N : Nat} {D : am_D} {r : Int32} (h : m211 N D = some r) : am_Y xs L 211 3 0 0 [.ref 1] D (.inl (some (.int r))) D := am_Yof (mi := am_m211) (lc := [.ref 1, am_dead, am_dead]) pg211 (Nat.le_of_ble_eq_true rfl) (am_rc1 (ci := 4) rfl rfl rfl rfl rfl) rfl (fun Q hQ => m211_w (Nat.le_refl _) h hQ)
theorem r214_0 : am_at 214 0 = some (.iload_n 1, 1, [1]) := by decide +kernel
theorem r214_1 : am_at 214 1 = some (.istore_n 2, 1, [2]) := by decide +kernel
theorem r214_2 : am_at 214 2 = some (.iconst (0), 1, []) := by decide +kernel
theorem r214_3 : am_at 214 3 = some (.istore_n 3, 1, [3]) := by decide +kernel
theorem r214_4 : am_at 214 4 = some (.iconst (0), 1, []) := by decide +kernel
theorem r214_5 : am_at 214 5 = some (.istore 4, 2, [4]) := by decide +kernel
theorem r214_7 : am_at 214 7 = some (.iload 4, 2, [4]) := by decide +kernel
theorem r214_9 : am_at 214 9 = some (.iconst (4), 1, []) := by decide +kernel
theorem r214_10 : am_at 214 10 = some (.if_icmp .ge (71), 3, [81]) := by decide +kernel
theorem r214_13 : am_at 214 13 = some (.aload_n 0, 1, [0]) := by decide +kernel
theorem r214_14 : am_at 214 14 = some (.iload 4, 2, [4]) := by decide +kernel
theorem r214_16 : am_at 214 16 = some (.invokevirtual 103, 3, [204, 2, 585, 0]) := by decide +kernel
theorem r214_19 : am_at 214 19 = some (.istore 5, 2, [5]) := by decide +kernel
theorem r214_21 : am_at 214 21 = some (.iload 5, 2, [5]) := by decide +kernel
theorem r214_23 : am_at 214 23 = some (.bipush (7), 2, []) := by decide +kernel
theorem r214_25 : am_at 214 25 = some (.if_icmp .ge (50), 3, [75]) := by decide +kernel
theorem r214_28 : am_at 214 28 = some (.bipush (73), 2, []) := by decide +kernel
theorem r214_30 : am_at 214 30 = some (.iload_n 2, 1, [2]) := by decide +kernel
theorem r214_31 : am_at 214 31 = some (.imul, 1, []) := by decide +kernel
theorem r214_32 : am_at 214 32 = some (.bipush (41), 2, []) := by decide +kernel
theorem r214_34 : am_at 214 34 = some (.iadd, 1, []) := by decide +kernel
theorem r214_35 : am_at 214 35 = some (.sipush (4096), 3, []) := by decide +kernel
theorem r214_38 : am_at 214 38 = some (.irem, 1, []) := by decide +kernel
theorem r214_39 : am_at 214 39 = some (.istore_n 2, 1, [2]) := by decide +kernel
theorem r214_40 : am_at 214 40 = some (.aload_n 0, 1, [0]) := by decide +kernel
theorem r214_41 : am_at 214 41 = some (.iconst (5), 1, []) := by decide +kernel
theorem r214_42 : am_at 214 42 = some (.invokevirtual 103, 3, [204, 2, 585, 0]) := by decide +kernel
theorem r214_45 : am_at 214 45 = some (.istore 6, 2, [6]) := by decide +kernel
theorem r214_47 : am_at 214 47 = some (.iload 6, 2, [6]) := by decide +kernel
theorem r214_49 : am_at 214 49 = some (.ifCond .le (20), 3, [69]) := by decide +kernel
theorem r214_52 : am_at 214 52 = some (.aload_n 0, 1, [0]) := by decide +kernel
theorem r214_53 : am_at 214 53 = some (.iload 4, 2, [4]) := by decide +kernel
theorem r214_55 : am_at 214 55 = some (.aload_n 0, 1, [0]) := by decide +kernel
theorem r214_56 : am_at 214 56 = some (.iload_n 2, 1, [2]) := by decide +kernel
theorem r214_57 : am_at 214 57 = some (.iload 6, 2, [6]) := by decide +kernel
theorem r214_59 : am_at 214 59 = some (.irem, 1, []) := by decide +kernel
theorem r214_60 : am_at 214 60 = some (.invokevirtual 116, 3, [215, 2, 639, 0]) := by decide +kernel
theorem r214_63 : am_at 214 63 = some (.invokevirtual 119, 3, [213, 3, 643, 0]) := by decide +kernel
theorem r214_66 : am_at 214 66 = some (.iinc 3 (1), 3, [3]) := by decide +kernel
theorem r214_69 : am_at 214 69 = some (.iinc 5 (1), 3, [5]) := by decide +kernel
theorem r214_72 : am_at 214 72 = some (.goto (-51), 3, [21]) := by decide +kernel
theorem r214_75 : am_at 214 75 = some (.iinc 4 (1), 3, [4]) := by decide +kernel
theorem r214_78 : am_at 214 78 = some (.goto (-71), 3, [7]) := by decide +kernel
theorem r214_81 : am_at 214 81 = some (.iload_n 3, 1, [3]) := by decide +kernel
theorem r214_82 : am_at 214 82 = some (.ireturn, 1, []) := by decide +kernel
theorem rt214 : am_rtt 214 = some (some .int) := by decide +kernel
set_option maxRecDepth 100000 in
theorem pg214 : am_pg[214]? = some am_m214 := rfl
theorem m214_L21_w {d : Nat} {N : Nat} {v4 : Int32} {mc ms : Nat} {Q : am_O → am_AH → Prop} (hd : 3 ≤ d) : ∀ (n : Nat) (D : am_D) (v2 : Int32) (v3 : Int32) (v5 : Int32) {q : Int32 × Int32 × am_D} (h : m214_L21 N v4  n D v2 v3 v5 = some q) (k0 : am_X xs L 214 d mc ms 75 [.ref 1, am_dead, .int q.1, .int q.2.1, .int v4, am_dead, am_dead] [] (am_mk q.2.2) 0 0 Q), am_X xs L 214 d mc ms 21 [.ref 1, am_dead, .int v2, .int v3, .int v4, .int v5, am_dead] [] (am_mk D) 0 0 Q := by
  intro n
  induction n with
  | zero =>
    intro D v2 v3 v5 q h k0
    exact (nomatch (show none = some q from h))
  | succ n ih =>
    intro D v2 v3 v5 q h k0
    rw [m214_L21] at h
    refine x_ld (v := .int v5) r214_21 rfl rfl rfl ?_
    refine x_bi (v := 7) r214_23 rfl rfl ?_
    rcases am_ifE h with ⟨c4, h⟩ | ⟨c4, h⟩
    · refine x_icgeT r214_25 c4 ?_
      refine x_forget (lc0 := [.ref 1, am_dead, .int v2, .int v3, .int v4, am_dead, am_dead]) ⟨Or.inl rfl, Or.inl rfl, Or.inl rfl, Or.inl rfl, Or.inl rfl, Or.inr ⟨rfl, rfl⟩, Or.inl rfl, trivial⟩ ?_
      cases h
      exact k0
    · refine x_icgeF r214_25 c4 rfl ?_
      refine x_bi (v := 73) r214_28 rfl rfl ?_
      refine x_ld (v := .int v2) r214_30 rfl rfl rfl ?_
      refine x_ar r214_31 rfl trivial rfl ?_
      refine x_bi (v := 41) r214_32 rfl rfl ?_
      refine x_ar r214_34 rfl trivial rfl ?_
      refine x_si (v := 4096) r214_35 rfl rfl ?_
      refine x_ar r214_38 rfl (by decide) rfl ?_
      obtain ⟨x5, e6, h⟩ := am_ltE h
      refine am_topI e6 ?_
      refine x_sto (lc' := [.ref 1, am_dead, .int x5, .int v3, .int v4, .int v5, am_dead]) r214_39 rfl rfl rfl rfl ?_
      refine x_ld (v := .ref 1) r214_40 rfl rfl rfl ?_
      refine x_ic (v := 5) r214_41 rfl rfl ?_
      obtain ⟨q7, h8, h⟩ := Option.bind_eq_some_iff.mp h
      refine x_call1 (as := [.ref 1, .int (5 : Int32)]) (rest := []) r214_42 rfl rfl rfl (by decide) (Nat.le_of_ble_eq_true rfl) (m204_ok h8) (Nat.le_trans (by decide) hd) (Nat.zero_le _) (Nat.zero_le _) rfl ?_
      refine x_sto (lc' := [.ref 1, am_dead, .int x5, .int v3, .int v4, .int v5, .int q7]) r214_45 rfl rfl rfl rfl ?_
      refine x_ld (v := .int q7) r214_47 rfl rfl rfl ?_
      obtain ⟨q9, h11, h⟩ := Option.bind_eq_some_iff.mp h
      have kj10 : am_X xs L 214 d mc ms 69 [.ref 1, am_dead, .int x5, .int q9.1, .int v4, .int v5, .int q7] [] (am_mk q9.2) 0 0 Q := by
        obtain ⟨x20, e21, h⟩ := am_ltE h
        refine x_sto (lc' := [.ref 1, am_dead, .int x5, .int q9.1, .int v4, .int x20, .int q7]) r214_69 rfl rfl (by subst e21; rfl) rfl ?_
        refine x_goto r214_72 ?_
        exact x_forget (lc0 := [.ref 1, am_dead, .int x5, .int q9.1, .int v4, .int x20, am_dead]) ⟨Or.inl rfl, Or.inl rfl, Or.inl rfl, Or.inl rfl, Or.inl rfl, Or.inl rfl, Or.inr ⟨rfl, rfl⟩, trivial⟩ (ih q9.2 x5 q9.1 x20 h k0)
      rcases am_ifE h11 with ⟨c12, h11⟩ | ⟨c12, h11⟩
      · refine x_ifleT r214_49 c12 ?_
        cases h11
        exact kj10
      · refine x_ifleF r214_49 c12 rfl ?_
        refine x_ld (v := .ref 1) r214_52 rfl rfl rfl ?_
        refine x_ld (v := .int v4) r214_53 rfl rfl rfl ?_
        refine x_ld (v := .ref 1) r214_55 rfl rfl rfl ?_
        refine x_ld (v := .int x5) r214_56 rfl rfl rfl ?_
        refine x_ld (v := .int q7) r214_57 rfl rfl rfl ?_
        obtain ⟨g13, h11⟩ := am_gdE h11
        refine x_ar r214_59 rfl g13 rfl ?_
        obtain ⟨q14, h15, h11⟩ := Option.bind_eq_some_iff.mp h11
        refine x_call1 (as := [.ref 1, .int (x5 - x5 / q7 * q7)]) (rest := [.int v4, .ref 1]) r214_60 rfl rfl rfl (by decide) (Nat.le_of_ble_eq_true rfl) (m215_ok h15) (Nat.le_trans (by decide) hd) (Nat.zero_le _) (Nat.zero_le _) rfl ?_
        obtain ⟨q16, h17, h11⟩ := am_ltE h11
        replace h17 := h17.symm
        refine x_call0 (as := [.ref 1, .int v4, .int q14]) (rest := []) r214_63 rfl rfl rfl (by decide) (Nat.le_of_ble_eq_true rfl) (m213_ok h17) (Nat.le_trans (by decide) hd) (Nat.zero_le _) (Nat.zero_le _) rfl ?_
        obtain ⟨x18, e19, h11⟩ := am_ltE h11
        refine x_sto (lc' := [.ref 1, am_dead, .int x5, .int x18, .int v4, .int v5, .int q7]) r214_66 rfl rfl (by subst e19; rfl) rfl ?_
        cases h11
        exact kj10
theorem m214_L7_w {d : Nat} {N : Nat} {mc ms : Nat} {Q : am_O → am_AH → Prop} (hd : 3 ≤ d) : ∀ (n : Nat) (D : am_D) (v2 : Int32) (v3 : Int32) (v4 : Int32) {q : Int32 × am_D} (h : m214_L7 N  n D v2 v3 v4 = some q) (k0 : am_X xs L 214 d mc ms 81 [.ref 1, am_dead, am_dead, .int q.1, am_dead, am_dead, am_dead] [] (am_mk q.2) 0 0 Q), am_X xs L 214 d mc ms 7 [.ref 1, am_dead, .int v2, .int v3, .int v4, am_dead, am_dead] [] (am_mk D) 0 0 Q := by
  intro n
  induction n with
  | zero =>
    intro D v2 v3 v4 q h k0
    exact (nomatch (show none = some q from h))
  | succ n ih =>
    intro D v2 v3 v4 q h k0
    rw [m214_L7] at h
    refine x_ld (v := .int v4) r214_7 rfl rfl rfl ?_
    refine x_ic (v := 4) r214_9 rfl rfl ?_
    rcases am_ifE h with ⟨c1, h⟩ | ⟨c1, h⟩
    · refine x_icgeT r214_10 c1 ?_
      refine x_forget (lc0 := [.ref 1, am_dead, am_dead, .int v3, am_dead, am_dead, am_dead]) ⟨Or.inl rfl, Or.inl rfl, Or.inr ⟨rfl, rfl⟩, Or.inl rfl, Or.inr ⟨rfl, rfl⟩, Or.inl rfl, Or.inl rfl, trivial⟩ ?_
      cases h
      exact k0
    · refine x_icgeF r214_10 c1 rfl ?_
      refine x_ld (v := .ref 1) r214_13 rfl rfl rfl ?_
      refine x_ld (v := .int v4) r214_14 rfl rfl rfl ?_
      obtain ⟨q2, h3, h⟩ := Option.bind_eq_some_iff.mp h
      refine x_call1 (as := [.ref 1, .int v4]) (rest := []) r214_16 rfl rfl rfl (by decide) (Nat.le_of_ble_eq_true rfl) (m204_ok h3) (Nat.le_trans (by decide) hd) (Nat.zero_le _) (Nat.zero_le _) rfl ?_
      refine x_sto (lc' := [.ref 1, am_dead, .int v2, .int v3, .int v4, .int q2, am_dead]) r214_19 rfl rfl rfl rfl ?_
      obtain ⟨q22, h23, h⟩ := Option.bind_eq_some_iff.mp h
      refine x_forget (lc0 := [.ref 1, am_dead, .int v2, .int v3, .int v4, .int q2, am_dead]) ⟨Or.inl rfl, Or.inl rfl, Or.inl rfl, Or.inl rfl, Or.inl rfl, Or.inl rfl, Or.inl rfl, trivial⟩ (m214_L21_w hd N D v2 v3 q2 h23 ?_)
      obtain ⟨x24, e25, h⟩ := am_ltE h
      refine x_sto (lc' := [.ref 1, am_dead, .int q22.1, .int q22.2.1, .int x24, am_dead, am_dead]) r214_75 rfl rfl (by subst e25; rfl) rfl ?_
      refine x_goto r214_78 ?_
      exact x_forget (lc0 := [.ref 1, am_dead, .int q22.1, .int q22.2.1, .int x24, am_dead, am_dead]) ⟨Or.inl rfl, Or.inl rfl, Or.inl rfl, Or.inl rfl, Or.inl rfl, Or.inl rfl, Or.inl rfl, trivial⟩ (ih q22.2.2 q22.1 q22.2.1 x24 h k0)
theorem m214_w {d mc ms : Nat} {N : Nat} {D : am_D} {v1 : Int32} {Q : am_O → am_AH → Prop} (hd : 3 ≤ d) {r : Int32 × am_D} (h : m214 N D v1 = some r) (hQ : Q (.inl (some (.int r.1))) (am_mk r.2)) : am_X xs L 214 d mc ms 0 [.ref 1, .int v1, am_dead, am_dead, am_dead, am_dead, am_dead] [] (am_mk D) 0 0 Q := by
  unfold m214 at h
  refine x_ld (v := .int v1) r214_0 rfl rfl rfl ?_
  refine x_sto (lc' := [.ref 1, .int v1, .int v1, am_dead, am_dead, am_dead, am_dead]) r214_1 rfl rfl rfl rfl ?_
  refine x_ic (v := 0) r214_2 rfl rfl ?_
  refine x_sto (lc' := [.ref 1, .int v1, .int v1, .int (0 : Int32), am_dead, am_dead, am_dead]) r214_3 rfl rfl rfl rfl ?_
  refine x_ic (v := 0) r214_4 rfl rfl ?_
  refine x_sto (lc' := [.ref 1, .int v1, .int v1, .int (0 : Int32), .int (0 : Int32), am_dead, am_dead]) r214_5 rfl rfl rfl rfl ?_
  obtain ⟨q26, h27, h⟩ := Option.bind_eq_some_iff.mp h
  refine x_forget (lc0 := [.ref 1, am_dead, .int v1, .int (0 : Int32), .int (0 : Int32), am_dead, am_dead]) ⟨Or.inl rfl, Or.inr ⟨rfl, rfl⟩, Or.inl rfl, Or.inl rfl, Or.inl rfl, Or.inl rfl, Or.inl rfl, trivial⟩ (m214_L7_w hd N D v1 (0 : Int32) (0 : Int32) h27 ?_)
  refine x_ld (v := .int q26.1) r214_81 rfl rfl rfl ?_
  cases h
  exact x_ret (ret := some .int) (C := True) (v := some (.int _)) r214_82 rt214 rfl rfl rfl rfl rfl rfl rfl rfl trivial hQ
theorem m214_ok {N : Nat} {D : am_D} {v1 : Int32} {r : Int32 × am_D} (h : m214 N D v1 = some r) : am_Y xs L 214 3 0 0 [.ref 1, .int v1] D (.inl (some (.int r.1))) r.2 := am_Yof (mi := am_m214) (lc := [.ref 1, .int v1, am_dead, am_dead, am_dead, am_dead, am_dead]) pg214 (Nat.le_of_ble_eq_true rfl) (am_rc1 (ci := 4) rfl rfl rfl rfl rfl) rfl (fun Q hQ => m214_w (Nat.le_refl _) h hQ)
theorem r220_0 : am_at 220 0 = some (.aload_n 0, 1, [0]) := by decide +kernel
theorem r220_1 : am_at 220 1 = some (.getfield 34, 3, [4, 6, 0, 100]) := by decide +kernel
theorem r220_4 : am_at 220 4 = some (.iconst (1), 1, []) := by decide +kernel
theorem r220_5 : am_at 220 5 = some (.if_icmp .eq (5), 3, [10]) := by decide +kernel
theorem r220_8 : am_at 220 8 = some (.iconst (1), 1, []) := by decide +kernel
theorem r220_9 : am_at 220 9 = some (.ireturn, 1, []) := by decide +kernel
theorem r220_10 : am_at 220 10 = some (.iload_n 1, 1, [1]) := by decide +kernel
theorem r220_11 : am_at 220 11 = some (.aload_n 0, 1, [0]) := by decide +kernel
theorem r220_12 : am_at 220 12 = some (.getfield 38, 3, [4, 7, 0, 102]) := by decide +kernel
theorem r220_15 : am_at 220 15 = some (.if_icmp .eq (5), 3, [20]) := by decide +kernel
theorem r220_18 : am_at 220 18 = some (.iconst (2), 1, []) := by decide +kernel
theorem r220_19 : am_at 220 19 = some (.ireturn, 1, []) := by decide +kernel
theorem r220_20 : am_at 220 20 = some (.aload_n 0, 1, [0]) := by decide +kernel
theorem r220_21 : am_at 220 21 = some (.iload_n 2, 1, [2]) := by decide +kernel
theorem r220_22 : am_at 220 22 = some (.invokevirtual 109, 3, [203, 2, 622, 0]) := by decide +kernel
theorem r220_25 : am_at 220 25 = some (.iload_n 1, 1, [1]) := by decide +kernel
theorem r220_26 : am_at 220 26 = some (.if_icmp .eq (5), 3, [31]) := by decide +kernel
theorem r220_29 : am_at 220 29 = some (.iconst (3), 1, []) := by decide +kernel
theorem r220_30 : am_at 220 30 = some (.ireturn, 1, []) := by decide +kernel
theorem r220_31 : am_at 220 31 = some (.aload_n 0, 1, [0]) := by decide +kernel
theorem r220_32 : am_at 220 32 = some (.getfield 12, 3, [4, 0, 3, 87]) := by decide +kernel
theorem r220_35 : am_at 220 35 = some (.iload_n 2, 1, [2]) := by decide +kernel
theorem r220_36 : am_at 220 36 = some (.iload_n 3, 1, [3]) := by decide +kernel
theorem r220_37 : am_at 220 37 = some (.invokevirtual 139, 3, [158, 3, 757, 0]) := by decide +kernel
theorem r220_40 : am_at 220 40 = some (.ifCond .ne (5), 3, [45]) := by decide +kernel
theorem r220_43 : am_at 220 43 = some (.iconst (4), 1, []) := by decide +kernel
theorem r220_44 : am_at 220 44 = some (.ireturn, 1, []) := by decide +kernel
theorem r220_45 : am_at 220 45 = some (.aload_n 0, 1, [0]) := by decide +kernel
theorem r220_46 : am_at 220 46 = some (.invokevirtual 142, 3, [219, 1, 758, 0]) := by decide +kernel
theorem r220_49 : am_at 220 49 = some (.ifCond .ne (5), 3, [54]) := by decide +kernel
theorem r220_52 : am_at 220 52 = some (.iconst (5), 1, []) := by decide +kernel
theorem r220_53 : am_at 220 53 = some (.ireturn, 1, []) := by decide +kernel
theorem r220_54 : am_at 220 54 = some (.aload_n 0, 1, [0]) := by decide +kernel
theorem r220_55 : am_at 220 55 = some (.getfield 22, 3, [4, 2, 3, 91]) := by decide +kernel
theorem r220_58 : am_at 220 58 = some (.iload_n 1, 1, [1]) := by decide +kernel
theorem r220_59 : am_at 220 59 = some (.invokestatic 75, 3, [180, 2, 488, 0]) := by decide +kernel
theorem r220_62 : am_at 220 62 = some (.ifCond .ne (8), 3, [70]) := by decide +kernel
theorem r220_65 : am_at 220 65 = some (.bipush (6), 2, []) := by decide +kernel
theorem r220_67 : am_at 220 67 = some (.goto (4), 3, [71]) := by decide +kernel
theorem r220_70 : am_at 220 70 = some (.iconst (0), 1, []) := by decide +kernel
theorem r220_71 : am_at 220 71 = some (.ireturn, 1, []) := by decide +kernel
theorem rt220 : am_rtt 220 = some (some .int) := by decide +kernel
set_option maxRecDepth 100000 in
theorem pg220 : am_pg[220]? = some am_m220 := rfl
theorem m220_w {d mc ms : Nat} {D : am_D} {v1 : Int32} {v2 : Int32} {v3 : Int32} {Q : am_O → am_AH → Prop} (hd : 4 ≤ d) {r : Int32} (h : m220 D v1 v2 v3 = r) (hQ : Q (.inl (some (.int r))) (am_mk D)) : am_X xs L 220 d mc ms 0 [.ref 1, .int v1, .int v2, .int v3] [] (am_mk D) 0 0 Q := by
  unfold m220 at h
  refine x_ld (v := .ref 1) r220_0 rfl rfl rfl ?_
  refine y_gf (cd := 0) (v := .int (D.1 1 6)) r220_1 rfl rfl rfl ?_
  refine x_ic (v := 1) r220_4 rfl rfl ?_
  rcases am_ifE h with ⟨c1, h⟩ | ⟨c1, h⟩
  · refine x_iceqT r220_5 c1 ?_
    refine x_ld (v := .int v1) r220_10 rfl rfl rfl ?_
    refine x_ld (v := .ref 1) r220_11 rfl rfl rfl ?_
    refine y_gf (cd := 0) (v := .int (D.1 1 7)) r220_12 rfl rfl rfl ?_
    rcases am_ifE h with ⟨c2, h⟩ | ⟨c2, h⟩
    · refine x_iceqT r220_15 c2 ?_
      refine x_ld (v := .ref 1) r220_20 rfl rfl rfl ?_
      refine x_ld (v := .int v2) r220_21 rfl rfl rfl ?_
      refine x_call1 (as := [.ref 1, .int v2]) (rest := []) r220_22 rfl rfl rfl (by decide) (Nat.le_of_ble_eq_true rfl) (m203_ok rfl) (Nat.le_trans (by decide) hd) (Nat.zero_le _) (Nat.zero_le _) rfl ?_
      refine x_ld (v := .int v1) r220_25 rfl rfl rfl ?_
      rcases am_ifE h with ⟨c3, h⟩ | ⟨c3, h⟩
      · refine x_iceqT r220_26 c3 ?_
        refine x_ld (v := .ref 1) r220_31 rfl rfl rfl ?_
        refine y_gf (cd := 4) (v := .ref 2) r220_32 rfl rfl rfl ?_
        refine x_ld (v := .int v2) r220_35 rfl rfl rfl ?_
        refine x_ld (v := .int v3) r220_36 rfl rfl rfl ?_
        refine x_call1 (as := [.ref 2, .int v2, .int v3]) (rest := []) r220_37 rfl rfl rfl (by decide) (Nat.le_of_ble_eq_true rfl) (m158_ok rfl) (Nat.le_trans (by decide) hd) (Nat.zero_le _) (Nat.zero_le _) rfl ?_
        rcases am_ifE h with ⟨c4, h⟩ | ⟨c4, h⟩
        · refine x_ifneT r220_40 c4 rfl ?_
          refine x_ic (v := 4) r220_43 rfl rfl ?_
          subst h
          exact x_ret (ret := some .int) (C := True) (v := some (.int _)) r220_44 rt220 rfl rfl rfl rfl rfl rfl rfl rfl trivial hQ
        · refine x_ifneF r220_40 c4 ?_
          refine x_ld (v := .ref 1) r220_45 rfl rfl rfl ?_
          refine x_call1 (as := [.ref 1]) (rest := []) r220_46 rfl rfl rfl (by decide) (Nat.le_of_ble_eq_true rfl) (m219_ok rfl) (Nat.le_trans (by decide) hd) (Nat.zero_le _) (Nat.zero_le _) rfl ?_
          rcases am_ifE h with ⟨c5, h⟩ | ⟨c5, h⟩
          · refine x_ifneT r220_49 c5 rfl ?_
            refine x_ic (v := 5) r220_52 rfl rfl ?_
            subst h
            exact x_ret (ret := some .int) (C := True) (v := some (.int _)) r220_53 rt220 rfl rfl rfl rfl rfl rfl rfl rfl trivial hQ
          · refine x_ifneF r220_49 c5 ?_
            refine x_ld (v := .ref 1) r220_54 rfl rfl rfl ?_
            refine y_gf (cd := 10) (v := .ref 8) r220_55 rfl rfl rfl ?_
            refine x_ld (v := .int v1) r220_58 rfl rfl rfl ?_
            refine x_call1 (as := [.ref 8, .int v1]) (rest := []) r220_59 rfl rfl rfl (by decide) (Nat.le_of_ble_eq_true rfl) (am_rows_at (n := 4) rfl (by decide)) (Nat.le_trans (by decide) hd) (Nat.zero_le _) (Nat.zero_le _) rfl ?_
            rcases am_ifE h with ⟨c6, h⟩ | ⟨c6, h⟩
            · refine x_ifneT r220_62 c6 rfl ?_
              refine x_bi (v := 6) r220_65 rfl rfl ?_
              refine x_goto r220_67 ?_
              subst h
              exact x_ret (ret := some .int) (C := True) (v := some (.int _)) r220_71 rt220 rfl rfl rfl rfl rfl rfl rfl rfl trivial hQ
            · refine x_ifneF r220_62 c6 ?_
              refine x_ic (v := 0) r220_70 rfl rfl ?_
              subst h
              exact x_ret (ret := some .int) (C := True) (v := some (.int _)) r220_71 rt220 rfl rfl rfl rfl rfl rfl rfl rfl trivial hQ
      · refine x_iceqF r220_26 c3 rfl ?_
        refine x_ic (v := 3) r220_29 rfl rfl ?_
        subst h
        exact x_ret (ret := some .int) (C := True) (v := some (.int _)) r220_30 rt220 rfl rfl rfl rfl rfl rfl rfl rfl trivial hQ
    · refine x_iceqF r220_15 c2 rfl ?_
      refine x_ic (v := 2) r220_18 rfl rfl ?_
      subst h
      exact x_ret (ret := some .int) (C := True) (v := some (.int _)) r220_19 rt220 rfl rfl rfl rfl rfl rfl rfl rfl trivial hQ
  · refine x_iceqF r220_5 c1 rfl ?_
    refine x_ic (v := 1) r220_8 rfl rfl ?_
    subst h
    exact x_ret (ret := some .int) (C := True) (v := some (.int _)) r220_9 rt220 rfl rfl rfl rfl rfl rfl rfl rfl trivial hQ
theorem m220_ok {D : am_D} {v1 : Int32} {v2 : Int32} {v3 : Int32} {r : Int32} (h : m220 D v1 v2 v3 = r) : am_Y xs L 220 4 0 0 [.ref 1, .int v1, .int v2, .int v3] D (.inl (some (.int r))) D := am_Yof (mi := am_m220) (lc := [.ref 1, .int v1, .int v2, .int v3]) pg220 (Nat.le_of_ble_eq_true rfl) (am_rc1 (ci := 4) rfl rfl rfl rfl rfl) rfl (fun Q hQ => m220_w (Nat.le_refl _) h hQ)
theorem r221_0 : am_at 221 0 = some (.aload_n 0, 1, [0]) := by decide +kernel
theorem r221_1 : am_at 221 1 = some (.getfield 34, 3, [4, 6, 0, 100]) := by decide +kernel
theorem r221_4 : am_at 221 4 = some (.iconst (1), 1, []) := by decide +kernel
theorem r221_5 : am_at 221 5 = some (.if_icmp .eq (5), 3, [10]) := by decide +kernel
theorem r221_8 : am_at 221 8 = some (.iconst (1), 1, []) := by decide +kernel
theorem r221_9 : am_at 221 9 = some (.ireturn, 1, []) := by decide +kernel
theorem r221_10 : am_at 221 10 = some (.iload_n 1, 1, [1]) := by decide +kernel
theorem r221_11 : am_at 221 11 = some (.aload_n 0, 1, [0]) := by decide +kernel
theorem r221_12 : am_at 221 12 = some (.getfield 38, 3, [4, 7, 0, 102]) := by decide +kernel
theorem r221_15 : am_at 221 15 = some (.if_icmp .eq (5), 3, [20]) := by decide +kernel
theorem r221_18 : am_at 221 18 = some (.iconst (2), 1, []) := by decide +kernel
theorem r221_19 : am_at 221 19 = some (.ireturn, 1, []) := by decide +kernel
theorem r221_20 : am_at 221 20 = some (.aload_n 0, 1, [0]) := by decide +kernel
theorem r221_21 : am_at 221 21 = some (.getfield 22, 3, [4, 2, 3, 91]) := by decide +kernel
theorem r221_24 : am_at 221 24 = some (.iload_n 1, 1, [1]) := by decide +kernel
theorem r221_25 : am_at 221 25 = some (.invokestatic 75, 3, [180, 2, 488, 0]) := by decide +kernel
theorem r221_28 : am_at 221 28 = some (.ifCond .le (15), 3, [43]) := by decide +kernel
theorem r221_31 : am_at 221 31 = some (.aload_n 0, 1, [0]) := by decide +kernel
theorem r221_32 : am_at 221 32 = some (.iload_n 1, 1, [1]) := by decide +kernel
theorem r221_33 : am_at 221 33 = some (.invokevirtual 146, 3, [208, 2, 545, 0]) := by decide +kernel
theorem r221_36 : am_at 221 36 = some (.ifCond .le (7), 3, [43]) := by decide +kernel
theorem r221_39 : am_at 221 39 = some (.iconst (3), 1, []) := by decide +kernel
theorem r221_40 : am_at 221 40 = some (.goto (4), 3, [44]) := by decide +kernel
theorem r221_43 : am_at 221 43 = some (.iconst (0), 1, []) := by decide +kernel
theorem r221_44 : am_at 221 44 = some (.ireturn, 1, []) := by decide +kernel
theorem rt221 : am_rtt 221 = some (some .int) := by decide +kernel
set_option maxRecDepth 100000 in
theorem pg221 : am_pg[221]? = some am_m221 := rfl
theorem m221_w {d mc ms : Nat} {N : Nat} {D : am_D} {v1 : Int32} {Q : am_O → am_AH → Prop} (hd : 5 ≤ d) {r : Int32} (h : m221 N D v1 = some r) (hQ : Q (.inl (some (.int r))) (am_mk D)) : am_X xs L 221 d mc ms 0 [.ref 1, .int v1] [] (am_mk D) 0 0 Q := by
  unfold m221 at h
  refine x_ld (v := .ref 1) r221_0 rfl rfl rfl ?_
  refine y_gf (cd := 0) (v := .int (D.1 1 6)) r221_1 rfl rfl rfl ?_
  refine x_ic (v := 1) r221_4 rfl rfl ?_
  rcases am_ifE h with ⟨c1, h⟩ | ⟨c1, h⟩
  · refine x_iceqT r221_5 c1 ?_
    refine x_ld (v := .int v1) r221_10 rfl rfl rfl ?_
    refine x_ld (v := .ref 1) r221_11 rfl rfl rfl ?_
    refine y_gf (cd := 0) (v := .int (D.1 1 7)) r221_12 rfl rfl rfl ?_
    rcases am_ifE h with ⟨c2, h⟩ | ⟨c2, h⟩
    · refine x_iceqT r221_15 c2 ?_
      refine x_ld (v := .ref 1) r221_20 rfl rfl rfl ?_
      refine y_gf (cd := 10) (v := .ref 8) r221_21 rfl rfl rfl ?_
      refine x_ld (v := .int v1) r221_24 rfl rfl rfl ?_
      refine x_call1 (as := [.ref 8, .int v1]) (rest := []) r221_25 rfl rfl rfl (by decide) (Nat.le_of_ble_eq_true rfl) (am_rows_at (n := 4) rfl (by decide)) (Nat.le_trans (by decide) hd) (Nat.zero_le _) (Nat.zero_le _) rfl ?_
      rcases am_ifE h with ⟨c3, h⟩ | ⟨c3, h⟩
      · refine x_ifleT r221_28 c3 ?_
        refine x_ic (v := 0) r221_43 rfl rfl ?_
        cases h
        exact x_ret (ret := some .int) (C := True) (v := some (.int _)) r221_44 rt221 rfl rfl rfl rfl rfl rfl rfl rfl trivial hQ
      · refine x_ifleF r221_28 c3 rfl ?_
        refine x_ld (v := .ref 1) r221_31 rfl rfl rfl ?_
        refine x_ld (v := .int v1) r221_32 rfl rfl rfl ?_
        obtain ⟨q4, h5, h⟩ := Option.bind_eq_some_iff.mp h
        refine x_call1 (as := [.ref 1, .int v1]) (rest := []) r221_33 rfl rfl rfl (by decide) (Nat.le_of_ble_eq_true rfl) (m208_ok h5) (Nat.le_trans (by decide) hd) (Nat.zero_le _) (Nat.zero_le _) rfl ?_
        rcases am_ifE h with ⟨c6, h⟩ | ⟨c6, h⟩
        · refine x_ifleT r221_36 c6 ?_
          refine x_ic (v := 0) r221_43 rfl rfl ?_
          cases h
          exact x_ret (ret := some .int) (C := True) (v := some (.int _)) r221_44 rt221 rfl rfl rfl rfl rfl rfl rfl rfl trivial hQ
        · refine x_ifleF r221_36 c6 rfl ?_
          refine x_ic (v := 3) r221_39 rfl rfl ?_
          refine x_goto r221_40 ?_
          cases h
          exact x_ret (ret := some .int) (C := True) (v := some (.int _)) r221_44 rt221 rfl rfl rfl rfl rfl rfl rfl rfl trivial hQ
    · refine x_iceqF r221_15 c2 rfl ?_
      refine x_ic (v := 2) r221_18 rfl rfl ?_
      cases h
      exact x_ret (ret := some .int) (C := True) (v := some (.int _)) r221_19 rt221 rfl rfl rfl rfl rfl rfl rfl rfl trivial hQ
  · refine x_iceqF r221_5 c1 rfl ?_
    refine x_ic (v := 1) r221_8 rfl rfl ?_
    cases h
    exact x_ret (ret := some .int) (C := True) (v := some (.int _)) r221_9 rt221 rfl rfl rfl rfl rfl rfl rfl rfl trivial hQ
theorem m221_ok {N : Nat} {D : am_D} {v1 : Int32} {r : Int32} (h : m221 N D v1 = some r) : am_Y xs L 221 5 0 0 [.ref 1, .int v1] D (.inl (some (.int r))) D := am_Yof (mi := am_m221) (lc := [.ref 1, .int v1]) pg221 (Nat.le_of_ble_eq_true rfl) (am_rc1 (ci := 4) rfl rfl rfl rfl rfl) rfl (fun Q hQ => m221_w (Nat.le_refl _) h hQ)
theorem r226_0 : am_at 226 0 = some (.aload_n 0, 1, [0]) := by decide +kernel
theorem r226_1 : am_at 226 1 = some (.iconst (0), 1, []) := by decide +kernel
theorem r226_2 : am_at 226 2 = some (.invokevirtual 106, 3, [205, 2, 683, 0]) := by decide +kernel
theorem r226_5 : am_at 226 5 = some (.aload_n 0, 1, [0]) := by decide +kernel
theorem r226_6 : am_at 226 6 = some (.iconst (2), 1, []) := by decide +kernel
theorem r226_7 : am_at 226 7 = some (.invokevirtual 106, 3, [205, 2, 683, 0]) := by decide +kernel
theorem r226_10 : am_at 226 10 = some (.iadd, 1, []) := by decide +kernel
theorem r226_11 : am_at 226 11 = some (.istore_n 1, 1, [1]) := by decide +kernel
theorem r226_12 : am_at 226 12 = some (.aload_n 0, 1, [0]) := by decide +kernel
theorem r226_13 : am_at 226 13 = some (.iconst (1), 1, []) := by decide +kernel
theorem r226_14 : am_at 226 14 = some (.invokevirtual 106, 3, [205, 2, 683, 0]) := by decide +kernel
theorem r226_17 : am_at 226 17 = some (.aload_n 0, 1, [0]) := by decide +kernel
theorem r226_18 : am_at 226 18 = some (.iconst (3), 1, []) := by decide +kernel
theorem r226_19 : am_at 226 19 = some (.invokevirtual 106, 3, [205, 2, 683, 0]) := by decide +kernel
theorem r226_22 : am_at 226 22 = some (.iadd, 1, []) := by decide +kernel
theorem r226_23 : am_at 226 23 = some (.istore_n 2, 1, [2]) := by decide +kernel
theorem r226_24 : am_at 226 24 = some (.iload_n 1, 1, [1]) := by decide +kernel
theorem r226_25 : am_at 226 25 = some (.iload_n 2, 1, [2]) := by decide +kernel
theorem r226_26 : am_at 226 26 = some (.if_icmp .ge (19), 3, [45]) := by decide +kernel
theorem r226_29 : am_at 226 29 = some (.aload_n 0, 1, [0]) := by decide +kernel
theorem r226_30 : am_at 226 30 = some (.getfield 31, 3, [4, 5, 3, 98]) := by decide +kernel
theorem r226_33 : am_at 226 33 = some (.iconst (0), 1, []) := by decide +kernel
theorem r226_34 : am_at 226 34 = some (.iload_n 2, 1, [2]) := by decide +kernel
theorem r226_35 : am_at 226 35 = some (.iload_n 1, 1, [1]) := by decide +kernel
theorem r226_36 : am_at 226 36 = some (.isub, 1, []) := by decide +kernel
theorem r226_37 : am_at 226 37 = some (.iconst (5), 1, []) := by decide +kernel
theorem r226_38 : am_at 226 38 = some (.idiv, 1, []) := by decide +kernel
theorem r226_39 : am_at 226 39 = some (.invokestatic 169, 3, [182, 3, 737, 0]) := by decide +kernel
theorem r226_42 : am_at 226 42 = some (.goto (16), 3, [58]) := by decide +kernel
theorem r226_45 : am_at 226 45 = some (.aload_n 0, 1, [0]) := by decide +kernel
theorem r226_46 : am_at 226 46 = some (.getfield 31, 3, [4, 5, 3, 98]) := by decide +kernel
theorem r226_49 : am_at 226 49 = some (.iconst (1), 1, []) := by decide +kernel
theorem r226_50 : am_at 226 50 = some (.iload_n 1, 1, [1]) := by decide +kernel
theorem r226_51 : am_at 226 51 = some (.iload_n 2, 1, [2]) := by decide +kernel
theorem r226_52 : am_at 226 52 = some (.isub, 1, []) := by decide +kernel
theorem r226_53 : am_at 226 53 = some (.iconst (5), 1, []) := by decide +kernel
theorem r226_54 : am_at 226 54 = some (.idiv, 1, []) := by decide +kernel
theorem r226_55 : am_at 226 55 = some (.invokestatic 169, 3, [182, 3, 737, 0]) := by decide +kernel
theorem r226_58 : am_at 226 58 = some (.return_, 1, []) := by decide +kernel
theorem rt226 : am_rtt 226 = some (none) := by decide +kernel
set_option maxRecDepth 100000 in
theorem pg226 : am_pg[226]? = some am_m226 := rfl
theorem m226_w {d mc ms : Nat} {N : Nat} {D : am_D} {Q : am_O → am_AH → Prop} (hd : 3 ≤ d) {r : am_D} (h : m226 N D = some r) (hQ : Q (.inl none) (am_mk r)) : am_X xs L 226 d mc ms 0 [.ref 1, am_dead, am_dead] [] (am_mk D) 0 0 Q := by
  unfold m226 at h
  refine x_ld (v := .ref 1) r226_0 rfl rfl rfl ?_
  refine x_ic (v := 0) r226_1 rfl rfl ?_
  obtain ⟨q1, h2, h⟩ := Option.bind_eq_some_iff.mp h
  refine x_call1 (as := [.ref 1, .int (0 : Int32)]) (rest := []) r226_2 rfl rfl rfl (by decide) (Nat.le_of_ble_eq_true rfl) (m205_ok h2) (Nat.le_trans (by decide) hd) (Nat.zero_le _) (Nat.zero_le _) rfl ?_
  refine x_ld (v := .ref 1) r226_5 rfl rfl rfl ?_
  refine x_ic (v := 2) r226_6 rfl rfl ?_
  obtain ⟨q3, h4, h⟩ := Option.bind_eq_some_iff.mp h
  refine x_call1 (as := [.ref 1, .int (2 : Int32)]) (rest := [.int q1]) r226_7 rfl rfl rfl (by decide) (Nat.le_of_ble_eq_true rfl) (m205_ok h4) (Nat.le_trans (by decide) hd) (Nat.zero_le _) (Nat.zero_le _) rfl ?_
  refine x_ar r226_10 rfl trivial rfl ?_
  obtain ⟨x5, e6, h⟩ := am_ltE h
  refine am_topI e6 ?_
  refine x_sto (lc' := [.ref 1, .int x5, am_dead]) r226_11 rfl rfl rfl rfl ?_
  refine x_ld (v := .ref 1) r226_12 rfl rfl rfl ?_
  refine x_ic (v := 1) r226_13 rfl rfl ?_
  obtain ⟨q7, h8, h⟩ := Option.bind_eq_some_iff.mp h
  refine x_call1 (as := [.ref 1, .int (1 : Int32)]) (rest := []) r226_14 rfl rfl rfl (by decide) (Nat.le_of_ble_eq_true rfl) (m205_ok h8) (Nat.le_trans (by decide) hd) (Nat.zero_le _) (Nat.zero_le _) rfl ?_
  refine x_ld (v := .ref 1) r226_17 rfl rfl rfl ?_
  refine x_ic (v := 3) r226_18 rfl rfl ?_
  obtain ⟨q9, h10, h⟩ := Option.bind_eq_some_iff.mp h
  refine x_call1 (as := [.ref 1, .int (3 : Int32)]) (rest := [.int q7]) r226_19 rfl rfl rfl (by decide) (Nat.le_of_ble_eq_true rfl) (m205_ok h10) (Nat.le_trans (by decide) hd) (Nat.zero_le _) (Nat.zero_le _) rfl ?_
  refine x_ar r226_22 rfl trivial rfl ?_
  obtain ⟨x11, e12, h⟩ := am_ltE h
  refine am_topI e12 ?_
  refine x_sto (lc' := [.ref 1, .int x5, .int x11]) r226_23 rfl rfl rfl rfl ?_
  refine x_ld (v := .int x5) r226_24 rfl rfl rfl ?_
  refine x_ld (v := .int x11) r226_25 rfl rfl rfl ?_
  rcases am_ifE h with ⟨c13, h⟩ | ⟨c13, h⟩
  · refine x_icgeT r226_26 c13 ?_
    refine x_ld (v := .ref 1) r226_45 rfl rfl rfl ?_
    refine y_gf (cd := 13) (v := .ref 11) r226_46 rfl rfl rfl ?_
    refine x_ic (v := 1) r226_49 rfl rfl ?_
    refine x_ld (v := .int x5) r226_50 rfl rfl rfl ?_
    refine x_ld (v := .int x11) r226_51 rfl rfl rfl ?_
    refine x_ar r226_52 rfl trivial rfl ?_
    refine x_ic (v := 5) r226_53 rfl rfl ?_
    refine x_ar r226_54 rfl (by decide) rfl ?_
    obtain ⟨D14, e15, h⟩ := am_ltE h
    refine x_call0 (as := [.ref 11, .int (1 : Int32), .int ((x5 - x11) / (5 : Int32))]) (rest := []) r226_55 rfl rfl rfl (by decide) (Nat.le_of_ble_eq_true rfl) (am_rows_add (n := 2) rfl (by decide) e15) (Nat.le_trans (by decide) hd) (Nat.zero_le _) (Nat.zero_le _) rfl ?_
    cases h
    exact x_ret (ret := none) (C := True) (v := none) r226_58 rt226 rfl rfl rfl rfl rfl rfl rfl rfl trivial hQ
  · refine x_icgeF r226_26 c13 rfl ?_
    refine x_ld (v := .ref 1) r226_29 rfl rfl rfl ?_
    refine y_gf (cd := 13) (v := .ref 11) r226_30 rfl rfl rfl ?_
    refine x_ic (v := 0) r226_33 rfl rfl ?_
    refine x_ld (v := .int x11) r226_34 rfl rfl rfl ?_
    refine x_ld (v := .int x5) r226_35 rfl rfl rfl ?_
    refine x_ar r226_36 rfl trivial rfl ?_
    refine x_ic (v := 5) r226_37 rfl rfl ?_
    refine x_ar r226_38 rfl (by decide) rfl ?_
    obtain ⟨D16, e17, h⟩ := am_ltE h
    refine x_call0 (as := [.ref 11, .int (0 : Int32), .int ((x11 - x5) / (5 : Int32))]) (rest := []) r226_39 rfl rfl rfl (by decide) (Nat.le_of_ble_eq_true rfl) (am_rows_add (n := 2) rfl (by decide) e17) (Nat.le_trans (by decide) hd) (Nat.zero_le _) (Nat.zero_le _) rfl ?_
    refine x_goto r226_42 ?_
    cases h
    exact x_ret (ret := none) (C := True) (v := none) r226_58 rt226 rfl rfl rfl rfl rfl rfl rfl rfl trivial hQ
theorem m226_ok {N : Nat} {D : am_D} {r : am_D} (h : m226 N D = some r) : am_Y xs L 226 3 0 0 [.ref 1] D (.inl none) r := am_Yof (mi := am_m226) (lc := [.ref 1, am_dead, am_dead]) pg226 (Nat.le_of_ble_eq_true rfl) (am_rc1 (ci := 4) rfl rfl rfl rfl rfl) rfl (fun Q hQ => m226_w (Nat.le_refl _) h hQ)
theorem r258_0 : am_at 258 0 = some (.iconst (0), 1, []) := by decide +kernel
theorem r258_1 : am_at 258 1 = some (.istore_n 3, 1, [3]) := by decide +kernel
theorem r258_2 : am_at 258 2 = some (.iconst (0), 1, []) := by decide +kernel
theorem r258_3 : am_at 258 3 = some (.istore 4, 2, [4]) := by decide +kernel
theorem r258_5 : am_at 258 5 = some (.iload 4, 2, [4]) := by decide +kernel
theorem r258_7 : am_at 258 7 = some (.bipush (28), 2, []) := by decide +kernel
theorem r258_9 : am_at 258 9 = some (.if_icmp .ge (38), 3, [47]) := by decide +kernel
theorem r258_12 : am_at 258 12 = some (.iload_n 3, 1, [3]) := by decide +kernel
theorem r258_13 : am_at 258 13 = some (.bipush (7), 2, []) := by decide +kernel
theorem r258_15 : am_at 258 15 = some (.if_icmp .ge (32), 3, [47]) := by decide +kernel
theorem r258_18 : am_at 258 18 = some (.aload_n 1, 1, [1]) := by decide +kernel
theorem r258_19 : am_at 258 19 = some (.iload 4, 2, [4]) := by decide +kernel
theorem r258_21 : am_at 258 21 = some (.invokevirtual 15, 3, [203, 2, 550, 0]) := by decide +kernel
theorem r258_24 : am_at 258 24 = some (.iload_n 2, 1, [2]) := by decide +kernel
theorem r258_25 : am_at 258 25 = some (.if_icmp .ne (16), 3, [41]) := by decide +kernel
theorem r258_28 : am_at 258 28 = some (.aload_n 0, 1, [0]) := by decide +kernel
theorem r258_29 : am_at 258 29 = some (.getfield 9, 3, [6, 0, 3, 253]) := by decide +kernel
theorem r258_32 : am_at 258 32 = some (.iload_n 3, 1, [3]) := by decide +kernel
theorem r258_33 : am_at 258 33 = some (.iload 4, 2, [4]) := by decide +kernel
theorem r258_35 : am_at 258 35 = some (.invokestatic 21, 3, [181, 3, 551, 0]) := by decide +kernel
theorem r258_38 : am_at 258 38 = some (.iinc 3 (1), 3, [3]) := by decide +kernel
theorem r258_41 : am_at 258 41 = some (.iinc 4 (1), 3, [4]) := by decide +kernel
theorem r258_44 : am_at 258 44 = some (.goto (-39), 3, [5]) := by decide +kernel
theorem r258_47 : am_at 258 47 = some (.iconst (0), 1, []) := by decide +kernel
theorem r258_48 : am_at 258 48 = some (.istore 4, 2, [4]) := by decide +kernel
theorem r258_50 : am_at 258 50 = some (.iconst (0), 1, []) := by decide +kernel
theorem r258_51 : am_at 258 51 = some (.istore 5, 2, [5]) := by decide +kernel
theorem r258_53 : am_at 258 53 = some (.iload 5, 2, [5]) := by decide +kernel
theorem r258_55 : am_at 258 55 = some (.bipush (7), 2, []) := by decide +kernel
theorem r258_57 : am_at 258 57 = some (.if_icmp .ge (37), 3, [94]) := by decide +kernel
theorem r258_60 : am_at 258 60 = some (.iload 4, 2, [4]) := by decide +kernel
theorem r258_62 : am_at 258 62 = some (.iload_n 3, 1, [3]) := by decide +kernel
theorem r258_63 : am_at 258 63 = some (.if_icmp .ge (31), 3, [94]) := by decide +kernel
theorem r258_66 : am_at 258 66 = some (.iload 4, 2, [4]) := by decide +kernel
theorem r258_68 : am_at 258 68 = some (.aload_n 0, 1, [0]) := by decide +kernel
theorem r258_69 : am_at 258 69 = some (.getfield 9, 3, [6, 0, 3, 253]) := by decide +kernel
theorem r258_72 : am_at 258 72 = some (.iload 5, 2, [5]) := by decide +kernel
theorem r258_74 : am_at 258 74 = some (.iconst (1), 1, []) := by decide +kernel
theorem r258_75 : am_at 258 75 = some (.iload_n 3, 1, [3]) := by decide +kernel
theorem r258_76 : am_at 258 76 = some (.ishl, 1, []) := by decide +kernel
theorem r258_77 : am_at 258 77 = some (.iconst (1), 1, []) := by decide +kernel
theorem r258_78 : am_at 258 78 = some (.isub, 1, []) := by decide +kernel
theorem r258_79 : am_at 258 79 = some (.iload_n 3, 1, [3]) := by decide +kernel
theorem r258_80 : am_at 258 80 = some (.invokestatic 27, 3, [259, 4, 554, 0]) := by decide +kernel
theorem r258_83 : am_at 258 83 = some (.invokestatic 31, 3, [1000, 0, 560]) := by decide +kernel
theorem r258_86 : am_at 258 86 = some (.istore 4, 2, [4]) := by decide +kernel
theorem r258_88 : am_at 258 88 = some (.iinc 5 (1), 3, [5]) := by decide +kernel
theorem r258_91 : am_at 258 91 = some (.goto (-38), 3, [53]) := by decide +kernel
theorem r258_94 : am_at 258 94 = some (.iload 4, 2, [4]) := by decide +kernel
theorem r258_96 : am_at 258 96 = some (.ireturn, 1, []) := by decide +kernel
theorem rt258 : am_rtt 258 = some (some .int) := by decide +kernel
set_option maxRecDepth 100000 in
theorem pg258 : am_pg[258]? = some am_m258 := rfl
theorem m258_L5_w {d : Nat} {N : Nat} {v2 : Int32} {mc ms : Nat} {Q : am_O → am_AH → Prop} (hd : 14 ≤ d) : ∀ (n : Nat) (D : am_D) (v3 : Int32) (v4 : Int32) {q : Int32 × am_D} (h : m258_L5 N v2  n D v3 v4 = some q) (k0 : am_X xs L 258 d mc ms 47 [.ref 104, .ref 1, am_dead, .int q.1, am_dead, am_dead] [] (am_mk q.2) 0 0 Q), am_X xs L 258 d mc ms 5 [.ref 104, .ref 1, .int v2, .int v3, .int v4, am_dead] [] (am_mk D) 0 0 Q := by
  intro n
  induction n with
  | zero =>
    intro D v3 v4 q h k0
    exact (nomatch (show none = some q from h))
  | succ n ih =>
    intro D v3 v4 q h k0
    rw [m258_L5] at h
    refine x_ld (v := .int v4) r258_5 rfl rfl rfl ?_
    refine x_bi (v := 28) r258_7 rfl rfl ?_
    rcases am_ifE h with ⟨c1, h⟩ | ⟨c1, h⟩
    · refine x_icgeT r258_9 c1 ?_
      refine x_forget (lc0 := [.ref 104, .ref 1, am_dead, .int v3, am_dead, am_dead]) ⟨Or.inl rfl, Or.inl rfl, Or.inr ⟨rfl, rfl⟩, Or.inl rfl, Or.inr ⟨rfl, rfl⟩, Or.inl rfl, trivial⟩ ?_
      cases h
      exact k0
    · refine x_icgeF r258_9 c1 rfl ?_
      refine x_ld (v := .int v3) r258_12 rfl rfl rfl ?_
      refine x_bi (v := 7) r258_13 rfl rfl ?_
      rcases am_ifE h with ⟨c2, h⟩ | ⟨c2, h⟩
      · refine x_icgeT r258_15 c2 ?_
        refine x_forget (lc0 := [.ref 104, .ref 1, am_dead, .int v3, am_dead, am_dead]) ⟨Or.inl rfl, Or.inl rfl, Or.inr ⟨rfl, rfl⟩, Or.inl rfl, Or.inr ⟨rfl, rfl⟩, Or.inl rfl, trivial⟩ ?_
        cases h
        exact k0
      · refine x_icgeF r258_15 c2 rfl ?_
        refine x_ld (v := .ref 1) r258_18 rfl rfl rfl ?_
        refine x_ld (v := .int v4) r258_19 rfl rfl rfl ?_
        refine x_call1 (as := [.ref 1, .int v4]) (rest := []) r258_21 rfl rfl rfl (by decide) (Nat.le_of_ble_eq_true rfl) (m203_ok rfl) (Nat.le_trans (by decide) hd) (Nat.zero_le _) (Nat.zero_le _) rfl ?_
        refine x_ld (v := .int v2) r258_24 rfl rfl rfl ?_
        obtain ⟨q3, h5, h⟩ := am_ltE h
        replace h5 := h5.symm
        have kj4 : am_X xs L 258 d mc ms 41 [.ref 104, .ref 1, .int v2, .int q3.1, .int v4, am_dead] [] (am_mk q3.2) 0 0 Q := by
          obtain ⟨x11, e12, h⟩ := am_ltE h
          refine x_sto (lc' := [.ref 104, .ref 1, .int v2, .int q3.1, .int x11, am_dead]) r258_41 rfl rfl (by subst e12; rfl) rfl ?_
          refine x_goto r258_44 ?_
          exact x_forget (lc0 := [.ref 104, .ref 1, .int v2, .int q3.1, .int x11, am_dead]) ⟨Or.inl rfl, Or.inl rfl, Or.inl rfl, Or.inl rfl, Or.inl rfl, Or.inl rfl, trivial⟩ (ih q3.2 q3.1 x11 h k0)
        rcases am_ifE h5 with ⟨c6, h5⟩ | ⟨c6, h5⟩
        · refine x_icneT r258_25 c6 rfl ?_
          refine x_ld (v := .ref 104) r258_28 rfl rfl rfl ?_
          refine y_gf (cd := 107) (v := .ref 105) r258_29 rfl rfl rfl ?_
          refine x_ld (v := .int v3) r258_32 rfl rfl rfl ?_
          refine x_ld (v := .int v4) r258_33 rfl rfl rfl ?_
          obtain ⟨D7, e8, h5⟩ := am_ltE h5
          refine x_call0 (as := [.ref 105, .int v3, .int v4]) (rest := []) r258_35 rfl rfl rfl (by decide) (Nat.le_of_ble_eq_true rfl) (am_rows_put (n := 7) rfl (by decide) e8) (Nat.le_trans (by decide) hd) (Nat.zero_le _) (Nat.zero_le _) rfl ?_
          obtain ⟨x9, e10, h5⟩ := am_ltE h5
          refine x_sto (lc' := [.ref 104, .ref 1, .int v2, .int x9, .int v4, am_dead]) r258_38 rfl rfl (by subst e10; rfl) rfl ?_
          subst h5
          exact kj4
        · refine x_icneF r258_25 c6 ?_
          subst h5
          exact kj4
theorem m258_L53_w {d : Nat} {N : Nat} {D : am_D} {v3 : Int32} {mc ms : Nat} {Q : am_O → am_AH → Prop} (hd : 14 ≤ d) : ∀ (n : Nat) (v4 : Int32) (v5 : Int32) {q : Int32} (h : m258_L53 N D v3  n v4 v5 = some q) (k0 : am_X xs L 258 d mc ms 94 [.ref 104, .ref 1, am_dead, am_dead, .int q, am_dead] [] (am_mk D) 0 0 Q), am_X xs L 258 d mc ms 53 [.ref 104, .ref 1, am_dead, .int v3, .int v4, .int v5] [] (am_mk D) 0 0 Q := by
  intro n
  induction n with
  | zero =>
    intro v4 v5 q h k0
    exact (nomatch (show none = some q from h))
  | succ n ih =>
    intro v4 v5 q h k0
    rw [m258_L53] at h
    refine x_ld (v := .int v5) r258_53 rfl rfl rfl ?_
    refine x_bi (v := 7) r258_55 rfl rfl ?_
    rcases am_ifE h with ⟨c15, h⟩ | ⟨c15, h⟩
    · refine x_icgeT r258_57 c15 ?_
      refine x_forget (lc0 := [.ref 104, .ref 1, am_dead, am_dead, .int v4, am_dead]) ⟨Or.inl rfl, Or.inl rfl, Or.inl rfl, Or.inr ⟨rfl, rfl⟩, Or.inl rfl, Or.inr ⟨rfl, rfl⟩, trivial⟩ ?_
      cases h
      exact k0
    · refine x_icgeF r258_57 c15 rfl ?_
      refine x_ld (v := .int v4) r258_60 rfl rfl rfl ?_
      refine x_ld (v := .int v3) r258_62 rfl rfl rfl ?_
      rcases am_ifE h with ⟨c16, h⟩ | ⟨c16, h⟩
      · refine x_icgeT r258_63 c16 ?_
        refine x_forget (lc0 := [.ref 104, .ref 1, am_dead, am_dead, .int v4, am_dead]) ⟨Or.inl rfl, Or.inl rfl, Or.inl rfl, Or.inr ⟨rfl, rfl⟩, Or.inl rfl, Or.inr ⟨rfl, rfl⟩, trivial⟩ ?_
        cases h
        exact k0
      · refine x_icgeF r258_63 c16 rfl ?_
        refine x_ld (v := .int v4) r258_66 rfl rfl rfl ?_
        refine x_ld (v := .ref 104) r258_68 rfl rfl rfl ?_
        refine y_gf (cd := 107) (v := .ref 105) r258_69 rfl rfl rfl ?_
        refine x_ld (v := .int v5) r258_72 rfl rfl rfl ?_
        refine x_ic (v := 1) r258_74 rfl rfl ?_
        refine x_ld (v := .int v3) r258_75 rfl rfl rfl ?_
        refine x_ar r258_76 rfl trivial rfl ?_
        refine x_ic (v := 1) r258_77 rfl rfl ?_
        refine x_ar r258_78 rfl trivial rfl ?_
        refine x_ld (v := .int v3) r258_79 rfl rfl rfl ?_
        obtain ⟨q17, h18, h⟩ := Option.bind_eq_some_iff.mp h
        refine x_call1 (as := [.ref 105, .int v5, .int (((1 : Int32) <<< (v3 &&& 31)) - (1 : Int32)), .int v3]) (rest := [.int v4]) r258_80 rfl rfl rfl (by decide) (Nat.le_of_ble_eq_true rfl) (m259_ok h18) (Nat.le_trans (by decide) hd) (Nat.zero_le _) (Nat.zero_le _) rfl ?_
        refine x_sp r258_83 rfl rfl rfl rfl rfl rfl trivial rfl ?_
        obtain ⟨x19, e20, h⟩ := am_ltE h
        refine am_topI e20 ?_
        refine x_sto (lc' := [.ref 104, .ref 1, am_dead, .int v3, .int x19, .int v5]) r258_86 rfl rfl rfl rfl ?_
        obtain ⟨x21, e22, h⟩ := am_ltE h
        refine x_sto (lc' := [.ref 104, .ref 1, am_dead, .int v3, .int x19, .int x21]) r258_88 rfl rfl (by subst e22; rfl) rfl ?_
        refine x_goto r258_91 ?_
        exact x_forget (lc0 := [.ref 104, .ref 1, am_dead, .int v3, .int x19, .int x21]) ⟨Or.inl rfl, Or.inl rfl, Or.inl rfl, Or.inl rfl, Or.inl rfl, Or.inl rfl, trivial⟩ (ih x19 x21 h k0)
theorem m258_w {d mc ms : Nat} {N : Nat} {D : am_D} {v2 : Int32} {Q : am_O → am_AH → Prop} (hd : 14 ≤ d) {r : Int32 × am_D} (h : m258 N D v2 = some r) (hQ : Q (.inl (some (.int r.1))) (am_mk r.2)) : am_X xs L 258 d mc ms 0 [.ref 104, .ref 1, .int v2, am_dead, am_dead, am_dead] [] (am_mk D) 0 0 Q := by
  unfold m258 at h
  refine x_ic (v := 0) r258_0 rfl rfl ?_
  refine x_sto (lc' := [.ref 104, .ref 1, .int v2, .int (0 : Int32), am_dead, am_dead]) r258_1 rfl rfl rfl rfl ?_
  refine x_ic (v := 0) r258_2 rfl rfl ?_
  refine x_sto (lc' := [.ref 104, .ref 1, .int v2, .int (0 : Int32), .int (0 : Int32), am_dead]) r258_3 rfl rfl rfl rfl ?_
  obtain ⟨q13, h14, h⟩ := Option.bind_eq_some_iff.mp h
  refine x_forget (lc0 := [.ref 104, .ref 1, .int v2, .int (0 : Int32), .int (0 : Int32), am_dead]) ⟨Or.inl rfl, Or.inl rfl, Or.inl rfl, Or.inl rfl, Or.inl rfl, Or.inl rfl, trivial⟩ (m258_L5_w hd N D (0 : Int32) (0 : Int32) h14 ?_)
  refine x_ic (v := 0) r258_47 rfl rfl ?_
  refine x_sto (lc' := [.ref 104, .ref 1, am_dead, .int q13.1, .int (0 : Int32), am_dead]) r258_48 rfl rfl rfl rfl ?_
  refine x_ic (v := 0) r258_50 rfl rfl ?_
  refine x_sto (lc' := [.ref 104, .ref 1, am_dead, .int q13.1, .int (0 : Int32), .int (0 : Int32)]) r258_51 rfl rfl rfl rfl ?_
  obtain ⟨q23, h24, h⟩ := Option.bind_eq_some_iff.mp h
  refine x_forget (lc0 := [.ref 104, .ref 1, am_dead, .int q13.1, .int (0 : Int32), .int (0 : Int32)]) ⟨Or.inl rfl, Or.inl rfl, Or.inl rfl, Or.inl rfl, Or.inl rfl, Or.inl rfl, trivial⟩ (m258_L53_w hd N (0 : Int32) (0 : Int32) h24 ?_)
  refine x_ld (v := .int q23) r258_94 rfl rfl rfl ?_
  cases h
  exact x_ret (ret := some .int) (C := True) (v := some (.int _)) r258_96 rt258 rfl rfl rfl rfl rfl rfl rfl rfl trivial hQ
theorem m258_ok {N : Nat} {D : am_D} {v2 : Int32} {r : Int32 × am_D} (h : m258 N D v2 = some r) : am_Y xs L 258 14 0 0 [.ref 104, .ref 1, .int v2] D (.inl (some (.int r.1))) r.2 := am_Yof (mi := am_m258) (lc := [.ref 104, .ref 1, .int v2, am_dead, am_dead, am_dead]) pg258 (Nat.le_of_ble_eq_true rfl) (am_rc1 (ci := 6) rfl rfl rfl rfl rfl) rfl (fun Q hQ => m258_w (Nat.le_refl _) h hQ)
theorem r2_0 : am_at 2 0 = some (.iload_n 1, 1, [1]) := by decide +kernel
theorem r2_1 : am_at 2 1 = some (.ifCond .lt (10), 3, [11]) := by decide +kernel
theorem r2_4 : am_at 2 4 = some (.iload_n 1, 1, [1]) := by decide +kernel
theorem r2_5 : am_at 2 5 = some (.sipush (4095), 3, []) := by decide +kernel
theorem r2_8 : am_at 2 8 = some (.if_icmp .le (13), 3, [21]) := by decide +kernel
theorem r2_11 : am_at 2 11 = some (.new 93, 3, [9, 2, 0, 95, 97, 427, 36, 13, 437]) := by decide +kernel
theorem r2_21 : am_at 2 21 = some (.aload_n 0, 1, [0]) := by decide +kernel
theorem r2_22 : am_at 2 22 = some (.getfield 10, 3, [7, 0, 3, 257]) := by decide +kernel
theorem r2_25 : am_at 2 25 = some (.getfield 98, 3, [4, 6, 0, 101]) := by decide +kernel
theorem r2_28 : am_at 2 28 = some (.ifCond .eq (13), 3, [41]) := by decide +kernel
theorem r2_31 : am_at 2 31 = some (.new 76, 3, [9, 3, 0, 102, 80, 308, 38, 14, 350]) := by decide +kernel
theorem r2_41 : am_at 2 41 = some (.aload_n 0, 1, [0]) := by decide +kernel
theorem r2_42 : am_at 2 42 = some (.getfield 22, 3, [7, 2, 3, 259]) := by decide +kernel
theorem r2_45 : am_at 2 45 = some (.aload_n 0, 1, [0]) := by decide +kernel
theorem r2_46 : am_at 2 46 = some (.getfield 10, 3, [7, 0, 3, 257]) := by decide +kernel
theorem r2_49 : am_at 2 49 = some (.invokevirtual 81, 3, [168, 2, 572, 0]) := by decide +kernel
theorem r2_52 : am_at 2 52 = some (.aload_n 0, 1, [0]) := by decide +kernel
theorem r2_53 : am_at 2 53 = some (.getfield 10, 3, [7, 0, 3, 257]) := by decide +kernel
theorem r2_56 : am_at 2 56 = some (.iload_n 1, 1, [1]) := by decide +kernel
theorem r2_57 : am_at 2 57 = some (.invokevirtual 104, 3, [214, 2, 635, 0]) := by decide +kernel
theorem r2_60 : am_at 2 60 = some (.ireturn, 1, []) := by decide +kernel
theorem rt2 : am_rtt 2 = some (some .int) := by decide +kernel
set_option maxRecDepth 100000 in
theorem pg2 : am_pg[2]? = some am_m2 := rfl
theorem m2_w {d mc ms : Nat} {N : Nat} {D : am_D} {v1 : Int32} {Q : am_O → am_AH → Prop} (hd : 5 ≤ d) {r : (Int32 ⊕ Nat) × am_D} (h : m2 N D v1 = some r) (hE : ∀ E, r.1 = .inr E → 0 + 1 ≤ mc ∧ 0 + 6 ≤ ms) (hQ : Q (am_oI r.1) (am_mk r.2)) : am_X xs L 2 d mc ms 0 [.ref 0, .int v1] [] (am_mk D) 0 0 Q := by
  unfold m2 at h
  refine x_ld (v := .int v1) r2_0 rfl rfl rfl ?_
  rcases am_ifE h with ⟨c1, h⟩ | ⟨c1, h⟩
  · refine x_ifltT r2_1 c1 ?_
    cases h
    exact x_thr r2_11 (hE _ rfl).1 (hE _ rfl).2 (Nat.le_of_ble_eq_true rfl) hQ
  · refine x_ifltF r2_1 c1 rfl ?_
    refine x_ld (v := .int v1) r2_4 rfl rfl rfl ?_
    refine x_si (v := 4095) r2_5 rfl rfl ?_
    rcases am_ifE h with ⟨c2, h⟩ | ⟨c2, h⟩
    · refine x_icleT r2_8 c2 ?_
      refine x_ld (v := .ref 0) r2_21 rfl rfl rfl ?_
      refine y_gf (cd := 3) (v := .ref 1) r2_22 rfl rfl rfl ?_
      refine y_gf (cd := 0) (v := .int (D.1 1 6)) r2_25 rfl rfl rfl ?_
      rcases am_ifE h with ⟨c3, h⟩ | ⟨c3, h⟩
      · refine x_ifeqT r2_28 c3 ?_
        refine x_ld (v := .ref 0) r2_41 rfl rfl rfl ?_
        refine y_gf (cd := 25) (v := .ref 23) r2_42 rfl rfl rfl ?_
        refine x_ld (v := .ref 0) r2_45 rfl rfl rfl ?_
        refine y_gf (cd := 3) (v := .ref 1) r2_46 rfl rfl rfl ?_
        obtain ⟨q4, h5, h⟩ := Option.bind_eq_some_iff.mp h
        refine x_call0 (as := [.ref 23, .ref 1]) (rest := []) r2_49 rfl rfl rfl (by decide) (Nat.le_of_ble_eq_true rfl) (m168_ok h5) (Nat.le_trans (by decide) hd) (Nat.zero_le _) (Nat.zero_le _) rfl ?_
        refine x_ld (v := .ref 0) r2_52 rfl rfl rfl ?_
        refine y_gf (cd := 3) (v := .ref 1) r2_53 rfl rfl rfl ?_
        refine x_ld (v := .int v1) r2_56 rfl rfl rfl ?_
        obtain ⟨q6, h7, h⟩ := Option.bind_eq_some_iff.mp h
        refine x_call1 (as := [.ref 1, .int v1]) (rest := []) r2_57 rfl rfl rfl (by decide) (Nat.le_of_ble_eq_true rfl) (m214_ok h7) (Nat.le_trans (by decide) hd) (Nat.zero_le _) (Nat.zero_le _) rfl ?_
        cases h
        exact x_ret (ret := some .int) (C := True) (v := some (.int _)) r2_60 rt2 rfl rfl rfl rfl rfl rfl rfl rfl trivial hQ
      · refine x_ifeqF r2_28 c3 rfl ?_
        cases h
        exact x_thr r2_31 (hE _ rfl).1 (hE _ rfl).2 (Nat.le_of_ble_eq_true rfl) hQ
    · refine x_icleF r2_8 c2 rfl ?_
      cases h
      exact x_thr r2_11 (hE _ rfl).1 (hE _ rfl).2 (Nat.le_of_ble_eq_true rfl) hQ
theorem m2_okv {N : Nat} {D : am_D} {v1 : Int32} {r : (Int32 ⊕ Nat) × am_D} {v : Int32} (h : m2 N D v1 = some r) (hv : am_inl r.1 = some v) : am_Y xs L 2 5 0 0 [.ref 0, .int v1] D (.inl (some (.int v))) r.2 := am_Yof (mi := am_m2) (lc := [.ref 0, .int v1]) pg2 (Nat.le_of_ble_eq_true rfl) (am_rc1 (ci := 7) rfl rfl rfl rfl rfl) rfl (fun Q hQ => m2_w (Nat.le_refl _) h (fun E e => by rw [e] at hv; cases hv) (by rw [am_inlE hv]; exact hQ))
theorem m2_exv {N : Nat} {D : am_D} {v1 : Int32} {r : (Int32 ⊕ Nat) × am_D} {E : Nat} (h : m2 N D v1 = some r) (hv : r.1 = .inr E) : am_Y xs L 2 5 1 6 [.ref 0, .int v1] D (.inr E) r.2 := am_Yof (mi := am_m2) (lc := [.ref 0, .int v1]) pg2 (Nat.le_of_ble_eq_true rfl) (am_rc1 (ci := 7) rfl rfl rfl rfl rfl) rfl (fun Q hQ => m2_w (Nat.le_refl _) h (fun E e => ⟨Nat.le_refl _, Nat.le_refl _⟩) (by rw [hv]; exact hQ))
theorem r3_0 : am_at 3 0 = some (.iload_n 1, 1, [1]) := by decide +kernel
theorem r3_1 : am_at 3 1 = some (.invokestatic 58, 3, [40, 1, 516, 0]) := by decide +kernel
theorem r3_4 : am_at 3 4 = some (.ifCond .ne (13), 3, [17]) := by decide +kernel
theorem r3_7 : am_at 3 7 = some (.new 65, 3, [9, 1, 0, 107, 69, 463, 34, 6, 473]) := by decide +kernel
theorem r3_17 : am_at 3 17 = some (.aload_n 0, 1, [0]) := by decide +kernel
theorem r3_18 : am_at 3 18 = some (.getfield 10, 3, [7, 0, 3, 257]) := by decide +kernel
theorem r3_21 : am_at 3 21 = some (.invokevirtual 109, 3, [216, 1, 597, 0]) := by decide +kernel
theorem r3_24 : am_at 3 24 = some (.ifCond .ne (13), 3, [37]) := by decide +kernel
theorem r3_27 : am_at 3 27 = some (.new 76, 3, [9, 3, 0, 113, 80, 308, 38, 10, 350]) := by decide +kernel
theorem r3_37 : am_at 3 37 = some (.aload_n 0, 1, [0]) := by decide +kernel
theorem r3_38 : am_at 3 38 = some (.getfield 22, 3, [7, 2, 3, 259]) := by decide +kernel
theorem r3_41 : am_at 3 41 = some (.aload_n 0, 1, [0]) := by decide +kernel
theorem r3_42 : am_at 3 42 = some (.getfield 10, 3, [7, 0, 3, 257]) := by decide +kernel
theorem r3_45 : am_at 3 45 = some (.invokevirtual 81, 3, [168, 2, 572, 0]) := by decide +kernel
theorem r3_48 : am_at 3 48 = some (.aload_n 0, 1, [0]) := by decide +kernel
theorem r3_49 : am_at 3 49 = some (.getfield 10, 3, [7, 0, 3, 257]) := by decide +kernel
theorem r3_52 : am_at 3 52 = some (.iload_n 1, 1, [1]) := by decide +kernel
theorem r3_53 : am_at 3 53 = some (.invokevirtual 115, 3, [217, 2, 606, 0]) := by decide +kernel
theorem r3_56 : am_at 3 56 = some (.aload_n 0, 1, [0]) := by decide +kernel
theorem r3_57 : am_at 3 57 = some (.getfield 10, 3, [7, 0, 3, 257]) := by decide +kernel
theorem r3_60 : am_at 3 60 = some (.iload_n 1, 1, [1]) := by decide +kernel
theorem r3_61 : am_at 3 61 = some (.invokevirtual 119, 3, [206, 2, 530, 0]) := by decide +kernel
theorem r3_64 : am_at 3 64 = some (.ireturn, 1, []) := by decide +kernel
theorem rt3 : am_rtt 3 = some (some .int) := by decide +kernel
set_option maxRecDepth 100000 in
theorem pg3 : am_pg[3]? = some am_m3 := rfl
theorem m3_w {d mc ms : Nat} {N : Nat} {D : am_D} {v1 : Int32} {Q : am_O → am_AH → Prop} (hd : 5 ≤ d) {r : (Int32 ⊕ Nat) × am_D} (h : m3 N D v1 = some r) (hE : ∀ E, r.1 = .inr E → 0 + 1 ≤ mc ∧ 0 + 6 ≤ ms) (hQ : Q (am_oI r.1) (am_mk r.2)) : am_X xs L 3 d mc ms 0 [.ref 0, .int v1] [] (am_mk D) 0 0 Q := by
  unfold m3 at h
  refine x_ld (v := .int v1) r3_0 rfl rfl rfl ?_
  refine x_call1 (as := [.int v1]) (rest := []) r3_1 rfl rfl rfl (by decide) (Nat.le_of_ble_eq_true rfl) (m40_ok rfl) (Nat.le_trans (by decide) hd) (Nat.zero_le _) (Nat.zero_le _) rfl ?_
  rcases am_ifE h with ⟨c1, h⟩ | ⟨c1, h⟩
  · refine x_ifneT r3_4 c1 rfl ?_
    cases h
    exact x_thr r3_7 (hE _ rfl).1 (hE _ rfl).2 (Nat.le_of_ble_eq_true rfl) hQ
  · refine x_ifneF r3_4 c1 ?_
    refine x_ld (v := .ref 0) r3_17 rfl rfl rfl ?_
    refine y_gf (cd := 3) (v := .ref 1) r3_18 rfl rfl rfl ?_
    obtain ⟨q2, h3, h⟩ := Option.bind_eq_some_iff.mp h
    refine x_call1 (as := [.ref 1]) (rest := []) r3_21 rfl rfl rfl (by decide) (Nat.le_of_ble_eq_true rfl) (m216_ok h3) (Nat.le_trans (by decide) hd) (Nat.zero_le _) (Nat.zero_le _) rfl ?_
    rcases am_ifE h with ⟨c4, h⟩ | ⟨c4, h⟩
    · refine x_ifneT r3_24 c4 rfl ?_
      cases h
      exact x_thr r3_27 (hE _ rfl).1 (hE _ rfl).2 (Nat.le_of_ble_eq_true rfl) hQ
    · refine x_ifneF r3_24 c4 ?_
      refine x_ld (v := .ref 0) r3_37 rfl rfl rfl ?_
      refine y_gf (cd := 25) (v := .ref 23) r3_38 rfl rfl rfl ?_
      refine x_ld (v := .ref 0) r3_41 rfl rfl rfl ?_
      refine y_gf (cd := 3) (v := .ref 1) r3_42 rfl rfl rfl ?_
      obtain ⟨q5, h6, h⟩ := Option.bind_eq_some_iff.mp h
      refine x_call0 (as := [.ref 23, .ref 1]) (rest := []) r3_45 rfl rfl rfl (by decide) (Nat.le_of_ble_eq_true rfl) (m168_ok h6) (Nat.le_trans (by decide) hd) (Nat.zero_le _) (Nat.zero_le _) rfl ?_
      refine x_ld (v := .ref 0) r3_48 rfl rfl rfl ?_
      refine y_gf (cd := 3) (v := .ref 1) r3_49 rfl rfl rfl ?_
      refine x_ld (v := .int v1) r3_52 rfl rfl rfl ?_
      obtain ⟨q7, h8, h⟩ := am_ltE h
      replace h8 := h8.symm
      refine x_call0 (as := [.ref 1, .int v1]) (rest := []) r3_53 rfl rfl rfl (by decide) (Nat.le_of_ble_eq_true rfl) (m217_ok h8) (Nat.le_trans (by decide) hd) (Nat.zero_le _) (Nat.zero_le _) rfl ?_
      refine x_ld (v := .ref 0) r3_56 rfl rfl rfl ?_
      refine y_gf (cd := 3) (v := .ref 1) r3_57 rfl rfl rfl ?_
      refine x_ld (v := .int v1) r3_60 rfl rfl rfl ?_
      obtain ⟨q9, h10, h⟩ := Option.bind_eq_some_iff.mp h
      refine x_call1 (as := [.ref 1, .int v1]) (rest := []) r3_61 rfl rfl rfl (by decide) (Nat.le_of_ble_eq_true rfl) (m206_ok h10) (Nat.le_trans (by decide) hd) (Nat.zero_le _) (Nat.zero_le _) rfl ?_
      cases h
      exact x_ret (ret := some .int) (C := True) (v := some (.int _)) r3_64 rt3 rfl rfl rfl rfl rfl rfl rfl rfl trivial hQ
theorem m3_okv {N : Nat} {D : am_D} {v1 : Int32} {r : (Int32 ⊕ Nat) × am_D} {v : Int32} (h : m3 N D v1 = some r) (hv : am_inl r.1 = some v) : am_Y xs L 3 5 0 0 [.ref 0, .int v1] D (.inl (some (.int v))) r.2 := am_Yof (mi := am_m3) (lc := [.ref 0, .int v1]) pg3 (Nat.le_of_ble_eq_true rfl) (am_rc1 (ci := 7) rfl rfl rfl rfl rfl) rfl (fun Q hQ => m3_w (Nat.le_refl _) h (fun E e => by rw [e] at hv; cases hv) (by rw [am_inlE hv]; exact hQ))
theorem m3_exv {N : Nat} {D : am_D} {v1 : Int32} {r : (Int32 ⊕ Nat) × am_D} {E : Nat} (h : m3 N D v1 = some r) (hv : r.1 = .inr E) : am_Y xs L 3 5 1 6 [.ref 0, .int v1] D (.inr E) r.2 := am_Yof (mi := am_m3) (lc := [.ref 0, .int v1]) pg3 (Nat.le_of_ble_eq_true rfl) (am_rc1 (ci := 7) rfl rfl rfl rfl rfl) rfl (fun Q hQ => m3_w (Nat.le_refl _) h (fun E e => ⟨Nat.le_refl _, Nat.le_refl _⟩) (by rw [hv]; exact hQ))
theorem r18_0 : am_at 18 0 = some (.iload_n 1, 1, [1]) := by decide +kernel
theorem r18_1 : am_at 18 1 = some (.invokestatic 62, 3, [41, 1, 460, 0]) := by decide +kernel
theorem r18_4 : am_at 18 4 = some (.ifCond .ne (13), 3, [17]) := by decide +kernel
theorem r18_7 : am_at 18 7 = some (.new 65, 3, [9, 1, 0, 229, 69, 463, 34, 2, 473]) := by decide +kernel
theorem r18_17 : am_at 18 17 = some (.iload_n 2, 1, [2]) := by decide +kernel
theorem r18_18 : am_at 18 18 = some (.tableswitch (123) (0) (6) #[42, 47, 52, 57, 66, 78, 103], 42, [141, 0, 60, 1, 65, 2, 70, 3, 75, 4, 84, 5, 96, 6, 121]) := by decide +kernel
theorem r18_60 : am_at 18 60 = some (.iload_n 1, 1, [1]) := by decide +kernel
theorem r18_61 : am_at 18 61 = some (.invokestatic 231, 3, [249, 1, 479, 0]) := by decide +kernel
theorem r18_64 : am_at 18 64 = some (.ireturn, 1, []) := by decide +kernel
theorem r18_65 : am_at 18 65 = some (.iload_n 1, 1, [1]) := by decide +kernel
theorem r18_66 : am_at 18 66 = some (.invokestatic 236, 3, [250, 1, 480, 0]) := by decide +kernel
theorem r18_69 : am_at 18 69 = some (.ireturn, 1, []) := by decide +kernel
theorem r18_70 : am_at 18 70 = some (.iload_n 1, 1, [1]) := by decide +kernel
theorem r18_71 : am_at 18 71 = some (.invokestatic 239, 3, [251, 1, 481, 0]) := by decide +kernel
theorem r18_74 : am_at 18 74 = some (.ireturn, 1, []) := by decide +kernel
theorem r18_75 : am_at 18 75 = some (.aload_n 0, 1, [0]) := by decide +kernel
theorem r18_76 : am_at 18 76 = some (.getfield 10, 3, [7, 0, 3, 257]) := by decide +kernel
theorem r18_79 : am_at 18 79 = some (.iload_n 1, 1, [1]) := by decide +kernel
theorem r18_80 : am_at 18 80 = some (.invokevirtual 242, 3, [203, 2, 484, 0]) := by decide +kernel
theorem r18_83 : am_at 18 83 = some (.ireturn, 1, []) := by decide +kernel
theorem r18_84 : am_at 18 84 = some (.aload_n 0, 1, [0]) := by decide +kernel
theorem r18_85 : am_at 18 85 = some (.getfield 10, 3, [7, 0, 3, 257]) := by decide +kernel
theorem r18_88 : am_at 18 88 = some (.getfield 210, 3, [4, 0, 3, 89]) := by decide +kernel
theorem r18_91 : am_at 18 91 = some (.iload_n 1, 1, [1]) := by decide +kernel
theorem r18_92 : am_at 18 92 = some (.invokevirtual 245, 3, [154, 2, 489, 0]) := by decide +kernel
theorem r18_95 : am_at 18 95 = some (.ireturn, 1, []) := by decide +kernel
theorem r18_96 : am_at 18 96 = some (.aload_n 0, 1, [0]) := by decide +kernel
theorem r18_97 : am_at 18 97 = some (.getfield 10, 3, [7, 0, 3, 257]) := by decide +kernel
theorem r18_100 : am_at 18 100 = some (.getfield 210, 3, [4, 0, 3, 89]) := by decide +kernel
theorem r18_103 : am_at 18 103 = some (.getfield 246, 3, [0, 2, 3, 64]) := by decide +kernel
theorem r18_106 : am_at 18 106 = some (.aload_n 0, 1, [0]) := by decide +kernel
theorem r18_107 : am_at 18 107 = some (.getfield 10, 3, [7, 0, 3, 257]) := by decide +kernel
theorem r18_110 : am_at 18 110 = some (.getfield 210, 3, [4, 0, 3, 89]) := by decide +kernel
theorem r18_113 : am_at 18 113 = some (.iload_n 1, 1, [1]) := by decide +kernel
theorem r18_114 : am_at 18 114 = some (.invokevirtual 245, 3, [154, 2, 489, 0]) := by decide +kernel
theorem r18_117 : am_at 18 117 = some (.invokestatic 250, 3, [180, 2, 418, 0]) := by decide +kernel
theorem r18_120 : am_at 18 120 = some (.ireturn, 1, []) := by decide +kernel
theorem r18_121 : am_at 18 121 = some (.aload_n 0, 1, [0]) := by decide +kernel
theorem r18_122 : am_at 18 122 = some (.getfield 10, 3, [7, 0, 3, 257]) := by decide +kernel
theorem r18_125 : am_at 18 125 = some (.getfield 210, 3, [4, 0, 3, 89]) := by decide +kernel
theorem r18_128 : am_at 18 128 = some (.iload_n 1, 1, [1]) := by decide +kernel
theorem r18_129 : am_at 18 129 = some (.invokevirtual 256, 3, [159, 2, 493, 0]) := by decide +kernel
theorem r18_132 : am_at 18 132 = some (.ifCond .eq (7), 3, [139]) := by decide +kernel
theorem r18_135 : am_at 18 135 = some (.iconst (1), 1, []) := by decide +kernel
theorem r18_136 : am_at 18 136 = some (.goto (4), 3, [140]) := by decide +kernel
theorem r18_139 : am_at 18 139 = some (.iconst (0), 1, []) := by decide +kernel
theorem r18_140 : am_at 18 140 = some (.ireturn, 1, []) := by decide +kernel
theorem r18_141 : am_at 18 141 = some (.new 93, 3, [9, 2, 1, 259, 97, 427, 36, 3, 437]) := by decide +kernel
theorem rt18 : am_rtt 18 = some (some .int) := by decide +kernel
set_option maxRecDepth 100000 in
theorem pg18 : am_pg[18]? = some am_m18 := rfl
theorem m18_w {d mc ms : Nat} {N : Nat} {D : am_D} {v1 : Int32} {v2 : Int32} {Q : am_O → am_AH → Prop} (hd : 4 ≤ d) {r : (Int32 ⊕ Nat)} (h : m18 N D v1 v2 = some r) (hE : ∀ E, r = .inr E → 0 + 1 ≤ mc ∧ 0 + 6 ≤ ms) (hQ : Q (am_oI r) (am_mk D)) : am_X xs L 18 d mc ms 0 [.ref 0, .int v1, .int v2] [] (am_mk D) 0 0 Q := by
  unfold m18 at h
  refine x_ld (v := .int v1) r18_0 rfl rfl rfl ?_
  refine x_call1 (as := [.int v1]) (rest := []) r18_1 rfl rfl rfl (by decide) (Nat.le_of_ble_eq_true rfl) (m41_ok rfl) (Nat.le_trans (by decide) hd) (Nat.zero_le _) (Nat.zero_le _) rfl ?_
  rcases am_ifE h with ⟨c1, h⟩ | ⟨c1, h⟩
  · refine x_ifneT r18_4 c1 rfl ?_
    cases h
    exact x_thr r18_7 (hE _ rfl).1 (hE _ rfl).2 (Nat.le_of_ble_eq_true rfl) hQ
  · refine x_ifneF r18_4 c1 ?_
    refine x_ld (v := .int v2) r18_17 rfl rfl rfl ?_
    rcases am_ifE h with ⟨c2, h⟩ | ⟨c2, h⟩
    · refine x_tsw (p' := 60) r18_18 (am_swT c2) ?_
      refine x_ld (v := .int v1) r18_60 rfl rfl rfl ?_
      refine x_call1 (as := [.int v1]) (rest := []) r18_61 rfl rfl rfl (by decide) (Nat.le_of_ble_eq_true rfl) (m249_ok rfl) (Nat.le_trans (by decide) hd) (Nat.zero_le _) (Nat.zero_le _) rfl ?_
      cases h
      exact x_ret (ret := some .int) (C := True) (v := some (.int _)) r18_64 rt18 rfl rfl rfl rfl rfl rfl rfl rfl trivial hQ
    · rcases am_ifE h with ⟨c3, h⟩ | ⟨c3, h⟩
      · refine x_tsw (p' := 65) r18_18 (am_swF c2 (am_swT c3)) ?_
        refine x_ld (v := .int v1) r18_65 rfl rfl rfl ?_
        refine x_call1 (as := [.int v1]) (rest := []) r18_66 rfl rfl rfl (by decide) (Nat.le_of_ble_eq_true rfl) (m250_ok rfl) (Nat.le_trans (by decide) hd) (Nat.zero_le _) (Nat.zero_le _) rfl ?_
        cases h
        exact x_ret (ret := some .int) (C := True) (v := some (.int _)) r18_69 rt18 rfl rfl rfl rfl rfl rfl rfl rfl trivial hQ
      · rcases am_ifE h with ⟨c4, h⟩ | ⟨c4, h⟩
        · refine x_tsw (p' := 70) r18_18 (am_swF c2 (am_swF c3 (am_swT c4))) ?_
          refine x_ld (v := .int v1) r18_70 rfl rfl rfl ?_
          refine x_call1 (as := [.int v1]) (rest := []) r18_71 rfl rfl rfl (by decide) (Nat.le_of_ble_eq_true rfl) (m251_ok rfl) (Nat.le_trans (by decide) hd) (Nat.zero_le _) (Nat.zero_le _) rfl ?_
          cases h
          exact x_ret (ret := some .int) (C := True) (v := some (.int _)) r18_74 rt18 rfl rfl rfl rfl rfl rfl rfl rfl trivial hQ
        · rcases am_ifE h with ⟨c5, h⟩ | ⟨c5, h⟩
          · refine x_tsw (p' := 75) r18_18 (am_swF c2 (am_swF c3 (am_swF c4 (am_swT c5)))) ?_
            refine x_ld (v := .ref 0) r18_75 rfl rfl rfl ?_
            refine y_gf (cd := 3) (v := .ref 1) r18_76 rfl rfl rfl ?_
            refine x_ld (v := .int v1) r18_79 rfl rfl rfl ?_
            refine x_call1 (as := [.ref 1, .int v1]) (rest := []) r18_80 rfl rfl rfl (by decide) (Nat.le_of_ble_eq_true rfl) (m203_ok rfl) (Nat.le_trans (by decide) hd) (Nat.zero_le _) (Nat.zero_le _) rfl ?_
            cases h
            exact x_ret (ret := some .int) (C := True) (v := some (.int _)) r18_83 rt18 rfl rfl rfl rfl rfl rfl rfl rfl trivial hQ
          · rcases am_ifE h with ⟨c6, h⟩ | ⟨c6, h⟩
            · refine x_tsw (p' := 84) r18_18 (am_swF c2 (am_swF c3 (am_swF c4 (am_swF c5 (am_swT c6))))) ?_
              refine x_ld (v := .ref 0) r18_84 rfl rfl rfl ?_
              refine y_gf (cd := 3) (v := .ref 1) r18_85 rfl rfl rfl ?_
              refine y_gf (cd := 4) (v := .ref 2) r18_88 rfl rfl rfl ?_
              refine x_ld (v := .int v1) r18_91 rfl rfl rfl ?_
              obtain ⟨q7, h8, h⟩ := Option.bind_eq_some_iff.mp h
              refine x_call1 (as := [.ref 2, .int v1]) (rest := []) r18_92 rfl rfl rfl (by decide) (Nat.le_of_ble_eq_true rfl) (m154_ok h8) (Nat.le_trans (by decide) hd) (Nat.zero_le _) (Nat.zero_le _) rfl ?_
              cases h
              exact x_ret (ret := some .int) (C := True) (v := some (.int _)) r18_95 rt18 rfl rfl rfl rfl rfl rfl rfl rfl trivial hQ
            · rcases am_ifE h with ⟨c9, h⟩ | ⟨c9, h⟩
              · refine x_tsw (p' := 96) r18_18 (am_swF c2 (am_swF c3 (am_swF c4 (am_swF c5 (am_swF c6 (am_swT c9)))))) ?_
                refine x_ld (v := .ref 0) r18_96 rfl rfl rfl ?_
                refine y_gf (cd := 3) (v := .ref 1) r18_97 rfl rfl rfl ?_
                refine y_gf (cd := 4) (v := .ref 2) r18_100 rfl rfl rfl ?_
                refine y_gf (cd := 7) (v := .ref 5) r18_103 rfl rfl rfl ?_
                refine x_ld (v := .ref 0) r18_106 rfl rfl rfl ?_
                refine y_gf (cd := 3) (v := .ref 1) r18_107 rfl rfl rfl ?_
                refine y_gf (cd := 4) (v := .ref 2) r18_110 rfl rfl rfl ?_
                refine x_ld (v := .int v1) r18_113 rfl rfl rfl ?_
                obtain ⟨q10, h11, h⟩ := Option.bind_eq_some_iff.mp h
                refine x_call1 (as := [.ref 2, .int v1]) (rest := [.ref 5]) r18_114 rfl rfl rfl (by decide) (Nat.le_of_ble_eq_true rfl) (m154_ok h11) (Nat.le_trans (by decide) hd) (Nat.zero_le _) (Nat.zero_le _) rfl ?_
                refine x_call1 (as := [.ref 5, .int q10]) (rest := []) r18_117 rfl rfl rfl (by decide) (Nat.le_of_ble_eq_true rfl) (am_rows_at (n := 28) rfl (by decide)) (Nat.le_trans (by decide) hd) (Nat.zero_le _) (Nat.zero_le _) rfl ?_
                cases h
                exact x_ret (ret := some .int) (C := True) (v := some (.int _)) r18_120 rt18 rfl rfl rfl rfl rfl rfl rfl rfl trivial hQ
              · rcases am_ifE h with ⟨c12, h⟩ | ⟨c12, h⟩
                · refine x_tsw (p' := 121) r18_18 (am_swF c2 (am_swF c3 (am_swF c4 (am_swF c5 (am_swF c6 (am_swF c9 (am_swT c12))))))) ?_
                  refine x_ld (v := .ref 0) r18_121 rfl rfl rfl ?_
                  refine y_gf (cd := 3) (v := .ref 1) r18_122 rfl rfl rfl ?_
                  refine y_gf (cd := 4) (v := .ref 2) r18_125 rfl rfl rfl ?_
                  refine x_ld (v := .int v1) r18_128 rfl rfl rfl ?_
                  refine x_call1 (as := [.ref 2, .int v1]) (rest := []) r18_129 rfl rfl rfl (by decide) (Nat.le_of_ble_eq_true rfl) (m159_ok rfl) (Nat.le_trans (by decide) hd) (Nat.zero_le _) (Nat.zero_le _) rfl ?_
                  rcases am_ifE h with ⟨c13, h⟩ | ⟨c13, h⟩
                  · refine x_ifeqT r18_132 c13 ?_
                    refine x_ic (v := 0) r18_139 rfl rfl ?_
                    cases h
                    exact x_ret (ret := some .int) (C := True) (v := some (.int _)) r18_140 rt18 rfl rfl rfl rfl rfl rfl rfl rfl trivial hQ
                  · refine x_ifeqF r18_132 c13 rfl ?_
                    refine x_ic (v := 1) r18_135 rfl rfl ?_
                    refine x_goto r18_136 ?_
                    cases h
                    exact x_ret (ret := some .int) (C := True) (v := some (.int _)) r18_140 rt18 rfl rfl rfl rfl rfl rfl rfl rfl trivial hQ
                · refine x_tsw (p' := 141) r18_18 (am_swF c2 (am_swF c3 (am_swF c4 (am_swF c5 (am_swF c6 (am_swF c9 (am_swF c12 (rfl)))))))) ?_
                  cases h
                  exact x_thr r18_141 (hE _ rfl).1 (hE _ rfl).2 (Nat.le_of_ble_eq_true rfl) hQ
theorem m18_okv {N : Nat} {D : am_D} {v1 : Int32} {v2 : Int32} {r : (Int32 ⊕ Nat)} {v : Int32} (h : m18 N D v1 v2 = some r) (hv : am_inl r = some v) : am_Y xs L 18 4 0 0 [.ref 0, .int v1, .int v2] D (.inl (some (.int v))) D := am_Yof (mi := am_m18) (lc := [.ref 0, .int v1, .int v2]) pg18 (Nat.le_of_ble_eq_true rfl) (am_rc1 (ci := 7) rfl rfl rfl rfl rfl) rfl (fun Q hQ => m18_w (Nat.le_refl _) h (fun E e => by rw [e] at hv; cases hv) (by rw [am_inlE hv]; exact hQ))
theorem m18_exv {N : Nat} {D : am_D} {v1 : Int32} {v2 : Int32} {r : (Int32 ⊕ Nat)} {E : Nat} (h : m18 N D v1 v2 = some r) (hv : r = .inr E) : am_Y xs L 18 4 1 6 [.ref 0, .int v1, .int v2] D (.inr E) D := am_Yof (mi := am_m18) (lc := [.ref 0, .int v1, .int v2]) pg18 (Nat.le_of_ble_eq_true rfl) (am_rc1 (ci := 7) rfl rfl rfl rfl rfl) rfl (fun Q hQ => m18_w (Nat.le_refl _) h (fun E e => ⟨Nat.le_refl _, Nat.le_refl _⟩) (by rw [hv]; exact hQ))
theorem r20_0 : am_at 20 0 = some (.iload_n 1, 1, [1]) := by decide +kernel
theorem r20_1 : am_at 20 1 = some (.ifCond .ge (14), 3, [15]) := by decide +kernel
theorem r20_4 : am_at 20 4 = some (.new 65, 3, [9, 1, 1, 270, 69, 463, 34, 4, 473]) := by decide +kernel
theorem r20_15 : am_at 20 15 = some (.iload_n 2, 1, [2]) := by decide +kernel
theorem r20_16 : am_at 20 16 = some (.ifCond .lt (8), 3, [24]) := by decide +kernel
theorem r20_19 : am_at 20 19 = some (.iload_n 2, 1, [2]) := by decide +kernel
theorem r20_20 : am_at 20 20 = some (.iconst (3), 1, []) := by decide +kernel
theorem r20_21 : am_at 20 21 = some (.if_icmp .le (14), 3, [35]) := by decide +kernel
theorem r20_24 : am_at 20 24 = some (.new 93, 3, [9, 2, 1, 272, 97, 427, 36, 5, 437]) := by decide +kernel
theorem r20_35 : am_at 20 35 = some (.iload_n 1, 1, [1]) := by decide +kernel
theorem r20_36 : am_at 20 36 = some (.aload_n 0, 1, [0]) := by decide +kernel
theorem r20_37 : am_at 20 37 = some (.getfield 10, 3, [7, 0, 3, 257]) := by decide +kernel
theorem r20_40 : am_at 20 40 = some (.getfield 210, 3, [4, 0, 3, 89]) := by decide +kernel
theorem r20_43 : am_at 20 43 = some (.getfield 214, 3, [0, 4, 0, 68]) := by decide +kernel
theorem r20_46 : am_at 20 46 = some (.if_icmp .lt (5), 3, [51]) := by decide +kernel
theorem r20_49 : am_at 20 49 = some (.iconst (-1), 1, []) := by decide +kernel
theorem r20_50 : am_at 20 50 = some (.ireturn, 1, []) := by decide +kernel
theorem r20_51 : am_at 20 51 = some (.iload_n 2, 1, [2]) := by decide +kernel
theorem r20_52 : am_at 20 52 = some (.tableswitch (70) (0) (2) #[28, 43, 58], 28, [122, 0, 80, 1, 95, 2, 110]) := by decide +kernel
theorem r20_80 : am_at 20 80 = some (.aload_n 0, 1, [0]) := by decide +kernel
theorem r20_81 : am_at 20 81 = some (.getfield 10, 3, [7, 0, 3, 257]) := by decide +kernel
theorem r20_84 : am_at 20 84 = some (.getfield 210, 3, [4, 0, 3, 89]) := by decide +kernel
theorem r20_87 : am_at 20 87 = some (.getfield 274, 3, [0, 0, 3, 60]) := by decide +kernel
theorem r20_90 : am_at 20 90 = some (.iload_n 1, 1, [1]) := by decide +kernel
theorem r20_91 : am_at 20 91 = some (.invokestatic 250, 3, [180, 2, 418, 0]) := by decide +kernel
theorem r20_94 : am_at 20 94 = some (.ireturn, 1, []) := by decide +kernel
theorem r20_95 : am_at 20 95 = some (.aload_n 0, 1, [0]) := by decide +kernel
theorem r20_96 : am_at 20 96 = some (.getfield 10, 3, [7, 0, 3, 257]) := by decide +kernel
theorem r20_99 : am_at 20 99 = some (.getfield 210, 3, [4, 0, 3, 89]) := by decide +kernel
theorem r20_102 : am_at 20 102 = some (.getfield 277, 3, [0, 1, 3, 62]) := by decide +kernel
theorem r20_105 : am_at 20 105 = some (.iload_n 1, 1, [1]) := by decide +kernel
theorem r20_106 : am_at 20 106 = some (.invokestatic 250, 3, [180, 2, 418, 0]) := by decide +kernel
theorem r20_109 : am_at 20 109 = some (.ireturn, 1, []) := by decide +kernel
theorem r20_110 : am_at 20 110 = some (.aload_n 0, 1, [0]) := by decide +kernel
theorem r20_111 : am_at 20 111 = some (.getfield 10, 3, [7, 0, 3, 257]) := by decide +kernel
theorem r20_114 : am_at 20 114 = some (.getfield 210, 3, [4, 0, 3, 89]) := by decide +kernel
theorem r20_117 : am_at 20 117 = some (.iload_n 1, 1, [1]) := by decide +kernel
theorem r20_118 : am_at 20 118 = some (.invokevirtual 280, 3, [155, 2, 507, 0]) := by decide +kernel
theorem r20_121 : am_at 20 121 = some (.ireturn, 1, []) := by decide +kernel
theorem r20_122 : am_at 20 122 = some (.aload_n 0, 1, [0]) := by decide +kernel
theorem r20_123 : am_at 20 123 = some (.getfield 10, 3, [7, 0, 3, 257]) := by decide +kernel
theorem r20_126 : am_at 20 126 = some (.getfield 210, 3, [4, 0, 3, 89]) := by decide +kernel
theorem r20_129 : am_at 20 129 = some (.getfield 283, 3, [0, 3, 3, 66]) := by decide +kernel
theorem r20_132 : am_at 20 132 = some (.iload_n 1, 1, [1]) := by decide +kernel
theorem r20_133 : am_at 20 133 = some (.invokestatic 250, 3, [180, 2, 418, 0]) := by decide +kernel
theorem r20_136 : am_at 20 136 = some (.ireturn, 1, []) := by decide +kernel
theorem rt20 : am_rtt 20 = some (some .int) := by decide +kernel
set_option maxRecDepth 100000 in
theorem pg20 : am_pg[20]? = some am_m20 := rfl
theorem m20_w {d mc ms : Nat} {D : am_D} {v1 : Int32} {v2 : Int32} {Q : am_O → am_AH → Prop} (hd : 3 ≤ d) {r : (Int32 ⊕ Nat)} (h : m20 D v1 v2 = r) (hE : ∀ E, r = .inr E → 0 + 1 ≤ mc ∧ 0 + 6 ≤ ms) (hQ : Q (am_oI r) (am_mk D)) : am_X xs L 20 d mc ms 0 [.ref 0, .int v1, .int v2] [] (am_mk D) 0 0 Q := by
  unfold m20 at h
  refine x_ld (v := .int v1) r20_0 rfl rfl rfl ?_
  rcases am_ifE h with ⟨c1, h⟩ | ⟨c1, h⟩
  · refine x_ifgeT r20_1 c1 ?_
    refine x_ld (v := .int v2) r20_15 rfl rfl rfl ?_
    rcases am_ifE h with ⟨c2, h⟩ | ⟨c2, h⟩
    · refine x_ifltT r20_16 c2 ?_
      subst h
      exact x_thr r20_24 (hE _ rfl).1 (hE _ rfl).2 (Nat.le_of_ble_eq_true rfl) hQ
    · refine x_ifltF r20_16 c2 rfl ?_
      refine x_ld (v := .int v2) r20_19 rfl rfl rfl ?_
      refine x_ic (v := 3) r20_20 rfl rfl ?_
      rcases am_ifE h with ⟨c3, h⟩ | ⟨c3, h⟩
      · refine x_icleT r20_21 c3 ?_
        refine x_ld (v := .int v1) r20_35 rfl rfl rfl ?_
        refine x_ld (v := .ref 0) r20_36 rfl rfl rfl ?_
        refine y_gf (cd := 3) (v := .ref 1) r20_37 rfl rfl rfl ?_
        refine y_gf (cd := 4) (v := .ref 2) r20_40 rfl rfl rfl ?_
        refine y_gf (cd := 0) (v := .int (D.1 2 4)) r20_43 rfl rfl rfl ?_
        rcases am_ifE h with ⟨c4, h⟩ | ⟨c4, h⟩
        · refine x_icltT r20_46 c4 ?_
          refine x_ld (v := .int v2) r20_51 rfl rfl rfl ?_
          rcases am_ifE h with ⟨c5, h⟩ | ⟨c5, h⟩
          · refine x_tsw (p' := 80) r20_52 (am_swT c5) ?_
            refine x_ld (v := .ref 0) r20_80 rfl rfl rfl ?_
            refine y_gf (cd := 3) (v := .ref 1) r20_81 rfl rfl rfl ?_
            refine y_gf (cd := 4) (v := .ref 2) r20_84 rfl rfl rfl ?_
            refine y_gf (cd := 5) (v := .ref 3) r20_87 rfl rfl rfl ?_
            refine x_ld (v := .int v1) r20_90 rfl rfl rfl ?_
            refine x_call1 (as := [.ref 3, .int v1]) (rest := []) r20_91 rfl rfl rfl (by decide) (Nat.le_of_ble_eq_true rfl) (am_rows_at (n := 28) rfl (by decide)) (Nat.le_trans (by decide) hd) (Nat.zero_le _) (Nat.zero_le _) rfl ?_
            subst h
            exact x_ret (ret := some .int) (C := True) (v := some (.int _)) r20_94 rt20 rfl rfl rfl rfl rfl rfl rfl rfl trivial hQ
          · rcases am_ifE h with ⟨c6, h⟩ | ⟨c6, h⟩
            · refine x_tsw (p' := 95) r20_52 (am_swF c5 (am_swT c6)) ?_
              refine x_ld (v := .ref 0) r20_95 rfl rfl rfl ?_
              refine y_gf (cd := 3) (v := .ref 1) r20_96 rfl rfl rfl ?_
              refine y_gf (cd := 4) (v := .ref 2) r20_99 rfl rfl rfl ?_
              refine y_gf (cd := 6) (v := .ref 4) r20_102 rfl rfl rfl ?_
              refine x_ld (v := .int v1) r20_105 rfl rfl rfl ?_
              refine x_call1 (as := [.ref 4, .int v1]) (rest := []) r20_106 rfl rfl rfl (by decide) (Nat.le_of_ble_eq_true rfl) (am_rows_at (n := 28) rfl (by decide)) (Nat.le_trans (by decide) hd) (Nat.zero_le _) (Nat.zero_le _) rfl ?_
              subst h
              exact x_ret (ret := some .int) (C := True) (v := some (.int _)) r20_109 rt20 rfl rfl rfl rfl rfl rfl rfl rfl trivial hQ
            · rcases am_ifE h with ⟨c7, h⟩ | ⟨c7, h⟩
              · refine x_tsw (p' := 110) r20_52 (am_swF c5 (am_swF c6 (am_swT c7))) ?_
                refine x_ld (v := .ref 0) r20_110 rfl rfl rfl ?_
                refine y_gf (cd := 3) (v := .ref 1) r20_111 rfl rfl rfl ?_
                refine y_gf (cd := 4) (v := .ref 2) r20_114 rfl rfl rfl ?_
                refine x_ld (v := .int v1) r20_117 rfl rfl rfl ?_
                refine x_call1 (as := [.ref 2, .int v1]) (rest := []) r20_118 rfl rfl rfl (by decide) (Nat.le_of_ble_eq_true rfl) (m155_ok rfl) (Nat.le_trans (by decide) hd) (Nat.zero_le _) (Nat.zero_le _) rfl ?_
                subst h
                exact x_ret (ret := some .int) (C := True) (v := some (.int _)) r20_121 rt20 rfl rfl rfl rfl rfl rfl rfl rfl trivial hQ
              · refine x_tsw (p' := 122) r20_52 (am_swF c5 (am_swF c6 (am_swF c7 (rfl)))) ?_
                refine x_ld (v := .ref 0) r20_122 rfl rfl rfl ?_
                refine y_gf (cd := 3) (v := .ref 1) r20_123 rfl rfl rfl ?_
                refine y_gf (cd := 4) (v := .ref 2) r20_126 rfl rfl rfl ?_
                refine y_gf (cd := 8) (v := .ref 6) r20_129 rfl rfl rfl ?_
                refine x_ld (v := .int v1) r20_132 rfl rfl rfl ?_
                refine x_call1 (as := [.ref 6, .int v1]) (rest := []) r20_133 rfl rfl rfl (by decide) (Nat.le_of_ble_eq_true rfl) (am_rows_at (n := 28) rfl (by decide)) (Nat.le_trans (by decide) hd) (Nat.zero_le _) (Nat.zero_le _) rfl ?_
                subst h
                exact x_ret (ret := some .int) (C := True) (v := some (.int _)) r20_136 rt20 rfl rfl rfl rfl rfl rfl rfl rfl trivial hQ
        · refine x_icltF r20_46 c4 rfl ?_
          refine x_ic (v := -1) r20_49 rfl rfl ?_
          subst h
          exact x_ret (ret := some .int) (C := True) (v := some (.int _)) r20_50 rt20 rfl rfl rfl rfl rfl rfl rfl rfl trivial hQ
      · refine x_icleF r20_21 c3 rfl ?_
        subst h
        exact x_thr r20_24 (hE _ rfl).1 (hE _ rfl).2 (Nat.le_of_ble_eq_true rfl) hQ
  · refine x_ifgeF r20_1 c1 rfl ?_
    subst h
    exact x_thr r20_4 (hE _ rfl).1 (hE _ rfl).2 (Nat.le_of_ble_eq_true rfl) hQ
theorem m20_okv {D : am_D} {v1 : Int32} {v2 : Int32} {r : (Int32 ⊕ Nat)} {v : Int32} (h : m20 D v1 v2 = r) (hv : am_inl r = some v) : am_Y xs L 20 3 0 0 [.ref 0, .int v1, .int v2] D (.inl (some (.int v))) D := am_Yof (mi := am_m20) (lc := [.ref 0, .int v1, .int v2]) pg20 (Nat.le_of_ble_eq_true rfl) (am_rc1 (ci := 7) rfl rfl rfl rfl rfl) rfl (fun Q hQ => m20_w (Nat.le_refl _) h (fun E e => by rw [e] at hv; cases hv) (by rw [am_inlE hv]; exact hQ))
theorem m20_exv {D : am_D} {v1 : Int32} {v2 : Int32} {r : (Int32 ⊕ Nat)} {E : Nat} (h : m20 D v1 v2 = r) (hv : r = .inr E) : am_Y xs L 20 3 1 6 [.ref 0, .int v1, .int v2] D (.inr E) D := am_Yof (mi := am_m20) (lc := [.ref 0, .int v1, .int v2]) pg20 (Nat.le_of_ble_eq_true rfl) (am_rc1 (ci := 7) rfl rfl rfl rfl rfl) rfl (fun Q hQ => m20_w (Nat.le_refl _) h (fun E e => ⟨Nat.le_refl _, Nat.le_refl _⟩) (by rw [hv]; exact hQ))
theorem r21_0 : am_at 21 0 = some (.iload_n 1, 1, [1]) := by decide +kernel
theorem r21_1 : am_at 21 1 = some (.invokestatic 58, 3, [40, 1, 516, 0]) := by decide +kernel
theorem r21_4 : am_at 21 4 = some (.ifCond .ne (13), 3, [17]) := by decide +kernel
theorem r21_7 : am_at 21 7 = some (.new 65, 3, [9, 1, 0, 107, 69, 463, 34, 6, 473]) := by decide +kernel
theorem r21_17 : am_at 21 17 = some (.iload_n 2, 1, [2]) := by decide +kernel
theorem r21_18 : am_at 21 18 = some (.tableswitch (157) (0) (9) #[54, 63, 72, 84, 96, 105, 117, 126, 135, 144], 54, [175, 0, 72, 1, 81, 2, 90, 3, 102, 4, 114, 5, 123, 6, 135, 7, 144, 8, 153, 9, 162]) := by decide +kernel
theorem r21_72 : am_at 21 72 = some (.aload_n 0, 1, [0]) := by decide +kernel
theorem r21_73 : am_at 21 73 = some (.getfield 10, 3, [7, 0, 3, 257]) := by decide +kernel
theorem r21_76 : am_at 21 76 = some (.iload_n 1, 1, [1]) := by decide +kernel
theorem r21_77 : am_at 21 77 = some (.invokevirtual 89, 3, [204, 2, 419, 0]) := by decide +kernel
theorem r21_80 : am_at 21 80 = some (.ireturn, 1, []) := by decide +kernel
theorem r21_81 : am_at 21 81 = some (.aload_n 0, 1, [0]) := by decide +kernel
theorem r21_82 : am_at 21 82 = some (.getfield 10, 3, [7, 0, 3, 257]) := by decide +kernel
theorem r21_85 : am_at 21 85 = some (.iload_n 1, 1, [1]) := by decide +kernel
theorem r21_86 : am_at 21 86 = some (.invokevirtual 286, 3, [205, 2, 520, 0]) := by decide +kernel
theorem r21_89 : am_at 21 89 = some (.ireturn, 1, []) := by decide +kernel
theorem r21_90 : am_at 21 90 = some (.aload_n 0, 1, [0]) := by decide +kernel
theorem r21_91 : am_at 21 91 = some (.getfield 10, 3, [7, 0, 3, 257]) := by decide +kernel
theorem r21_94 : am_at 21 94 = some (.getfield 289, 3, [4, 2, 3, 92]) := by decide +kernel
theorem r21_97 : am_at 21 97 = some (.iload_n 1, 1, [1]) := by decide +kernel
theorem r21_98 : am_at 21 98 = some (.invokestatic 250, 3, [180, 2, 418, 0]) := by decide +kernel
theorem r21_101 : am_at 21 101 = some (.ireturn, 1, []) := by decide +kernel
theorem r21_102 : am_at 21 102 = some (.aload_n 0, 1, [0]) := by decide +kernel
theorem r21_103 : am_at 21 103 = some (.getfield 10, 3, [7, 0, 3, 257]) := by decide +kernel
theorem r21_106 : am_at 21 106 = some (.getfield 292, 3, [4, 3, 3, 95]) := by decide +kernel
theorem r21_109 : am_at 21 109 = some (.iload_n 1, 1, [1]) := by decide +kernel
theorem r21_110 : am_at 21 110 = some (.invokestatic 250, 3, [180, 2, 418, 0]) := by decide +kernel
theorem r21_113 : am_at 21 113 = some (.ireturn, 1, []) := by decide +kernel
theorem r21_114 : am_at 21 114 = some (.aload_n 0, 1, [0]) := by decide +kernel
theorem r21_115 : am_at 21 115 = some (.getfield 10, 3, [7, 0, 3, 257]) := by decide +kernel
theorem r21_118 : am_at 21 118 = some (.iload_n 1, 1, [1]) := by decide +kernel
theorem r21_119 : am_at 21 119 = some (.invokevirtual 295, 3, [208, 2, 525, 0]) := by decide +kernel
theorem r21_122 : am_at 21 122 = some (.ireturn, 1, []) := by decide +kernel
theorem r21_123 : am_at 21 123 = some (.aload_n 0, 1, [0]) := by decide +kernel
theorem r21_124 : am_at 21 124 = some (.getfield 10, 3, [7, 0, 3, 257]) := by decide +kernel
theorem r21_127 : am_at 21 127 = some (.getfield 298, 3, [4, 4, 3, 97]) := by decide +kernel
theorem r21_130 : am_at 21 130 = some (.iload_n 1, 1, [1]) := by decide +kernel
theorem r21_131 : am_at 21 131 = some (.invokestatic 250, 3, [180, 2, 418, 0]) := by decide +kernel
theorem r21_134 : am_at 21 134 = some (.ireturn, 1, []) := by decide +kernel
theorem r21_135 : am_at 21 135 = some (.aload_n 0, 1, [0]) := by decide +kernel
theorem r21_136 : am_at 21 136 = some (.getfield 10, 3, [7, 0, 3, 257]) := by decide +kernel
theorem r21_139 : am_at 21 139 = some (.iload_n 1, 1, [1]) := by decide +kernel
theorem r21_140 : am_at 21 140 = some (.invokevirtual 119, 3, [206, 2, 530, 0]) := by decide +kernel
theorem r21_143 : am_at 21 143 = some (.ireturn, 1, []) := by decide +kernel
theorem r21_144 : am_at 21 144 = some (.aload_n 0, 1, [0]) := by decide +kernel
theorem r21_145 : am_at 21 145 = some (.getfield 10, 3, [7, 0, 3, 257]) := by decide +kernel
theorem r21_148 : am_at 21 148 = some (.iload_n 1, 1, [1]) := by decide +kernel
theorem r21_149 : am_at 21 149 = some (.invokevirtual 301, 3, [207, 2, 537, 0]) := by decide +kernel
theorem r21_152 : am_at 21 152 = some (.ireturn, 1, []) := by decide +kernel
theorem r21_153 : am_at 21 153 = some (.aload_n 0, 1, [0]) := by decide +kernel
theorem r21_154 : am_at 21 154 = some (.getfield 10, 3, [7, 0, 3, 257]) := by decide +kernel
theorem r21_157 : am_at 21 157 = some (.iload_n 1, 1, [1]) := by decide +kernel
theorem r21_158 : am_at 21 158 = some (.invokevirtual 142, 3, [221, 2, 541, 0]) := by decide +kernel
theorem r21_161 : am_at 21 161 = some (.ireturn, 1, []) := by decide +kernel
theorem r21_162 : am_at 21 162 = some (.aload_n 0, 1, [0]) := by decide +kernel
theorem r21_163 : am_at 21 163 = some (.getfield 50, 3, [7, 6, 3, 263]) := by decide +kernel
theorem r21_166 : am_at 21 166 = some (.aload_n 0, 1, [0]) := by decide +kernel
theorem r21_167 : am_at 21 167 = some (.getfield 10, 3, [7, 0, 3, 257]) := by decide +kernel
theorem r21_170 : am_at 21 170 = some (.iload_n 1, 1, [1]) := by decide +kernel
theorem r21_171 : am_at 21 171 = some (.invokevirtual 304, 3, [258, 3, 546, 0]) := by decide +kernel
theorem r21_174 : am_at 21 174 = some (.ireturn, 1, []) := by decide +kernel
theorem r21_175 : am_at 21 175 = some (.new 93, 3, [9, 2, 1, 308, 97, 427, 36, 7, 437]) := by decide +kernel
theorem rt21 : am_rtt 21 = some (some .int) := by decide +kernel
set_option maxRecDepth 100000 in
theorem pg21 : am_pg[21]? = some am_m21 := rfl
theorem m21_w {d mc ms : Nat} {N : Nat} {D : am_D} {v1 : Int32} {v2 : Int32} {Q : am_O → am_AH → Prop} (hd : 15 ≤ d) {r : (Int32 ⊕ Nat) × am_D} (h : m21 N D v1 v2 = some r) (hE : ∀ E, r.1 = .inr E → 0 + 1 ≤ mc ∧ 0 + 6 ≤ ms) (hQ : Q (am_oI r.1) (am_mk r.2)) : am_X xs L 21 d mc ms 0 [.ref 0, .int v1, .int v2] [] (am_mk D) 0 0 Q := by
  unfold m21 at h
  refine x_ld (v := .int v1) r21_0 rfl rfl rfl ?_
  refine x_call1 (as := [.int v1]) (rest := []) r21_1 rfl rfl rfl (by decide) (Nat.le_of_ble_eq_true rfl) (m40_ok rfl) (Nat.le_trans (by decide) hd) (Nat.zero_le _) (Nat.zero_le _) rfl ?_
  rcases am_ifE h with ⟨c1, h⟩ | ⟨c1, h⟩
  · refine x_ifneT r21_4 c1 rfl ?_
    cases h
    exact x_thr r21_7 (hE _ rfl).1 (hE _ rfl).2 (Nat.le_of_ble_eq_true rfl) hQ
  · refine x_ifneF r21_4 c1 ?_
    refine x_ld (v := .int v2) r21_17 rfl rfl rfl ?_
    rcases am_ifE h with ⟨c2, h⟩ | ⟨c2, h⟩
    · refine x_tsw (p' := 72) r21_18 (am_swT c2) ?_
      refine x_ld (v := .ref 0) r21_72 rfl rfl rfl ?_
      refine y_gf (cd := 3) (v := .ref 1) r21_73 rfl rfl rfl ?_
      refine x_ld (v := .int v1) r21_76 rfl rfl rfl ?_
      obtain ⟨q3, h4, h⟩ := Option.bind_eq_some_iff.mp h
      refine x_call1 (as := [.ref 1, .int v1]) (rest := []) r21_77 rfl rfl rfl (by decide) (Nat.le_of_ble_eq_true rfl) (m204_ok h4) (Nat.le_trans (by decide) hd) (Nat.zero_le _) (Nat.zero_le _) rfl ?_
      cases h
      exact x_ret (ret := some .int) (C := True) (v := some (.int _)) r21_80 rt21 rfl rfl rfl rfl rfl rfl rfl rfl trivial hQ
    · rcases am_ifE h with ⟨c5, h⟩ | ⟨c5, h⟩
      · refine x_tsw (p' := 81) r21_18 (am_swF c2 (am_swT c5)) ?_
        refine x_ld (v := .ref 0) r21_81 rfl rfl rfl ?_
        refine y_gf (cd := 3) (v := .ref 1) r21_82 rfl rfl rfl ?_
        refine x_ld (v := .int v1) r21_85 rfl rfl rfl ?_
        obtain ⟨q6, h7, h⟩ := Option.bind_eq_some_iff.mp h
        refine x_call1 (as := [.ref 1, .int v1]) (rest := []) r21_86 rfl rfl rfl (by decide) (Nat.le_of_ble_eq_true rfl) (m205_ok h7) (Nat.le_trans (by decide) hd) (Nat.zero_le _) (Nat.zero_le _) rfl ?_
        cases h
        exact x_ret (ret := some .int) (C := True) (v := some (.int _)) r21_89 rt21 rfl rfl rfl rfl rfl rfl rfl rfl trivial hQ
      · rcases am_ifE h with ⟨c8, h⟩ | ⟨c8, h⟩
        · refine x_tsw (p' := 90) r21_18 (am_swF c2 (am_swF c5 (am_swT c8))) ?_
          refine x_ld (v := .ref 0) r21_90 rfl rfl rfl ?_
          refine y_gf (cd := 3) (v := .ref 1) r21_91 rfl rfl rfl ?_
          refine y_gf (cd := 10) (v := .ref 8) r21_94 rfl rfl rfl ?_
          refine x_ld (v := .int v1) r21_97 rfl rfl rfl ?_
          refine x_call1 (as := [.ref 8, .int v1]) (rest := []) r21_98 rfl rfl rfl (by decide) (Nat.le_of_ble_eq_true rfl) (am_rows_at (n := 4) rfl (by decide)) (Nat.le_trans (by decide) hd) (Nat.zero_le _) (Nat.zero_le _) rfl ?_
          cases h
          exact x_ret (ret := some .int) (C := True) (v := some (.int _)) r21_101 rt21 rfl rfl rfl rfl rfl rfl rfl rfl trivial hQ
        · rcases am_ifE h with ⟨c9, h⟩ | ⟨c9, h⟩
          · refine x_tsw (p' := 102) r21_18 (am_swF c2 (am_swF c5 (am_swF c8 (am_swT c9)))) ?_
            refine x_ld (v := .ref 0) r21_102 rfl rfl rfl ?_
            refine y_gf (cd := 3) (v := .ref 1) r21_103 rfl rfl rfl ?_
            refine y_gf (cd := 11) (v := .ref 9) r21_106 rfl rfl rfl ?_
            refine x_ld (v := .int v1) r21_109 rfl rfl rfl ?_
            refine x_call1 (as := [.ref 9, .int v1]) (rest := []) r21_110 rfl rfl rfl (by decide) (Nat.le_of_ble_eq_true rfl) (am_rows_at (n := 4) rfl (by decide)) (Nat.le_trans (by decide) hd) (Nat.zero_le _) (Nat.zero_le _) rfl ?_
            cases h
            exact x_ret (ret := some .int) (C := True) (v := some (.int _)) r21_113 rt21 rfl rfl rfl rfl rfl rfl rfl rfl trivial hQ
          · rcases am_ifE h with ⟨c10, h⟩ | ⟨c10, h⟩
            · refine x_tsw (p' := 114) r21_18 (am_swF c2 (am_swF c5 (am_swF c8 (am_swF c9 (am_swT c10))))) ?_
              refine x_ld (v := .ref 0) r21_114 rfl rfl rfl ?_
              refine y_gf (cd := 3) (v := .ref 1) r21_115 rfl rfl rfl ?_
              refine x_ld (v := .int v1) r21_118 rfl rfl rfl ?_
              obtain ⟨q11, h12, h⟩ := Option.bind_eq_some_iff.mp h
              refine x_call1 (as := [.ref 1, .int v1]) (rest := []) r21_119 rfl rfl rfl (by decide) (Nat.le_of_ble_eq_true rfl) (m208_ok h12) (Nat.le_trans (by decide) hd) (Nat.zero_le _) (Nat.zero_le _) rfl ?_
              cases h
              exact x_ret (ret := some .int) (C := True) (v := some (.int _)) r21_122 rt21 rfl rfl rfl rfl rfl rfl rfl rfl trivial hQ
            · rcases am_ifE h with ⟨c13, h⟩ | ⟨c13, h⟩
              · refine x_tsw (p' := 123) r21_18 (am_swF c2 (am_swF c5 (am_swF c8 (am_swF c9 (am_swF c10 (am_swT c13)))))) ?_
                refine x_ld (v := .ref 0) r21_123 rfl rfl rfl ?_
                refine y_gf (cd := 3) (v := .ref 1) r21_124 rfl rfl rfl ?_
                refine y_gf (cd := 12) (v := .ref 10) r21_127 rfl rfl rfl ?_
                refine x_ld (v := .int v1) r21_130 rfl rfl rfl ?_
                refine x_call1 (as := [.ref 10, .int v1]) (rest := []) r21_131 rfl rfl rfl (by decide) (Nat.le_of_ble_eq_true rfl) (am_rows_at (n := 4) rfl (by decide)) (Nat.le_trans (by decide) hd) (Nat.zero_le _) (Nat.zero_le _) rfl ?_
                cases h
                exact x_ret (ret := some .int) (C := True) (v := some (.int _)) r21_134 rt21 rfl rfl rfl rfl rfl rfl rfl rfl trivial hQ
              · rcases am_ifE h with ⟨c14, h⟩ | ⟨c14, h⟩
                · refine x_tsw (p' := 135) r21_18 (am_swF c2 (am_swF c5 (am_swF c8 (am_swF c9 (am_swF c10 (am_swF c13 (am_swT c14))))))) ?_
                  refine x_ld (v := .ref 0) r21_135 rfl rfl rfl ?_
                  refine y_gf (cd := 3) (v := .ref 1) r21_136 rfl rfl rfl ?_
                  refine x_ld (v := .int v1) r21_139 rfl rfl rfl ?_
                  obtain ⟨q15, h16, h⟩ := Option.bind_eq_some_iff.mp h
                  refine x_call1 (as := [.ref 1, .int v1]) (rest := []) r21_140 rfl rfl rfl (by decide) (Nat.le_of_ble_eq_true rfl) (m206_ok h16) (Nat.le_trans (by decide) hd) (Nat.zero_le _) (Nat.zero_le _) rfl ?_
                  cases h
                  exact x_ret (ret := some .int) (C := True) (v := some (.int _)) r21_143 rt21 rfl rfl rfl rfl rfl rfl rfl rfl trivial hQ
                · rcases am_ifE h with ⟨c17, h⟩ | ⟨c17, h⟩
                  · refine x_tsw (p' := 144) r21_18 (am_swF c2 (am_swF c5 (am_swF c8 (am_swF c9 (am_swF c10 (am_swF c13 (am_swF c14 (am_swT c17)))))))) ?_
                    refine x_ld (v := .ref 0) r21_144 rfl rfl rfl ?_
                    refine y_gf (cd := 3) (v := .ref 1) r21_145 rfl rfl rfl ?_
                    refine x_ld (v := .int v1) r21_148 rfl rfl rfl ?_
                    obtain ⟨q18, h19, h⟩ := Option.bind_eq_some_iff.mp h
                    refine x_call1 (as := [.ref 1, .int v1]) (rest := []) r21_149 rfl rfl rfl (by decide) (Nat.le_of_ble_eq_true rfl) (m207_ok h19) (Nat.le_trans (by decide) hd) (Nat.zero_le _) (Nat.zero_le _) rfl ?_
                    cases h
                    exact x_ret (ret := some .int) (C := True) (v := some (.int _)) r21_152 rt21 rfl rfl rfl rfl rfl rfl rfl rfl trivial hQ
                  · rcases am_ifE h with ⟨c20, h⟩ | ⟨c20, h⟩
                    · refine x_tsw (p' := 153) r21_18 (am_swF c2 (am_swF c5 (am_swF c8 (am_swF c9 (am_swF c10 (am_swF c13 (am_swF c14 (am_swF c17 (am_swT c20))))))))) ?_
                      refine x_ld (v := .ref 0) r21_153 rfl rfl rfl ?_
                      refine y_gf (cd := 3) (v := .ref 1) r21_154 rfl rfl rfl ?_
                      refine x_ld (v := .int v1) r21_157 rfl rfl rfl ?_
                      obtain ⟨q21, h22, h⟩ := Option.bind_eq_some_iff.mp h
                      refine x_call1 (as := [.ref 1, .int v1]) (rest := []) r21_158 rfl rfl rfl (by decide) (Nat.le_of_ble_eq_true rfl) (m221_ok h22) (Nat.le_trans (by decide) hd) (Nat.zero_le _) (Nat.zero_le _) rfl ?_
                      cases h
                      exact x_ret (ret := some .int) (C := True) (v := some (.int _)) r21_161 rt21 rfl rfl rfl rfl rfl rfl rfl rfl trivial hQ
                    · rcases am_ifE h with ⟨c23, h⟩ | ⟨c23, h⟩
                      · refine x_tsw (p' := 162) r21_18 (am_swF c2 (am_swF c5 (am_swF c8 (am_swF c9 (am_swF c10 (am_swF c13 (am_swF c14 (am_swF c17 (am_swF c20 (am_swT c23)))))))))) ?_
                        refine x_ld (v := .ref 0) r21_162 rfl rfl rfl ?_
                        refine y_gf (cd := 106) (v := .ref 104) r21_163 rfl rfl rfl ?_
                        refine x_ld (v := .ref 0) r21_166 rfl rfl rfl ?_
                        refine y_gf (cd := 3) (v := .ref 1) r21_167 rfl rfl rfl ?_
                        refine x_ld (v := .int v1) r21_170 rfl rfl rfl ?_
                        obtain ⟨q24, h25, h⟩ := Option.bind_eq_some_iff.mp h
                        refine x_call1 (as := [.ref 104, .ref 1, .int v1]) (rest := []) r21_171 rfl rfl rfl (by decide) (Nat.le_of_ble_eq_true rfl) (m258_ok h25) (Nat.le_trans (by decide) hd) (Nat.zero_le _) (Nat.zero_le _) rfl ?_
                        cases h
                        exact x_ret (ret := some .int) (C := True) (v := some (.int _)) r21_174 rt21 rfl rfl rfl rfl rfl rfl rfl rfl trivial hQ
                      · refine x_tsw (p' := 175) r21_18 (am_swF c2 (am_swF c5 (am_swF c8 (am_swF c9 (am_swF c10 (am_swF c13 (am_swF c14 (am_swF c17 (am_swF c20 (am_swF c23 (rfl))))))))))) ?_
                        cases h
                        exact x_thr r21_175 (hE _ rfl).1 (hE _ rfl).2 (Nat.le_of_ble_eq_true rfl) hQ
theorem m21_okv {N : Nat} {D : am_D} {v1 : Int32} {v2 : Int32} {r : (Int32 ⊕ Nat) × am_D} {v : Int32} (h : m21 N D v1 v2 = some r) (hv : am_inl r.1 = some v) : am_Y xs L 21 15 0 0 [.ref 0, .int v1, .int v2] D (.inl (some (.int v))) r.2 := am_Yof (mi := am_m21) (lc := [.ref 0, .int v1, .int v2]) pg21 (Nat.le_of_ble_eq_true rfl) (am_rc1 (ci := 7) rfl rfl rfl rfl rfl) rfl (fun Q hQ => m21_w (Nat.le_refl _) h (fun E e => by rw [e] at hv; cases hv) (by rw [am_inlE hv]; exact hQ))
theorem m21_exv {N : Nat} {D : am_D} {v1 : Int32} {v2 : Int32} {r : (Int32 ⊕ Nat) × am_D} {E : Nat} (h : m21 N D v1 v2 = some r) (hv : r.1 = .inr E) : am_Y xs L 21 15 1 6 [.ref 0, .int v1, .int v2] D (.inr E) r.2 := am_Yof (mi := am_m21) (lc := [.ref 0, .int v1, .int v2]) pg21 (Nat.le_of_ble_eq_true rfl) (am_rc1 (ci := 7) rfl rfl rfl rfl rfl) rfl (fun Q hQ => m21_w (Nat.le_refl _) h (fun E e => ⟨Nat.le_refl _, Nat.le_refl _⟩) (by rw [hv]; exact hQ))
end XE
