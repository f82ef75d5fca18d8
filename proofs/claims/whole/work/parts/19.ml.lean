/-! methods as functions, with their walks (by wip/tools/decomp.py): 149 150 155 157 158 159 160 162 163 164 175 178 179 -/
section XE
variable {xs : Nat → Int32} {L : Nat}
theorem r149_0 : am_at 149 0 = some (.iconst (0), 1, []) := by decide +kernel
theorem r149_1 : am_at 149 1 = some (.istore_n 1, 1, [1]) := by decide +kernel
theorem r149_2 : am_at 149 2 = some (.iload_n 1, 1, [1]) := by decide +kernel
theorem r149_3 : am_at 149 3 = some (.iconst (4), 1, []) := by decide +kernel
theorem r149_4 : am_at 149 4 = some (.if_icmp .ge (54), 3, [58]) := by decide +kernel
theorem r149_7 : am_at 149 7 = some (.iconst (0), 1, []) := by decide +kernel
theorem r149_8 : am_at 149 8 = some (.istore_n 2, 1, [2]) := by decide +kernel
theorem r149_9 : am_at 149 9 = some (.iload_n 2, 1, [2]) := by decide +kernel
theorem r149_10 : am_at 149 10 = some (.bipush (10), 2, []) := by decide +kernel
theorem r149_12 : am_at 149 12 = some (.if_icmp .ge (20), 3, [32]) := by decide +kernel
theorem r149_15 : am_at 149 15 = some (.aload_n 0, 1, [0]) := by decide +kernel
theorem r149_16 : am_at 149 16 = some (.aload_n 0, 1, [0]) := by decide +kernel
theorem r149_17 : am_at 149 17 = some (.iload_n 1, 1, [1]) := by decide +kernel
theorem r149_18 : am_at 149 18 = some (.iload_n 2, 1, [2]) := by decide +kernel
theorem r149_19 : am_at 149 19 = some (.invokevirtual 240, 3, [115, 3, 1560, 0]) := by decide +kernel
theorem r149_22 : am_at 149 22 = some (.i2l, 1, []) := by decide +kernel
theorem r149_23 : am_at 149 23 = some (.invokevirtual 328, 3, [146, 2, 1696, 0]) := by decide +kernel
theorem r149_26 : am_at 149 26 = some (.iinc 2 (1), 3, [2]) := by decide +kernel
theorem r149_29 : am_at 149 29 = some (.goto (-20), 3, [9]) := by decide +kernel
theorem r149_32 : am_at 149 32 = some (.aload_n 0, 1, [0]) := by decide +kernel
theorem r149_33 : am_at 149 33 = some (.iload_n 1, 1, [1]) := by decide +kernel
theorem r149_34 : am_at 149 34 = some (.iconst (-1), 1, []) := by decide +kernel
theorem r149_35 : am_at 149 35 = some (.iconst (-1), 1, []) := by decide +kernel
theorem r149_36 : am_at 149 36 = some (.invokevirtual 253, 3, [121, 4, 1592, 0]) := by decide +kernel
theorem r149_39 : am_at 149 39 = some (.istore_n 2, 1, [2]) := by decide +kernel
theorem r149_40 : am_at 149 40 = some (.aload_n 0, 1, [0]) := by decide +kernel
theorem r149_41 : am_at 149 41 = some (.iload_n 2, 1, [2]) := by decide +kernel
theorem r149_42 : am_at 149 42 = some (.i2l, 1, []) := by decide +kernel
theorem r149_43 : am_at 149 43 = some (.invokevirtual 328, 3, [146, 2, 1696, 0]) := by decide +kernel
theorem r149_46 : am_at 149 46 = some (.aload_n 0, 1, [0]) := by decide +kernel
theorem r149_47 : am_at 149 47 = some (.iload_n 2, 1, [2]) := by decide +kernel
theorem r149_48 : am_at 149 48 = some (.i2l, 1, []) := by decide +kernel
theorem r149_49 : am_at 149 49 = some (.invokevirtual 328, 3, [146, 2, 1696, 0]) := by decide +kernel
theorem r149_52 : am_at 149 52 = some (.iinc 1 (1), 3, [1]) := by decide +kernel
theorem r149_55 : am_at 149 55 = some (.goto (-53), 3, [2]) := by decide +kernel
theorem r149_58 : am_at 149 58 = some (.iconst (1), 1, []) := by decide +kernel
theorem r149_59 : am_at 149 59 = some (.istore_n 1, 1, [1]) := by decide +kernel
theorem r149_60 : am_at 149 60 = some (.iload_n 1, 1, [1]) := by decide +kernel
theorem r149_61 : am_at 149 61 = some (.iconst (4), 1, []) := by decide +kernel
theorem r149_62 : am_at 149 62 = some (.if_icmp .ge (47), 3, [109]) := by decide +kernel
theorem r149_65 : am_at 149 65 = some (.aload_n 0, 1, [0]) := by decide +kernel
theorem r149_66 : am_at 149 66 = some (.aload_n 0, 1, [0]) := by decide +kernel
theorem r149_67 : am_at 149 67 = some (.iconst (0), 1, []) := by decide +kernel
theorem r149_68 : am_at 149 68 = some (.iload_n 1, 1, [1]) := by decide +kernel
theorem r149_69 : am_at 149 69 = some (.iconst (0), 1, []) := by decide +kernel
theorem r149_70 : am_at 149 70 = some (.invokevirtual 256, 3, [124, 4, 1608, 0]) := by decide +kernel
theorem r149_73 : am_at 149 73 = some (.i2l, 1, []) := by decide +kernel
theorem r149_74 : am_at 149 74 = some (.invokevirtual 328, 3, [146, 2, 1696, 0]) := by decide +kernel
theorem r149_77 : am_at 149 77 = some (.aload_n 0, 1, [0]) := by decide +kernel
theorem r149_78 : am_at 149 78 = some (.aload_n 0, 1, [0]) := by decide +kernel
theorem r149_79 : am_at 149 79 = some (.iconst (0), 1, []) := by decide +kernel
theorem r149_80 : am_at 149 80 = some (.iload_n 1, 1, [1]) := by decide +kernel
theorem r149_81 : am_at 149 81 = some (.bipush (13), 2, []) := by decide +kernel
theorem r149_83 : am_at 149 83 = some (.invokevirtual 256, 3, [124, 4, 1608, 0]) := by decide +kernel
theorem r149_86 : am_at 149 86 = some (.i2l, 1, []) := by decide +kernel
theorem r149_87 : am_at 149 87 = some (.invokevirtual 328, 3, [146, 2, 1696, 0]) := by decide +kernel
theorem r149_90 : am_at 149 90 = some (.aload_n 0, 1, [0]) := by decide +kernel
theorem r149_91 : am_at 149 91 = some (.aload_n 0, 1, [0]) := by decide +kernel
theorem r149_92 : am_at 149 92 = some (.iconst (0), 1, []) := by decide +kernel
theorem r149_93 : am_at 149 93 = some (.iload_n 1, 1, [1]) := by decide +kernel
theorem r149_94 : am_at 149 94 = some (.bipush (27), 2, []) := by decide +kernel
theorem r149_96 : am_at 149 96 = some (.invokevirtual 256, 3, [124, 4, 1608, 0]) := by decide +kernel
theorem r149_99 : am_at 149 99 = some (.i2l, 1, []) := by decide +kernel
theorem r149_100 : am_at 149 100 = some (.invokevirtual 328, 3, [146, 2, 1696, 0]) := by decide +kernel
theorem r149_103 : am_at 149 103 = some (.iinc 1 (1), 3, [1]) := by decide +kernel
theorem r149_106 : am_at 149 106 = some (.goto (-46), 3, [60]) := by decide +kernel
theorem r149_109 : am_at 149 109 = some (.iconst (0), 1, []) := by decide +kernel
theorem r149_110 : am_at 149 110 = some (.istore_n 1, 1, [1]) := by decide +kernel
theorem r149_111 : am_at 149 111 = some (.iload_n 1, 1, [1]) := by decide +kernel
theorem r149_112 : am_at 149 112 = some (.iconst (4), 1, []) := by decide +kernel
theorem r149_113 : am_at 149 113 = some (.if_icmp .ge (20), 3, [133]) := by decide +kernel
theorem r149_116 : am_at 149 116 = some (.aload_n 0, 1, [0]) := by decide +kernel
theorem r149_117 : am_at 149 117 = some (.aload_n 0, 1, [0]) := by decide +kernel
theorem r149_118 : am_at 149 118 = some (.iconst (1), 1, []) := by decide +kernel
theorem r149_119 : am_at 149 119 = some (.iload_n 1, 1, [1]) := by decide +kernel
theorem r149_120 : am_at 149 120 = some (.invokevirtual 259, 3, [126, 3, 1616, 0]) := by decide +kernel
theorem r149_123 : am_at 149 123 = some (.i2l, 1, []) := by decide +kernel
theorem r149_124 : am_at 149 124 = some (.invokevirtual 328, 3, [146, 2, 1696, 0]) := by decide +kernel
theorem r149_127 : am_at 149 127 = some (.iinc 1 (1), 3, [1]) := by decide +kernel
theorem r149_130 : am_at 149 130 = some (.goto (-19), 3, [111]) := by decide +kernel
theorem r149_133 : am_at 149 133 = some (.return_, 1, []) := by decide +kernel
theorem rt149 : am_rtt 149 = some (none) := by decide +kernel
set_option maxRecDepth 100000 in
theorem pg149 : am_pg[149]? = some am_m149 := rfl
theorem m149_L9_w {d : Nat} {N : Nat} {v1 : Int32} {mc ms : Nat} {Q : am_O → am_AH → Prop} (hd : 9 ≤ d) : ∀ (n : Nat) (D : am_D) (v2 : Int32) {q : am_D} (h : m149_L9 N v1  n D v2 = some q) (k0 : am_X xs L 149 d mc ms 32 [.ref 106, .int v1, am_dead] [] (am_mk q) 0 0 Q), am_X xs L 149 d mc ms 9 [.ref 106, .int v1, .int v2] [] (am_mk D) 0 0 Q := by
  intro n
  induction n with
  | zero =>
    intro D v2 q h k0
    exact (nomatch (show none = some q from h))
  | succ n ih =>
    intro D v2 q h k0
    rw [m149_L9] at h
    refine x_ld (v := .int v2) r149_9 rfl rfl rfl ?_
    refine x_bi (v := 10) r149_10 rfl rfl ?_
    rcases am_ifE h with ⟨c2, h⟩ | ⟨c2, h⟩
    · refine x_icgeT r149_12 c2 ?_
      refine x_forget (lc0 := [.ref 106, .int v1, am_dead]) ⟨Or.inl rfl, Or.inl rfl, Or.inr ⟨rfl, rfl⟩, trivial⟩ ?_
      cases h
      exact k0
    · refine x_icgeF r149_12 c2 rfl ?_
      refine x_ld (v := .ref 106) r149_15 rfl rfl rfl ?_
      refine x_ld (v := .ref 106) r149_16 rfl rfl rfl ?_
      refine x_ld (v := .int v1) r149_17 rfl rfl rfl ?_
      refine x_ld (v := .int v2) r149_18 rfl rfl rfl ?_
      obtain ⟨q3, h4, h⟩ := Option.bind_eq_some_iff.mp h
      refine x_call1 (as := [.ref 106, .int v1, .int v2]) (rest := [.ref 106]) r149_19 rfl rfl rfl (by decide) (Nat.le_of_ble_eq_true rfl) (m115_ok h4) (Nat.le_trans (by decide) hd) (Nat.zero_le _) (Nat.zero_le _) rfl ?_
      refine x_ar r149_22 rfl trivial rfl ?_
      obtain ⟨q5, h6, h⟩ := am_ltE h
      replace h6 := h6.symm
      refine x_call0 (as := [.ref 106, .long ((q3.1).toInt64)]) (rest := []) r149_23 rfl rfl rfl (by decide) (Nat.le_of_ble_eq_true rfl) (m146_ok h6) (Nat.le_trans (by decide) hd) (Nat.zero_le _) (Nat.zero_le _) rfl ?_
      obtain ⟨x7, e8, h⟩ := am_ltE h
      refine x_sto (lc' := [.ref 106, .int v1, .int x7]) r149_26 rfl rfl (by subst e8; rfl) rfl ?_
      refine x_goto r149_29 ?_
      exact x_forget (lc0 := [.ref 106, .int v1, .int x7]) ⟨Or.inl rfl, Or.inl rfl, Or.inl rfl, trivial⟩ (ih q5 x7 h k0)
theorem m149_L2_w {d : Nat} {N : Nat} {mc ms : Nat} {Q : am_O → am_AH → Prop} (hd : 9 ≤ d) : ∀ (n : Nat) (D : am_D) (v1 : Int32) {q : am_D} (h : m149_L2 N  n D v1 = some q) (k0 : am_X xs L 149 d mc ms 58 [.ref 106, am_dead, am_dead] [] (am_mk q) 0 0 Q), am_X xs L 149 d mc ms 2 [.ref 106, .int v1, am_dead] [] (am_mk D) 0 0 Q := by
  intro n
  induction n with
  | zero =>
    intro D v1 q h k0
    exact (nomatch (show none = some q from h))
  | succ n ih =>
    intro D v1 q h k0
    rw [m149_L2] at h
    refine x_ld (v := .int v1) r149_2 rfl rfl rfl ?_
    refine x_ic (v := 4) r149_3 rfl rfl ?_
    rcases am_ifE h with ⟨c1, h⟩ | ⟨c1, h⟩
    · refine x_icgeT r149_4 c1 ?_
      refine x_forget (lc0 := [.ref 106, am_dead, am_dead]) ⟨Or.inl rfl, Or.inr ⟨rfl, rfl⟩, Or.inl rfl, trivial⟩ ?_
      cases h
      exact k0
    · refine x_icgeF r149_4 c1 rfl ?_
      refine x_ic (v := 0) r149_7 rfl rfl ?_
      refine x_sto (lc' := [.ref 106, .int v1, .int (0 : Int32)]) r149_8 rfl rfl rfl rfl ?_
      obtain ⟨q9, h10, h⟩ := Option.bind_eq_some_iff.mp h
      refine x_forget (lc0 := [.ref 106, .int v1, .int (0 : Int32)]) ⟨Or.inl rfl, Or.inl rfl, Or.inl rfl, trivial⟩ (m149_L9_w hd N D (0 : Int32) h10 ?_)
      refine x_ld (v := .ref 106) r149_32 rfl rfl rfl ?_
      refine x_ld (v := .int v1) r149_33 rfl rfl rfl ?_
      refine x_ic (v := -1) r149_34 rfl rfl ?_
      refine x_ic (v := -1) r149_35 rfl rfl ?_
      obtain ⟨q11, h12, h⟩ := Option.bind_eq_some_iff.mp h
      refine x_call1 (as := [.ref 106, .int v1, .int (-1 : Int32), .int (-1 : Int32)]) (rest := []) r149_36 rfl rfl rfl (by decide) (Nat.le_of_ble_eq_true rfl) (m121_ok h12) (Nat.le_trans (by decide) hd) (Nat.zero_le _) (Nat.zero_le _) rfl ?_
      refine x_sto (lc' := [.ref 106, .int v1, .int q11.1]) r149_39 rfl rfl rfl rfl ?_
      refine x_ld (v := .ref 106) r149_40 rfl rfl rfl ?_
      refine x_ld (v := .int q11.1) r149_41 rfl rfl rfl ?_
      refine x_ar r149_42 rfl trivial rfl ?_
      obtain ⟨q13, h14, h⟩ := am_ltE h
      replace h14 := h14.symm
      refine x_call0 (as := [.ref 106, .long ((q11.1).toInt64)]) (rest := []) r149_43 rfl rfl rfl (by decide) (Nat.le_of_ble_eq_true rfl) (m146_ok h14) (Nat.le_trans (by decide) hd) (Nat.zero_le _) (Nat.zero_le _) rfl ?_
      refine x_ld (v := .ref 106) r149_46 rfl rfl rfl ?_
      refine x_ld (v := .int q11.1) r149_47 rfl rfl rfl ?_
      refine x_ar r149_48 rfl trivial rfl ?_
      obtain ⟨q15, h16, h⟩ := am_ltE h
      replace h16 := h16.symm
      refine x_call0 (as := [.ref 106, .long ((q11.1).toInt64)]) (rest := []) r149_49 rfl rfl rfl (by decide) (Nat.le_of_ble_eq_true rfl) (m146_ok h16) (Nat.le_trans (by decide) hd) (Nat.zero_le _) (Nat.zero_le _) rfl ?_
      obtain ⟨x17, e18, h⟩ := am_ltE h
      refine x_sto (lc' := [.ref 106, .int x17, .int q11.1]) r149_52 rfl rfl (by subst e18; rfl) rfl ?_
      refine x_goto r149_55 ?_
      exact x_forget (lc0 := [.ref 106, .int x17, am_dead]) ⟨Or.inl rfl, Or.inl rfl, Or.inr ⟨rfl, rfl⟩, trivial⟩ (ih q15 x17 h k0)
theorem m149_L60_w {d : Nat} {N : Nat} {mc ms : Nat} {Q : am_O → am_AH → Prop} (hd : 9 ≤ d) : ∀ (n : Nat) (D : am_D) (v1 : Int32) {q : am_D} (h : m149_L60 N  n D v1 = some q) (k0 : am_X xs L 149 d mc ms 109 [.ref 106, am_dead, am_dead] [] (am_mk q) 0 0 Q), am_X xs L 149 d mc ms 60 [.ref 106, .int v1, am_dead] [] (am_mk D) 0 0 Q := by
  intro n
  induction n with
  | zero =>
    intro D v1 q h k0
    exact (nomatch (show none = some q from h))
  | succ n ih =>
    intro D v1 q h k0
    rw [m149_L60] at h
    refine x_ld (v := .int v1) r149_60 rfl rfl rfl ?_
    refine x_ic (v := 4) r149_61 rfl rfl ?_
    rcases am_ifE h with ⟨c21, h⟩ | ⟨c21, h⟩
    · refine x_icgeT r149_62 c21 ?_
      refine x_forget (lc0 := [.ref 106, am_dead, am_dead]) ⟨Or.inl rfl, Or.inr ⟨rfl, rfl⟩, Or.inl rfl, trivial⟩ ?_
      cases h
      exact k0
    · refine x_icgeF r149_62 c21 rfl ?_
      refine x_ld (v := .ref 106) r149_65 rfl rfl rfl ?_
      refine x_ld (v := .ref 106) r149_66 rfl rfl rfl ?_
      refine x_ic (v := 0) r149_67 rfl rfl ?_
      refine x_ld (v := .int v1) r149_68 rfl rfl rfl ?_
      refine x_ic (v := 0) r149_69 rfl rfl ?_
      obtain ⟨q22, h23, h⟩ := Option.bind_eq_some_iff.mp h
      refine x_call1 (as := [.ref 106, .int (0 : Int32), .int v1, .int (0 : Int32)]) (rest := [.ref 106]) r149_70 rfl rfl rfl (by decide) (Nat.le_of_ble_eq_true rfl) (m124_ok h23) (Nat.le_trans (by decide) hd) (Nat.zero_le _) (Nat.zero_le _) rfl ?_
      refine x_ar r149_73 rfl trivial rfl ?_
      obtain ⟨q24, h25, h⟩ := am_ltE h
      replace h25 := h25.symm
      refine x_call0 (as := [.ref 106, .long ((q22.1).toInt64)]) (rest := []) r149_74 rfl rfl rfl (by decide) (Nat.le_of_ble_eq_true rfl) (m146_ok h25) (Nat.le_trans (by decide) hd) (Nat.zero_le _) (Nat.zero_le _) rfl ?_
      refine x_ld (v := .ref 106) r149_77 rfl rfl rfl ?_
      refine x_ld (v := .ref 106) r149_78 rfl rfl rfl ?_
      refine x_ic (v := 0) r149_79 rfl rfl ?_
      refine x_ld (v := .int v1) r149_80 rfl rfl rfl ?_
      refine x_bi (v := 13) r149_81 rfl rfl ?_
      obtain ⟨q26, h27, h⟩ := Option.bind_eq_some_iff.mp h
      refine x_call1 (as := [.ref 106, .int (0 : Int32), .int v1, .int (13 : Int32)]) (rest := [.ref 106]) r149_83 rfl rfl rfl (by decide) (Nat.le_of_ble_eq_true rfl) (m124_ok h27) (Nat.le_trans (by decide) hd) (Nat.zero_le _) (Nat.zero_le _) rfl ?_
      refine x_ar r149_86 rfl trivial rfl ?_
      obtain ⟨q28, h29, h⟩ := am_ltE h
      replace h29 := h29.symm
      refine x_call0 (as := [.ref 106, .long ((q26.1).toInt64)]) (rest := []) r149_87 rfl rfl rfl (by decide) (Nat.le_of_ble_eq_true rfl) (m146_ok h29) (Nat.le_trans (by decide) hd) (Nat.zero_le _) (Nat.zero_le _) rfl ?_
      refine x_ld (v := .ref 106) r149_90 rfl rfl rfl ?_
      refine x_ld (v := .ref 106) r149_91 rfl rfl rfl ?_
      refine x_ic (v := 0) r149_92 rfl rfl ?_
      refine x_ld (v := .int v1) r149_93 rfl rfl rfl ?_
      refine x_bi (v := 27) r149_94 rfl rfl ?_
      obtain ⟨q30, h31, h⟩ := Option.bind_eq_some_iff.mp h
      refine x_call1 (as := [.ref 106, .int (0 : Int32), .int v1, .int (27 : Int32)]) (rest := [.ref 106]) r149_96 rfl rfl rfl (by decide) (Nat.le_of_ble_eq_true rfl) (m124_ok h31) (Nat.le_trans (by decide) hd) (Nat.zero_le _) (Nat.zero_le _) rfl ?_
      refine x_ar r149_99 rfl trivial rfl ?_
      obtain ⟨q32, h33, h⟩ := am_ltE h
      replace h33 := h33.symm
      refine x_call0 (as := [.ref 106, .long ((q30.1).toInt64)]) (rest := []) r149_100 rfl rfl rfl (by decide) (Nat.le_of_ble_eq_true rfl) (m146_ok h33) (Nat.le_trans (by decide) hd) (Nat.zero_le _) (Nat.zero_le _) rfl ?_
      obtain ⟨x34, e35, h⟩ := am_ltE h
      refine x_sto (lc' := [.ref 106, .int x34, am_dead]) r149_103 rfl rfl (by subst e35; rfl) rfl ?_
      refine x_goto r149_106 ?_
      exact x_forget (lc0 := [.ref 106, .int x34, am_dead]) ⟨Or.inl rfl, Or.inl rfl, Or.inl rfl, trivial⟩ (ih q32 x34 h k0)
theorem m149_L111_w {d : Nat} {N : Nat} {mc ms : Nat} {Q : am_O → am_AH → Prop} (hd : 9 ≤ d) : ∀ (n : Nat) (D : am_D) (v1 : Int32) {q : am_D} (h : m149_L111 N  n D v1 = some q) (k0 : am_X xs L 149 d mc ms 133 [.ref 106, am_dead, am_dead] [] (am_mk q) 0 0 Q), am_X xs L 149 d mc ms 111 [.ref 106, .int v1, am_dead] [] (am_mk D) 0 0 Q := by
  intro n
  induction n with
  | zero =>
    intro D v1 q h k0
    exact (nomatch (show none = some q from h))
  | succ n ih =>
    intro D v1 q h k0
    rw [m149_L111] at h
    refine x_ld (v := .int v1) r149_111 rfl rfl rfl ?_
    refine x_ic (v := 4) r149_112 rfl rfl ?_
    rcases am_ifE h with ⟨c38, h⟩ | ⟨c38, h⟩
    · refine x_icgeT r149_113 c38 ?_
      refine x_forget (lc0 := [.ref 106, am_dead, am_dead]) ⟨Or.inl rfl, Or.inr ⟨rfl, rfl⟩, Or.inl rfl, trivial⟩ ?_
      cases h
      exact k0
    · refine x_icgeF r149_113 c38 rfl ?_
      refine x_ld (v := .ref 106) r149_116 rfl rfl rfl ?_
      refine x_ld (v := .ref 106) r149_117 rfl rfl rfl ?_
      refine x_ic (v := 1) r149_118 rfl rfl ?_
      refine x_ld (v := .int v1) r149_119 rfl rfl rfl ?_
      obtain ⟨q39, h40, h⟩ := Option.bind_eq_some_iff.mp h
      refine x_call1 (as := [.ref 106, .int (1 : Int32), .int v1]) (rest := [.ref 106]) r149_120 rfl rfl rfl (by decide) (Nat.le_of_ble_eq_true rfl) (m126_ok h40) (Nat.le_trans (by decide) hd) (Nat.zero_le _) (Nat.zero_le _) rfl ?_
      refine x_ar r149_123 rfl trivial rfl ?_
      obtain ⟨q41, h42, h⟩ := am_ltE h
      replace h42 := h42.symm
      refine x_call0 (as := [.ref 106, .long ((q39.1).toInt64)]) (rest := []) r149_124 rfl rfl rfl (by decide) (Nat.le_of_ble_eq_true rfl) (m146_ok h42) (Nat.le_trans (by decide) hd) (Nat.zero_le _) (Nat.zero_le _) rfl ?_
      obtain ⟨x43, e44, h⟩ := am_ltE h
      refine x_sto (lc' := [.ref 106, .int x43, am_dead]) r149_127 rfl rfl (by subst e44; rfl) rfl ?_
      refine x_goto r149_130 ?_
      exact x_forget (lc0 := [.ref 106, .int x43, am_dead]) ⟨Or.inl rfl, Or.inl rfl, Or.inl rfl, trivial⟩ (ih q41 x43 h k0)
theorem m149_w {d mc ms : Nat} {N : Nat} {D : am_D} {Q : am_O → am_AH → Prop} (hd : 9 ≤ d) {r : am_D} (h : m149 N D = some r) (hQ : Q (.inl none) (am_mk r)) : am_X xs L 149 d mc ms 0 [.ref 106, am_dead, am_dead] [] (am_mk D) 0 0 Q := by
  unfold m149 at h
  refine x_ic (v := 0) r149_0 rfl rfl ?_
  refine x_sto (lc' := [.ref 106, .int (0 : Int32), am_dead]) r149_1 rfl rfl rfl rfl ?_
  obtain ⟨q19, h20, h⟩ := Option.bind_eq_some_iff.mp h
  refine x_forget (lc0 := [.ref 106, .int (0 : Int32), am_dead]) ⟨Or.inl rfl, Or.inl rfl, Or.inl rfl, trivial⟩ (m149_L2_w hd N D (0 : Int32) h20 ?_)
  refine x_ic (v := 1) r149_58 rfl rfl ?_
  refine x_sto (lc' := [.ref 106, .int (1 : Int32), am_dead]) r149_59 rfl rfl rfl rfl ?_
  obtain ⟨q36, h37, h⟩ := Option.bind_eq_some_iff.mp h
  refine x_forget (lc0 := [.ref 106, .int (1 : Int32), am_dead]) ⟨Or.inl rfl, Or.inl rfl, Or.inl rfl, trivial⟩ (m149_L60_w hd N q19 (1 : Int32) h37 ?_)
  refine x_ic (v := 0) r149_109 rfl rfl ?_
  refine x_sto (lc' := [.ref 106, .int (0 : Int32), am_dead]) r149_110 rfl rfl rfl rfl ?_
  obtain ⟨q45, h46, h⟩ := Option.bind_eq_some_iff.mp h
  refine x_forget (lc0 := [.ref 106, .int (0 : Int32), am_dead]) ⟨Or.inl rfl, Or.inl rfl, Or.inl rfl, trivial⟩ (m149_L111_w hd N q36 (0 : Int32) h46 ?_)
  cases h
  exact x_ret (ret := none) (C := True) (v := none) r149_133 rt149 rfl rfl rfl rfl rfl rfl rfl rfl trivial hQ
theorem m149_ok {N : Nat} {D : am_D} {r : am_D} (h : m149 N D = some r) : am_Y xs L 149 9 0 0 [.ref 106] D (.inl none) r := am_Yof (mi := am_m149) (lc := [.ref 106, am_dead, am_dead]) pg149 (Nat.le_of_ble_eq_true rfl) (am_rc1 (ci := 8) rfl rfl rfl rfl rfl) rfl (fun Q hQ => m149_w (Nat.le_refl _) h hQ)
theorem r150_0 : am_at 150 0 = some (.aload_n 0, 1, [0]) := by decide +kernel
theorem r150_1 : am_at 150 1 = some (.iconst (0), 1, []) := by decide +kernel
theorem r150_2 : am_at 150 2 = some (.putfield 61, 3, [8, 0, 0, 1215]) := by decide +kernel
theorem r150_5 : am_at 150 5 = some (.aload_n 0, 1, [0]) := by decide +kernel
theorem r150_6 : am_at 150 6 = some (.ldc2_w 332, 3, [1, 1695, 3793]) := by decide +kernel
theorem r150_9 : am_at 150 9 = some (.putfield 314, 3, [8, 25, 1, 1240]) := by decide +kernel
theorem r150_12 : am_at 150 12 = some (.iconst (0), 1, []) := by decide +kernel
theorem r150_13 : am_at 150 13 = some (.istore_n 1, 1, [1]) := by decide +kernel
theorem r150_14 : am_at 150 14 = some (.iload_n 1, 1, [1]) := by decide +kernel
theorem r150_15 : am_at 150 15 = some (.bipush (19), 2, []) := by decide +kernel
theorem r150_17 : am_at 150 17 = some (.if_icmp .ge (19), 3, [36]) := by decide +kernel
theorem r150_20 : am_at 150 20 = some (.aload_n 0, 1, [0]) := by decide +kernel
theorem r150_21 : am_at 150 21 = some (.aload_n 0, 1, [0]) := by decide +kernel
theorem r150_22 : am_at 150 22 = some (.iload_n 1, 1, [1]) := by decide +kernel
theorem r150_23 : am_at 150 23 = some (.invokevirtual 243, 3, [117, 2, 1580, 0]) := by decide +kernel
theorem r150_26 : am_at 150 26 = some (.i2l, 1, []) := by decide +kernel
theorem r150_27 : am_at 150 27 = some (.invokevirtual 328, 3, [146, 2, 1696, 0]) := by decide +kernel
theorem r150_30 : am_at 150 30 = some (.iinc 1 (1), 3, [1]) := by decide +kernel
theorem r150_33 : am_at 150 33 = some (.goto (-19), 3, [14]) := by decide +kernel
theorem r150_36 : am_at 150 36 = some (.iconst (0), 1, []) := by decide +kernel
theorem r150_37 : am_at 150 37 = some (.istore_n 1, 1, [1]) := by decide +kernel
theorem r150_38 : am_at 150 38 = some (.iload_n 1, 1, [1]) := by decide +kernel
theorem r150_39 : am_at 150 39 = some (.bipush (28), 2, []) := by decide +kernel
theorem r150_41 : am_at 150 41 = some (.if_icmp .ge (34), 3, [75]) := by decide +kernel
theorem r150_44 : am_at 150 44 = some (.iconst (0), 1, []) := by decide +kernel
theorem r150_45 : am_at 150 45 = some (.istore_n 2, 1, [2]) := by decide +kernel
theorem r150_46 : am_at 150 46 = some (.iload_n 2, 1, [2]) := by decide +kernel
theorem r150_47 : am_at 150 47 = some (.bipush (7), 2, []) := by decide +kernel
theorem r150_49 : am_at 150 49 = some (.if_icmp .ge (20), 3, [69]) := by decide +kernel
theorem r150_52 : am_at 150 52 = some (.aload_n 0, 1, [0]) := by decide +kernel
theorem r150_53 : am_at 150 53 = some (.aload_n 0, 1, [0]) := by decide +kernel
theorem r150_54 : am_at 150 54 = some (.iload_n 1, 1, [1]) := by decide +kernel
theorem r150_55 : am_at 150 55 = some (.iload_n 2, 1, [2]) := by decide +kernel
theorem r150_56 : am_at 150 56 = some (.invokevirtual 225, 3, [107, 3, 1536, 0]) := by decide +kernel
theorem r150_59 : am_at 150 59 = some (.i2l, 1, []) := by decide +kernel
theorem r150_60 : am_at 150 60 = some (.invokevirtual 328, 3, [146, 2, 1696, 0]) := by decide +kernel
theorem r150_63 : am_at 150 63 = some (.iinc 2 (1), 3, [2]) := by decide +kernel
theorem r150_66 : am_at 150 66 = some (.goto (-20), 3, [46]) := by decide +kernel
theorem r150_69 : am_at 150 69 = some (.iinc 1 (1), 3, [1]) := by decide +kernel
theorem r150_72 : am_at 150 72 = some (.goto (-34), 3, [38]) := by decide +kernel
theorem r150_75 : am_at 150 75 = some (.iconst (0), 1, []) := by decide +kernel
theorem r150_76 : am_at 150 76 = some (.istore_n 1, 1, [1]) := by decide +kernel
theorem r150_77 : am_at 150 77 = some (.iload_n 1, 1, [1]) := by decide +kernel
theorem r150_78 : am_at 150 78 = some (.aload_n 0, 1, [0]) := by decide +kernel
theorem r150_79 : am_at 150 79 = some (.getfield 7, 3, [8, 1, 3, 1216]) := by decide +kernel
theorem r150_82 : am_at 150 82 = some (.bipush (12), 2, []) := by decide +kernel
theorem r150_84 : am_at 150 84 = some (.iaload, 1, []) := by decide +kernel
theorem r150_85 : am_at 150 85 = some (.if_icmp .ge (33), 3, [118]) := by decide +kernel
theorem r150_88 : am_at 150 88 = some (.iconst (0), 1, []) := by decide +kernel
theorem r150_89 : am_at 150 89 = some (.istore_n 2, 1, [2]) := by decide +kernel
theorem r150_90 : am_at 150 90 = some (.iload_n 2, 1, [2]) := by decide +kernel
theorem r150_91 : am_at 150 91 = some (.iconst (4), 1, []) := by decide +kernel
theorem r150_92 : am_at 150 92 = some (.if_icmp .ge (20), 3, [112]) := by decide +kernel
theorem r150_95 : am_at 150 95 = some (.aload_n 0, 1, [0]) := by decide +kernel
theorem r150_96 : am_at 150 96 = some (.aload_n 0, 1, [0]) := by decide +kernel
theorem r150_97 : am_at 150 97 = some (.iload_n 1, 1, [1]) := by decide +kernel
theorem r150_98 : am_at 150 98 = some (.iload_n 2, 1, [2]) := by decide +kernel
theorem r150_99 : am_at 150 99 = some (.invokevirtual 228, 3, [110, 3, 1552, 0]) := by decide +kernel
theorem r150_102 : am_at 150 102 = some (.i2l, 1, []) := by decide +kernel
theorem r150_103 : am_at 150 103 = some (.invokevirtual 328, 3, [146, 2, 1696, 0]) := by decide +kernel
theorem r150_106 : am_at 150 106 = some (.iinc 2 (1), 3, [2]) := by decide +kernel
theorem r150_109 : am_at 150 109 = some (.goto (-19), 3, [90]) := by decide +kernel
theorem r150_112 : am_at 150 112 = some (.iinc 1 (1), 3, [1]) := by decide +kernel
theorem r150_115 : am_at 150 115 = some (.goto (-38), 3, [77]) := by decide +kernel
theorem r150_118 : am_at 150 118 = some (.aload_n 0, 1, [0]) := by decide +kernel
theorem r150_119 : am_at 150 119 = some (.invokevirtual 334, 3, [149, 1, 1701, 0]) := by decide +kernel
theorem r150_122 : am_at 150 122 = some (.iconst (0), 1, []) := by decide +kernel
theorem r150_123 : am_at 150 123 = some (.istore_n 1, 1, [1]) := by decide +kernel
theorem r150_124 : am_at 150 124 = some (.iload_n 1, 1, [1]) := by decide +kernel
theorem r150_125 : am_at 150 125 = some (.iconst (3), 1, []) := by decide +kernel
theorem r150_126 : am_at 150 126 = some (.if_icmp .ge (19), 3, [145]) := by decide +kernel
theorem r150_129 : am_at 150 129 = some (.aload_n 0, 1, [0]) := by decide +kernel
theorem r150_130 : am_at 150 130 = some (.aload_n 0, 1, [0]) := by decide +kernel
theorem r150_131 : am_at 150 131 = some (.iload_n 1, 1, [1]) := by decide +kernel
theorem r150_132 : am_at 150 132 = some (.invokevirtual 305, 3, [142, 2, 1651, 0]) := by decide +kernel
theorem r150_135 : am_at 150 135 = some (.i2l, 1, []) := by decide +kernel
theorem r150_136 : am_at 150 136 = some (.invokevirtual 328, 3, [146, 2, 1696, 0]) := by decide +kernel
theorem r150_139 : am_at 150 139 = some (.iinc 1 (1), 3, [1]) := by decide +kernel
theorem r150_142 : am_at 150 142 = some (.goto (-18), 3, [124]) := by decide +kernel
theorem r150_145 : am_at 150 145 = some (.aload_n 0, 1, [0]) := by decide +kernel
theorem r150_146 : am_at 150 146 = some (.aload_n 0, 1, [0]) := by decide +kernel
theorem r150_147 : am_at 150 147 = some (.iconst (2), 1, []) := by decide +kernel
theorem r150_148 : am_at 150 148 = some (.iconst (3), 1, []) := by decide +kernel
theorem r150_149 : am_at 150 149 = some (.bipush (6), 2, []) := by decide +kernel
theorem r150_151 : am_at 150 151 = some (.invokevirtual 262, 3, [128, 4, 1624, 0]) := by decide +kernel
theorem r150_154 : am_at 150 154 = some (.invokestatic 337, 3, [147, 1, 1705, 0]) := by decide +kernel
theorem r150_157 : am_at 150 157 = some (.invokevirtual 328, 3, [146, 2, 1696, 0]) := by decide +kernel
theorem r150_160 : am_at 150 160 = some (.aload_n 0, 1, [0]) := by decide +kernel
theorem r150_161 : am_at 150 161 = some (.aload_n 0, 1, [0]) := by decide +kernel
theorem r150_162 : am_at 150 162 = some (.invokevirtual 308, 3, [144, 1, 1687, 0]) := by decide +kernel
theorem r150_165 : am_at 150 165 = some (.invokestatic 341, 3, [148, 1, 1712, 0]) := by decide +kernel
theorem r150_168 : am_at 150 168 = some (.i2l, 1, []) := by decide +kernel
theorem r150_169 : am_at 150 169 = some (.invokevirtual 328, 3, [146, 2, 1696, 0]) := by decide +kernel
theorem r150_172 : am_at 150 172 = some (.aload_n 0, 1, [0]) := by decide +kernel
theorem r150_173 : am_at 150 173 = some (.aload_n 0, 1, [0]) := by decide +kernel
theorem r150_174 : am_at 150 174 = some (.getfield 218, 3, [8, 3, 2, 1218]) := by decide +kernel
theorem r150_177 : am_at 150 177 = some (.ifCond .eq (7), 3, [184]) := by decide +kernel
theorem r150_180 : am_at 150 180 = some (.lconst 1, 1, []) := by decide +kernel
theorem r150_181 : am_at 150 181 = some (.goto (4), 3, [185]) := by decide +kernel
theorem r150_184 : am_at 150 184 = some (.lconst 0, 1, []) := by decide +kernel
theorem r150_185 : am_at 150 185 = some (.invokevirtual 328, 3, [146, 2, 1696, 0]) := by decide +kernel
theorem r150_188 : am_at 150 188 = some (.aload_n 0, 1, [0]) := by decide +kernel
theorem r150_189 : am_at 150 189 = some (.aload_n 0, 1, [0]) := by decide +kernel
theorem r150_190 : am_at 150 190 = some (.getfield 176, 3, [8, 5, 0, 1220]) := by decide +kernel
theorem r150_193 : am_at 150 193 = some (.i2l, 1, []) := by decide +kernel
theorem r150_194 : am_at 150 194 = some (.invokevirtual 328, 3, [146, 2, 1696, 0]) := by decide +kernel
theorem r150_197 : am_at 150 197 = some (.iconst (0), 1, []) := by decide +kernel
theorem r150_198 : am_at 150 198 = some (.istore_n 1, 1, [1]) := by decide +kernel
theorem r150_199 : am_at 150 199 = some (.iload_n 1, 1, [1]) := by decide +kernel
theorem r150_200 : am_at 150 200 = some (.aload_n 0, 1, [0]) := by decide +kernel
theorem r150_201 : am_at 150 201 = some (.getfield 176, 3, [8, 5, 0, 1220]) := by decide +kernel
theorem r150_204 : am_at 150 204 = some (.if_icmp .ge (20), 3, [224]) := by decide +kernel
theorem r150_207 : am_at 150 207 = some (.aload_n 0, 1, [0]) := by decide +kernel
theorem r150_208 : am_at 150 208 = some (.aload_n 0, 1, [0]) := by decide +kernel
theorem r150_209 : am_at 150 209 = some (.getfield 13, 3, [8, 4, 3, 1219]) := by decide +kernel
theorem r150_212 : am_at 150 212 = some (.iload_n 1, 1, [1]) := by decide +kernel
theorem r150_213 : am_at 150 213 = some (.iaload, 1, []) := by decide +kernel
theorem r150_214 : am_at 150 214 = some (.i2l, 1, []) := by decide +kernel
theorem r150_215 : am_at 150 215 = some (.invokevirtual 328, 3, [146, 2, 1696, 0]) := by decide +kernel
theorem r150_218 : am_at 150 218 = some (.iinc 1 (1), 3, [1]) := by decide +kernel
theorem r150_221 : am_at 150 221 = some (.goto (-22), 3, [199]) := by decide +kernel
theorem r150_224 : am_at 150 224 = some (.aload_n 0, 1, [0]) := by decide +kernel
theorem r150_225 : am_at 150 225 = some (.getfield 314, 3, [8, 25, 1, 1240]) := by decide +kernel
theorem r150_228 : am_at 150 228 = some (.lreturn, 1, []) := by decide +kernel
theorem rt150 : am_rtt 150 = some (some .long) := by decide +kernel
set_option maxRecDepth 100000 in
theorem pg150 : am_pg[150]? = some am_m150 := rfl
theorem m150_L14_w {d : Nat} {N : Nat} {mc ms : Nat} {Q : am_O → am_AH → Prop} (hd : 10 ≤ d) : ∀ (n : Nat) (D : am_D) (v1 : Int32) {q : am_D} (h : m150_L14 N  n D v1 = some q) (k0 : am_X xs L 150 d mc ms 36 [.ref 106, am_dead, am_dead] [] (am_mk q) 0 0 Q), am_X xs L 150 d mc ms 14 [.ref 106, .int v1, am_dead] [] (am_mk D) 0 0 Q := by
  intro n
  induction n with
  | zero =>
    intro D v1 q h k0
    exact (nomatch (show none = some q from h))
  | succ n ih =>
    intro D v1 q h k0
    rw [m150_L14] at h
    refine x_ld (v := .int v1) r150_14 rfl rfl rfl ?_
    refine x_bi (v := 19) r150_15 rfl rfl ?_
    rcases am_ifE h with ⟨c5, h⟩ | ⟨c5, h⟩
    · refine x_icgeT r150_17 c5 ?_
      refine x_forget (lc0 := [.ref 106, am_dead, am_dead]) ⟨Or.inl rfl, Or.inr ⟨rfl, rfl⟩, Or.inl rfl, trivial⟩ ?_
      cases h
      exact k0
    · refine x_icgeF r150_17 c5 rfl ?_
      refine x_ld (v := .ref 106) r150_20 rfl rfl rfl ?_
      refine x_ld (v := .ref 106) r150_21 rfl rfl rfl ?_
      refine x_ld (v := .int v1) r150_22 rfl rfl rfl ?_
      obtain ⟨q6, h7, h⟩ := Option.bind_eq_some_iff.mp h
      refine x_call1 (as := [.ref 106, .int v1]) (rest := [.ref 106]) r150_23 rfl rfl rfl (by decide) (Nat.le_of_ble_eq_true rfl) (m117_ok h7) (Nat.le_trans (by decide) hd) (Nat.zero_le _) (Nat.zero_le _) rfl ?_
      refine x_ar r150_26 rfl trivial rfl ?_
      obtain ⟨q8, h9, h⟩ := am_ltE h
      replace h9 := h9.symm
      refine x_call0 (as := [.ref 106, .long ((q6).toInt64)]) (rest := []) r150_27 rfl rfl rfl (by decide) (Nat.le_of_ble_eq_true rfl) (m146_ok h9) (Nat.le_trans (by decide) hd) (Nat.zero_le _) (Nat.zero_le _) rfl ?_
      obtain ⟨x10, e11, h⟩ := am_ltE h
      refine x_sto (lc' := [.ref 106, .int x10, am_dead]) r150_30 rfl rfl (by subst e11; rfl) rfl ?_
      refine x_goto r150_33 ?_
      exact x_forget (lc0 := [.ref 106, .int x10, am_dead]) ⟨Or.inl rfl, Or.inl rfl, Or.inl rfl, trivial⟩ (ih q8 x10 h k0)
theorem m150_L46_w {d : Nat} {N : Nat} {v1 : Int32} {mc ms : Nat} {Q : am_O → am_AH → Prop} (hd : 10 ≤ d) : ∀ (n : Nat) (D : am_D) (v2 : Int32) {q : am_D} (h : m150_L46 N v1  n D v2 = some q) (k0 : am_X xs L 150 d mc ms 69 [.ref 106, .int v1, am_dead] [] (am_mk q) 0 0 Q), am_X xs L 150 d mc ms 46 [.ref 106, .int v1, .int v2] [] (am_mk D) 0 0 Q := by
  intro n
  induction n with
  | zero =>
    intro D v2 q h k0
    exact (nomatch (show none = some q from h))
  | succ n ih =>
    intro D v2 q h k0
    rw [m150_L46] at h
    refine x_ld (v := .int v2) r150_46 rfl rfl rfl ?_
    refine x_bi (v := 7) r150_47 rfl rfl ?_
    rcases am_ifE h with ⟨c15, h⟩ | ⟨c15, h⟩
    · refine x_icgeT r150_49 c15 ?_
      refine x_forget (lc0 := [.ref 106, .int v1, am_dead]) ⟨Or.inl rfl, Or.inl rfl, Or.inr ⟨rfl, rfl⟩, trivial⟩ ?_
      cases h
      exact k0
    · refine x_icgeF r150_49 c15 rfl ?_
      refine x_ld (v := .ref 106) r150_52 rfl rfl rfl ?_
      refine x_ld (v := .ref 106) r150_53 rfl rfl rfl ?_
      refine x_ld (v := .int v1) r150_54 rfl rfl rfl ?_
      refine x_ld (v := .int v2) r150_55 rfl rfl rfl ?_
      obtain ⟨q16, h17, h⟩ := Option.bind_eq_some_iff.mp h
      refine x_call1 (as := [.ref 106, .int v1, .int v2]) (rest := [.ref 106]) r150_56 rfl rfl rfl (by decide) (Nat.le_of_ble_eq_true rfl) (m107_ok h17) (Nat.le_trans (by decide) hd) (Nat.zero_le _) (Nat.zero_le _) rfl ?_
      refine x_ar r150_59 rfl trivial rfl ?_
      obtain ⟨q18, h19, h⟩ := am_ltE h
      replace h19 := h19.symm
      refine x_call0 (as := [.ref 106, .long ((q16).toInt64)]) (rest := []) r150_60 rfl rfl rfl (by decide) (Nat.le_of_ble_eq_true rfl) (m146_ok h19) (Nat.le_trans (by decide) hd) (Nat.zero_le _) (Nat.zero_le _) rfl ?_
      obtain ⟨x20, e21, h⟩ := am_ltE h
      refine x_sto (lc' := [.ref 106, .int v1, .int x20]) r150_63 rfl rfl (by subst e21; rfl) rfl ?_
      refine x_goto r150_66 ?_
      exact x_forget (lc0 := [.ref 106, .int v1, .int x20]) ⟨Or.inl rfl, Or.inl rfl, Or.inl rfl, trivial⟩ (ih q18 x20 h k0)
theorem m150_L38_w {d : Nat} {N : Nat} {mc ms : Nat} {Q : am_O → am_AH → Prop} (hd : 10 ≤ d) : ∀ (n : Nat) (D : am_D) (v1 : Int32) {q : am_D} (h : m150_L38 N  n D v1 = some q) (k0 : am_X xs L 150 d mc ms 75 [.ref 106, am_dead, am_dead] [] (am_mk q) 0 0 Q), am_X xs L 150 d mc ms 38 [.ref 106, .int v1, am_dead] [] (am_mk D) 0 0 Q := by
  intro n
  induction n with
  | zero =>
    intro D v1 q h k0
    exact (nomatch (show none = some q from h))
  | succ n ih =>
    intro D v1 q h k0
    rw [m150_L38] at h
    refine x_ld (v := .int v1) r150_38 rfl rfl rfl ?_
    refine x_bi (v := 28) r150_39 rfl rfl ?_
    rcases am_ifE h with ⟨c14, h⟩ | ⟨c14, h⟩
    · refine x_icgeT r150_41 c14 ?_
      refine x_forget (lc0 := [.ref 106, am_dead, am_dead]) ⟨Or.inl rfl, Or.inr ⟨rfl, rfl⟩, Or.inl rfl, trivial⟩ ?_
      cases h
      exact k0
    · refine x_icgeF r150_41 c14 rfl ?_
      refine x_ic (v := 0) r150_44 rfl rfl ?_
      refine x_sto (lc' := [.ref 106, .int v1, .int (0 : Int32)]) r150_45 rfl rfl rfl rfl ?_
      obtain ⟨q22, h23, h⟩ := Option.bind_eq_some_iff.mp h
      refine x_forget (lc0 := [.ref 106, .int v1, .int (0 : Int32)]) ⟨Or.inl rfl, Or.inl rfl, Or.inl rfl, trivial⟩ (m150_L46_w hd N D (0 : Int32) h23 ?_)
      obtain ⟨x24, e25, h⟩ := am_ltE h
      refine x_sto (lc' := [.ref 106, .int x24, am_dead]) r150_69 rfl rfl (by subst e25; rfl) rfl ?_
      refine x_goto r150_72 ?_
      exact x_forget (lc0 := [.ref 106, .int x24, am_dead]) ⟨Or.inl rfl, Or.inl rfl, Or.inl rfl, trivial⟩ (ih q22 x24 h k0)
theorem m150_L90_w {d : Nat} {N : Nat} {v1 : Int32} {mc ms : Nat} {Q : am_O → am_AH → Prop} (hd : 10 ≤ d) : ∀ (n : Nat) (D : am_D) (v2 : Int32) {q : am_D} (h : m150_L90 N v1  n D v2 = some q) (k0 : am_X xs L 150 d mc ms 112 [.ref 106, .int v1, am_dead] [] (am_mk q) 0 0 Q), am_X xs L 150 d mc ms 90 [.ref 106, .int v1, .int v2] [] (am_mk D) 0 0 Q := by
  intro n
  induction n with
  | zero =>
    intro D v2 q h k0
    exact (nomatch (show none = some q from h))
  | succ n ih =>
    intro D v2 q h k0
    rw [m150_L90] at h
    refine x_ld (v := .int v2) r150_90 rfl rfl rfl ?_
    refine x_ic (v := 4) r150_91 rfl rfl ?_
    rcases am_ifE h with ⟨c29, h⟩ | ⟨c29, h⟩
    · refine x_icgeT r150_92 c29 ?_
      refine x_forget (lc0 := [.ref 106, .int v1, am_dead]) ⟨Or.inl rfl, Or.inl rfl, Or.inr ⟨rfl, rfl⟩, trivial⟩ ?_
      cases h
      exact k0
    · refine x_icgeF r150_92 c29 rfl ?_
      refine x_ld (v := .ref 106) r150_95 rfl rfl rfl ?_
      refine x_ld (v := .ref 106) r150_96 rfl rfl rfl ?_
      refine x_ld (v := .int v1) r150_97 rfl rfl rfl ?_
      refine x_ld (v := .int v2) r150_98 rfl rfl rfl ?_
      obtain ⟨q30, h31, h⟩ := Option.bind_eq_some_iff.mp h
      refine x_call1 (as := [.ref 106, .int v1, .int v2]) (rest := [.ref 106]) r150_99 rfl rfl rfl (by decide) (Nat.le_of_ble_eq_true rfl) (m110_ok h31) (Nat.le_trans (by decide) hd) (Nat.zero_le _) (Nat.zero_le _) rfl ?_
      refine x_ar r150_102 rfl trivial rfl ?_
      obtain ⟨q32, h33, h⟩ := am_ltE h
      replace h33 := h33.symm
      refine x_call0 (as := [.ref 106, .long ((q30).toInt64)]) (rest := []) r150_103 rfl rfl rfl (by decide) (Nat.le_of_ble_eq_true rfl) (m146_ok h33) (Nat.le_trans (by decide) hd) (Nat.zero_le _) (Nat.zero_le _) rfl ?_
      obtain ⟨x34, e35, h⟩ := am_ltE h
      refine x_sto (lc' := [.ref 106, .int v1, .int x34]) r150_106 rfl rfl (by subst e35; rfl) rfl ?_
      refine x_goto r150_109 ?_
      exact x_forget (lc0 := [.ref 106, .int v1, .int x34]) ⟨Or.inl rfl, Or.inl rfl, Or.inl rfl, trivial⟩ (ih q32 x34 h k0)
theorem m150_L77_w {d : Nat} {N : Nat} {mc ms : Nat} {Q : am_O → am_AH → Prop} (hd : 10 ≤ d) : ∀ (n : Nat) (D : am_D) (v1 : Int32) {q : am_D} (h : m150_L77 N  n D v1 = some q) (k0 : am_X xs L 150 d mc ms 118 [.ref 106, am_dead, am_dead] [] (am_mk q) 0 0 Q), am_X xs L 150 d mc ms 77 [.ref 106, .int v1, am_dead] [] (am_mk D) 0 0 Q := by
  intro n
  induction n with
  | zero =>
    intro D v1 q h k0
    exact (nomatch (show none = some q from h))
  | succ n ih =>
    intro D v1 q h k0
    rw [m150_L77] at h
    refine x_ld (v := .int v1) r150_77 rfl rfl rfl ?_
    refine x_ld (v := .ref 106) r150_78 rfl rfl rfl ?_
    refine y_gf (cd := 109) (v := .ref 107) r150_79 rfl rfl rfl ?_
    refine x_bi (v := 12) r150_82 rfl rfl ?_
    refine y_ial (n := 1320) r150_84 rfl (by decide) (by decide) (e := 12) (by decide) rfl ?_
    rcases am_ifE h with ⟨c28, h⟩ | ⟨c28, h⟩
    · refine x_icgeT r150_85 c28 ?_
      refine x_forget (lc0 := [.ref 106, am_dead, am_dead]) ⟨Or.inl rfl, Or.inr ⟨rfl, rfl⟩, Or.inl rfl, trivial⟩ ?_
      cases h
      exact k0
    · refine x_icgeF r150_85 c28 rfl ?_
      refine x_ic (v := 0) r150_88 rfl rfl ?_
      refine x_sto (lc' := [.ref 106, .int v1, .int (0 : Int32)]) r150_89 rfl rfl rfl rfl ?_
      obtain ⟨q36, h37, h⟩ := Option.bind_eq_some_iff.mp h
      refine x_forget (lc0 := [.ref 106, .int v1, .int (0 : Int32)]) ⟨Or.inl rfl, Or.inl rfl, Or.inl rfl, trivial⟩ (m150_L90_w hd N D (0 : Int32) h37 ?_)
      obtain ⟨x38, e39, h⟩ := am_ltE h
      refine x_sto (lc' := [.ref 106, .int x38, am_dead]) r150_112 rfl rfl (by subst e39; rfl) rfl ?_
      refine x_goto r150_115 ?_
      exact x_forget (lc0 := [.ref 106, .int x38, am_dead]) ⟨Or.inl rfl, Or.inl rfl, Or.inl rfl, trivial⟩ (ih q36 x38 h k0)
theorem m150_L124_w {d : Nat} {N : Nat} {mc ms : Nat} {Q : am_O → am_AH → Prop} (hd : 10 ≤ d) : ∀ (n : Nat) (D : am_D) (v1 : Int32) {q : am_D} (h : m150_L124 N  n D v1 = some q) (k0 : am_X xs L 150 d mc ms 145 [.ref 106, am_dead, am_dead] [] (am_mk q) 0 0 Q), am_X xs L 150 d mc ms 124 [.ref 106, .int v1, am_dead] [] (am_mk D) 0 0 Q := by
  intro n
  induction n with
  | zero =>
    intro D v1 q h k0
    exact (nomatch (show none = some q from h))
  | succ n ih =>
    intro D v1 q h k0
    rw [m150_L124] at h
    refine x_ld (v := .int v1) r150_124 rfl rfl rfl ?_
    refine x_ic (v := 3) r150_125 rfl rfl ?_
    rcases am_ifE h with ⟨c44, h⟩ | ⟨c44, h⟩
    · refine x_icgeT r150_126 c44 ?_
      refine x_forget (lc0 := [.ref 106, am_dead, am_dead]) ⟨Or.inl rfl, Or.inr ⟨rfl, rfl⟩, Or.inl rfl, trivial⟩ ?_
      cases h
      exact k0
    · refine x_icgeF r150_126 c44 rfl ?_
      refine x_ld (v := .ref 106) r150_129 rfl rfl rfl ?_
      refine x_ld (v := .ref 106) r150_130 rfl rfl rfl ?_
      refine x_ld (v := .int v1) r150_131 rfl rfl rfl ?_
      obtain ⟨q45, h46, h⟩ := Option.bind_eq_some_iff.mp h
      refine x_call1 (as := [.ref 106, .int v1]) (rest := [.ref 106]) r150_132 rfl rfl rfl (by decide) (Nat.le_of_ble_eq_true rfl) (m142_ok h46) (Nat.le_trans (by decide) hd) (Nat.zero_le _) (Nat.zero_le _) rfl ?_
      refine x_ar r150_135 rfl trivial rfl ?_
      obtain ⟨q47, h48, h⟩ := am_ltE h
      replace h48 := h48.symm
      refine x_call0 (as := [.ref 106, .long ((q45.1).toInt64)]) (rest := []) r150_136 rfl rfl rfl (by decide) (Nat.le_of_ble_eq_true rfl) (m146_ok h48) (Nat.le_trans (by decide) hd) (Nat.zero_le _) (Nat.zero_le _) rfl ?_
      obtain ⟨x49, e50, h⟩ := am_ltE h
      refine x_sto (lc' := [.ref 106, .int x49, am_dead]) r150_139 rfl rfl (by subst e50; rfl) rfl ?_
      refine x_goto r150_142 ?_
      exact x_forget (lc0 := [.ref 106, .int x49, am_dead]) ⟨Or.inl rfl, Or.inl rfl, Or.inl rfl, trivial⟩ (ih q47 x49 h k0)
theorem m150_L199_w {d : Nat} {N : Nat} {mc ms : Nat} {Q : am_O → am_AH → Prop} (hd : 10 ≤ d) : ∀ (n : Nat) (D : am_D) (v1 : Int32) {q : am_D} (h : m150_L199 N  n D v1 = some q) (k0 : am_X xs L 150 d mc ms 224 [.ref 106, am_dead, am_dead] [] (am_mk q) 0 0 Q), am_X xs L 150 d mc ms 199 [.ref 106, .int v1, am_dead] [] (am_mk D) 0 0 Q := by
  intro n
  induction n with
  | zero =>
    intro D v1 q h k0
    exact (nomatch (show none = some q from h))
  | succ n ih =>
    intro D v1 q h k0
    rw [m150_L199] at h
    refine x_ld (v := .int v1) r150_199 rfl rfl rfl ?_
    refine x_ld (v := .ref 106) r150_200 rfl rfl rfl ?_
    refine y_gf (cd := 0) (v := .int (D.1 106 5)) r150_201 rfl rfl rfl ?_
    rcases am_ifE h with ⟨c73, h⟩ | ⟨c73, h⟩
    · refine x_icgeT r150_204 c73 ?_
      refine x_forget (lc0 := [.ref 106, am_dead, am_dead]) ⟨Or.inl rfl, Or.inr ⟨rfl, rfl⟩, Or.inl rfl, trivial⟩ ?_
      cases h
      exact k0
    · refine x_icgeF r150_204 c73 rfl ?_
      refine x_ld (v := .ref 106) r150_207 rfl rfl rfl ?_
      refine x_ld (v := .ref 106) r150_208 rfl rfl rfl ?_
      refine y_gf (cd := 110) (v := .ref 108) r150_209 rfl rfl rfl ?_
      refine x_ld (v := .int v1) r150_212 rfl rfl rfl ?_
      obtain ⟨g74, h⟩ := am_gdE h
      refine y_ial (n := 60) r150_213 rfl (by decide) g74 rfl rfl ?_
      refine x_ar r150_214 rfl trivial rfl ?_
      obtain ⟨q75, h76, h⟩ := am_ltE h
      replace h76 := h76.symm
      refine x_call0 (as := [.ref 106, .long (((D.1 108 (v1).toNatClampNeg)).toInt64)]) (rest := []) r150_215 rfl rfl rfl (by decide) (Nat.le_of_ble_eq_true rfl) (m146_ok h76) (Nat.le_trans (by decide) hd) (Nat.zero_le _) (Nat.zero_le _) rfl ?_
      obtain ⟨x77, e78, h⟩ := am_ltE h
      refine x_sto (lc' := [.ref 106, .int x77, am_dead]) r150_218 rfl rfl (by subst e78; rfl) rfl ?_
      refine x_goto r150_221 ?_
      exact x_forget (lc0 := [.ref 106, .int x77, am_dead]) ⟨Or.inl rfl, Or.inl rfl, Or.inl rfl, trivial⟩ (ih q75 x77 h k0)
theorem m150_w {d mc ms : Nat} {N : Nat} {D : am_D} {Q : am_O → am_AH → Prop} (hd : 10 ≤ d) {r : Int64 × am_D} (h : m150 N D = some r) (hQ : Q (.inl (some (.long r.1))) (am_mk r.2)) : am_X xs L 150 d mc ms 0 [.ref 106, am_dead, am_dead] [] (am_mk D) 0 0 Q := by
  unfold m150 at h
  refine x_ld (v := .ref 106) r150_0 rfl rfl rfl ?_
  refine x_ic (v := 0) r150_1 rfl rfl ?_
  obtain ⟨D1, e2, h⟩ := am_ltE h
  refine y_pf0 r150_2 rfl e2 rfl ?_
  refine x_ld (v := .ref 106) r150_5 rfl rfl rfl ?_
  refine x_sp r150_6 rfl rfl rfl rfl rfl rfl trivial rfl ?_
  obtain ⟨D3, e4, h⟩ := am_ltE h
  refine y_pf1 r150_9 rfl e4 rfl ?_
  refine x_ic (v := 0) r150_12 rfl rfl ?_
  refine x_sto (lc' := [.ref 106, .int (0 : Int32), am_dead]) r150_13 rfl rfl rfl rfl ?_
  obtain ⟨q12, h13, h⟩ := Option.bind_eq_some_iff.mp h
  refine x_forget (lc0 := [.ref 106, .int (0 : Int32), am_dead]) ⟨Or.inl rfl, Or.inl rfl, Or.inl rfl, trivial⟩ (m150_L14_w hd N D3 (0 : Int32) h13 ?_)
  refine x_ic (v := 0) r150_36 rfl rfl ?_
  refine x_sto (lc' := [.ref 106, .int (0 : Int32), am_dead]) r150_37 rfl rfl rfl rfl ?_
  obtain ⟨q26, h27, h⟩ := Option.bind_eq_some_iff.mp h
  refine x_forget (lc0 := [.ref 106, .int (0 : Int32), am_dead]) ⟨Or.inl rfl, Or.inl rfl, Or.inl rfl, trivial⟩ (m150_L38_w hd N q12 (0 : Int32) h27 ?_)
  refine x_ic (v := 0) r150_75 rfl rfl ?_
  refine x_sto (lc' := [.ref 106, .int (0 : Int32), am_dead]) r150_76 rfl rfl rfl rfl ?_
  obtain ⟨q40, h41, h⟩ := Option.bind_eq_some_iff.mp h
  refine x_forget (lc0 := [.ref 106, .int (0 : Int32), am_dead]) ⟨Or.inl rfl, Or.inl rfl, Or.inl rfl, trivial⟩ (m150_L77_w hd N q26 (0 : Int32) h41 ?_)
  refine x_ld (v := .ref 106) r150_118 rfl rfl rfl ?_
  obtain ⟨q42, h43, h⟩ := Option.bind_eq_some_iff.mp h
  refine x_call0 (as := [.ref 106]) (rest := []) r150_119 rfl rfl rfl (by decide) (Nat.le_of_ble_eq_true rfl) (m149_ok h43) (Nat.le_trans (by decide) hd) (Nat.zero_le _) (Nat.zero_le _) rfl ?_
  refine x_ic (v := 0) r150_122 rfl rfl ?_
  refine x_sto (lc' := [.ref 106, .int (0 : Int32), am_dead]) r150_123 rfl rfl rfl rfl ?_
  obtain ⟨q51, h52, h⟩ := Option.bind_eq_some_iff.mp h
  refine x_forget (lc0 := [.ref 106, .int (0 : Int32), am_dead]) ⟨Or.inl rfl, Or.inl rfl, Or.inl rfl, trivial⟩ (m150_L124_w hd N q42 (0 : Int32) h52 ?_)
  refine x_ld (v := .ref 106) r150_145 rfl rfl rfl ?_
  refine x_ld (v := .ref 106) r150_146 rfl rfl rfl ?_
  refine x_ic (v := 2) r150_147 rfl rfl ?_
  refine x_ic (v := 3) r150_148 rfl rfl ?_
  refine x_bi (v := 6) r150_149 rfl rfl ?_
  obtain ⟨q53, h54, h⟩ := Option.bind_eq_some_iff.mp h
  refine x_call1 (as := [.ref 106, .int (2 : Int32), .int (3 : Int32), .int (6 : Int32)]) (rest := [.ref 106]) r150_151 rfl rfl rfl (by decide) (Nat.le_of_ble_eq_true rfl) (m128_ok h54) (Nat.le_trans (by decide) hd) (Nat.zero_le _) (Nat.zero_le _) rfl ?_
  obtain ⟨q55, h56, h⟩ := Option.bind_eq_some_iff.mp h
  refine x_call1 (as := [.double q53.1]) (rest := [.ref 106]) r150_154 rfl rfl rfl (by decide) (Nat.le_of_ble_eq_true rfl) (m147_ok h56) (Nat.le_trans (by decide) hd) (Nat.zero_le _) (Nat.zero_le _) rfl ?_
  obtain ⟨q57, h58, h⟩ := am_ltE h
  replace h58 := h58.symm
  refine x_call0 (as := [.ref 106, .long q55]) (rest := []) r150_157 rfl rfl rfl (by decide) (Nat.le_of_ble_eq_true rfl) (m146_ok h58) (Nat.le_trans (by decide) hd) (Nat.zero_le _) (Nat.zero_le _) rfl ?_
  refine x_ld (v := .ref 106) r150_160 rfl rfl rfl ?_
  refine x_ld (v := .ref 106) r150_161 rfl rfl rfl ?_
  obtain ⟨q59, h60, h⟩ := Option.bind_eq_some_iff.mp h
  refine x_call1 (as := [.ref 106]) (rest := [.ref 106]) r150_162 rfl rfl rfl (by decide) (Nat.le_of_ble_eq_true rfl) (m144_ok h60) (Nat.le_trans (by decide) hd) (Nat.zero_le _) (Nat.zero_le _) rfl ?_
  obtain ⟨q61, h62, h⟩ := Option.bind_eq_some_iff.mp h
  refine x_call1 (as := [.float q59]) (rest := [.ref 106]) r150_165 rfl rfl rfl (by decide) (Nat.le_of_ble_eq_true rfl) (m148_ok h62) (Nat.le_trans (by decide) hd) (Nat.zero_le _) (Nat.zero_le _) rfl ?_
  refine x_ar r150_168 rfl trivial rfl ?_
  obtain ⟨q63, h64, h⟩ := am_ltE h
  replace h64 := h64.symm
  refine x_call0 (as := [.ref 106, .long ((q61).toInt64)]) (rest := []) r150_169 rfl rfl rfl (by decide) (Nat.le_of_ble_eq_true rfl) (m146_ok h64) (Nat.le_trans (by decide) hd) (Nat.zero_le _) (Nat.zero_le _) rfl ?_
  refine x_ld (v := .ref 106) r150_172 rfl rfl rfl ?_
  refine x_ld (v := .ref 106) r150_173 rfl rfl rfl ?_
  refine y_gf (cd := 0) (v := .int (q63.1 106 3)) r150_174 rfl rfl rfl ?_
  obtain ⟨q65, h67, h⟩ := am_ltE h
  replace h67 := h67.symm
  have kj66 : am_X xs L 150 d mc ms 185 [.ref 106, am_dead, am_dead] [.long q65, .ref 106] (am_mk q63) 0 0 Q := by
    obtain ⟨q69, h70, h⟩ := am_ltE h
    replace h70 := h70.symm
    refine x_call0 (as := [.ref 106, .long q65]) (rest := []) r150_185 rfl rfl rfl (by decide) (Nat.le_of_ble_eq_true rfl) (m146_ok h70) (Nat.le_trans (by decide) hd) (Nat.zero_le _) (Nat.zero_le _) rfl ?_
    refine x_ld (v := .ref 106) r150_188 rfl rfl rfl ?_
    refine x_ld (v := .ref 106) r150_189 rfl rfl rfl ?_
    refine y_gf (cd := 0) (v := .int (q69.1 106 5)) r150_190 rfl rfl rfl ?_
    refine x_ar r150_193 rfl trivial rfl ?_
    obtain ⟨q71, h72, h⟩ := am_ltE h
    replace h72 := h72.symm
    refine x_call0 (as := [.ref 106, .long (((q69.1 106 5)).toInt64)]) (rest := []) r150_194 rfl rfl rfl (by decide) (Nat.le_of_ble_eq_true rfl) (m146_ok h72) (Nat.le_trans (by decide) hd) (Nat.zero_le _) (Nat.zero_le _) rfl ?_
    refine x_ic (v := 0) r150_197 rfl rfl ?_
    refine x_sto (lc' := [.ref 106, .int (0 : Int32), am_dead]) r150_198 rfl rfl rfl rfl ?_
    obtain ⟨q79, h80, h⟩ := Option.bind_eq_some_iff.mp h
    refine x_forget (lc0 := [.ref 106, .int (0 : Int32), am_dead]) ⟨Or.inl rfl, Or.inl rfl, Or.inl rfl, trivial⟩ (m150_L199_w hd N q71 (0 : Int32) h80 ?_)
    refine x_ld (v := .ref 106) r150_224 rfl rfl rfl ?_
    refine y_gf (cd := 1) (v := .long (q79.2.1 106 25)) r150_225 rfl rfl rfl ?_
    cases h
    exact x_ret (ret := some .long) (C := True) (v := some (.long _)) r150_228 rt150 rfl rfl rfl rfl rfl rfl rfl rfl trivial hQ
  rcases am_ifE h67 with ⟨c68, h67⟩ | ⟨c68, h67⟩
  · refine x_ifeqT r150_177 c68 ?_
    refine x_ar r150_184 rfl trivial rfl ?_
    subst h67
    exact kj66
  · refine x_ifeqF r150_177 c68 rfl ?_
    refine x_ar r150_180 rfl trivial rfl ?_
    refine x_goto r150_181 ?_
    subst h67
    exact kj66
theorem m150_ok {N : Nat} {D : am_D} {r : Int64 × am_D} (h : m150 N D = some r) : am_Y xs L 150 10 0 0 [.ref 106] D (.inl (some (.long r.1))) r.2 := am_Yof (mi := am_m150) (lc := [.ref 106, am_dead, am_dead]) pg150 (Nat.le_of_ble_eq_true rfl) (am_rc1 (ci := 8) rfl rfl rfl rfl rfl) rfl (fun Q hQ => m150_w (Nat.le_refl _) h hQ)
theorem r155_0 : am_at 155 0 = some (.aload_n 0, 1, [0]) := by decide +kernel
theorem r155_1 : am_at 155 1 = some (.getfield 9, 3, [0, 0, 3, 132]) := by decide +kernel
theorem r155_4 : am_at 155 4 = some (.iload_n 1, 1, [1]) := by decide +kernel
theorem r155_5 : am_at 155 5 = some (.invokestatic 40, 3, [180, 2, 436, 0]) := by decide +kernel
theorem r155_8 : am_at 155 8 = some (.invokestatic 44, 3, [251, 1, 580, 0]) := by decide +kernel
theorem r155_11 : am_at 155 11 = some (.aload_n 0, 1, [0]) := by decide +kernel
theorem r155_12 : am_at 155 12 = some (.getfield 15, 3, [0, 1, 3, 134]) := by decide +kernel
theorem r155_15 : am_at 155 15 = some (.iload_n 1, 1, [1]) := by decide +kernel
theorem r155_16 : am_at 155 16 = some (.invokestatic 40, 3, [180, 2, 436, 0]) := by decide +kernel
theorem r155_19 : am_at 155 19 = some (.isub, 1, []) := by decide +kernel
theorem r155_20 : am_at 155 20 = some (.ireturn, 1, []) := by decide +kernel
theorem rt155 : am_rtt 155 = some (some .int) := by decide +kernel
set_option maxRecDepth 100000 in
theorem pg155 : am_pg[155]? = some am_m155 := rfl
theorem m155_w {d mc ms : Nat} {D : am_D} {v1 : Int32} {Q : am_O → am_AH → Prop} (hd : 2 ≤ d) {r : Int32} (h : m155 D v1 = r) (hQ : Q (.inl (some (.int r))) (am_mk D)) : am_X xs L 155 d mc ms 0 [.ref 2, .int v1] [] (am_mk D) 0 0 Q := by
  unfold m155 at h
  refine x_ld (v := .ref 2) r155_0 rfl rfl rfl ?_
  refine y_gf (cd := 5) (v := .ref 3) r155_1 rfl rfl rfl ?_
  refine x_ld (v := .int v1) r155_4 rfl rfl rfl ?_
  refine x_call1 (as := [.ref 3, .int v1]) (rest := []) r155_5 rfl rfl rfl (by decide) (Nat.le_of_ble_eq_true rfl) (am_rows_at (n := 28) rfl (by decide)) (Nat.le_trans (by decide) hd) (Nat.zero_le _) (Nat.zero_le _) rfl ?_
  refine x_call1 (as := [.int (am_rat (D.1 3) 28 v1)]) (rest := []) r155_8 rfl rfl rfl (by decide) (Nat.le_of_ble_eq_true rfl) (m251_ok rfl) (Nat.le_trans (by decide) hd) (Nat.zero_le _) (Nat.zero_le _) rfl ?_
  refine x_ld (v := .ref 2) r155_11 rfl rfl rfl ?_
  refine y_gf (cd := 6) (v := .ref 4) r155_12 rfl rfl rfl ?_
  refine x_ld (v := .int v1) r155_15 rfl rfl rfl ?_
  refine x_call1 (as := [.ref 4, .int v1]) (rest := [.int (m251 (am_rat (D.1 3) 28 v1))]) r155_16 rfl rfl rfl (by decide) (Nat.le_of_ble_eq_true rfl) (am_rows_at (n := 28) rfl (by decide)) (Nat.le_trans (by decide) hd) (Nat.zero_le _) (Nat.zero_le _) rfl ?_
  refine x_ar r155_19 rfl trivial rfl ?_
  subst h
  exact x_ret (ret := some .int) (C := True) (v := some (.int _)) r155_20 rt155 rfl rfl rfl rfl rfl rfl rfl rfl trivial hQ
theorem m155_ok {D : am_D} {v1 : Int32} {r : Int32} (h : m155 D v1 = r) : am_Y xs L 155 2 0 0 [.ref 2, .int v1] D (.inl (some (.int r))) D := am_Yof (mi := am_m155) (lc := [.ref 2, .int v1]) pg155 (Nat.le_of_ble_eq_true rfl) (am_rc1 (ci := 0) rfl rfl rfl rfl rfl) rfl (fun Q hQ => m155_w (Nat.le_refl _) h hQ)
theorem r157_0 : am_at 157 0 = some (.aload_n 0, 1, [0]) := by decide +kernel
theorem r157_1 : am_at 157 1 = some (.getfield 9, 3, [0, 0, 3, 132]) := by decide +kernel
theorem r157_4 : am_at 157 4 = some (.iload_n 1, 1, [1]) := by decide +kernel
theorem r157_5 : am_at 157 5 = some (.ifCond .ne (7), 3, [12]) := by decide +kernel
theorem r157_8 : am_at 157 8 = some (.iconst (0), 1, []) := by decide +kernel
theorem r157_9 : am_at 157 9 = some (.goto (9), 3, [18]) := by decide +kernel
theorem r157_12 : am_at 157 12 = some (.aload_n 0, 1, [0]) := by decide +kernel
theorem r157_13 : am_at 157 13 = some (.getfield 37, 3, [0, 4, 0, 140]) := by decide +kernel
theorem r157_16 : am_at 157 16 = some (.iconst (1), 1, []) := by decide +kernel
theorem r157_17 : am_at 157 17 = some (.isub, 1, []) := by decide +kernel
theorem r157_18 : am_at 157 18 = some (.invokestatic 40, 3, [180, 2, 436, 0]) := by decide +kernel
theorem r157_21 : am_at 157 21 = some (.aload_n 0, 1, [0]) := by decide +kernel
theorem r157_22 : am_at 157 22 = some (.iload_n 1, 1, [1]) := by decide +kernel
theorem r157_23 : am_at 157 23 = some (.invokevirtual 50, 3, [156, 2, 439, 0]) := by decide +kernel
theorem r157_26 : am_at 157 26 = some (.invokestatic 53, 3, [255, 2, 440, 0]) := by decide +kernel
theorem r157_29 : am_at 157 29 = some (.ireturn, 1, []) := by decide +kernel
theorem rt157 : am_rtt 157 = some (some .int) := by decide +kernel
set_option maxRecDepth 100000 in
theorem pg157 : am_pg[157]? = some am_m157 := rfl
theorem m157_w {d mc ms : Nat} {D : am_D} {v1 : Int32} {Q : am_O → am_AH → Prop} (hd : 3 ≤ d) {r : Int32} (h : m157 D v1 = r) (hQ : Q (.inl (some (.int r))) (am_mk D)) : am_X xs L 157 d mc ms 0 [.ref 2, .int v1] [] (am_mk D) 0 0 Q := by
  unfold m157 at h
  refine x_ld (v := .ref 2) r157_0 rfl rfl rfl ?_
  refine y_gf (cd := 5) (v := .ref 3) r157_1 rfl rfl rfl ?_
  refine x_ld (v := .int v1) r157_4 rfl rfl rfl ?_
  obtain ⟨q1, h3, h⟩ := am_ltE h
  replace h3 := h3.symm
  have kj2 : am_X xs L 157 d mc ms 18 [.ref 2, .int v1] [.int q1, .ref 3] (am_mk D) 0 0 Q := by
    refine x_call1 (as := [.ref 3, .int q1]) (rest := []) r157_18 rfl rfl rfl (by decide) (Nat.le_of_ble_eq_true rfl) (am_rows_at (n := 28) rfl (by decide)) (Nat.le_trans (by decide) hd) (Nat.zero_le _) (Nat.zero_le _) rfl ?_
    refine x_ld (v := .ref 2) r157_21 rfl rfl rfl ?_
    refine x_ld (v := .int v1) r157_22 rfl rfl rfl ?_
    refine x_call1 (as := [.ref 2, .int v1]) (rest := [.int (am_rat (D.1 3) 28 q1)]) r157_23 rfl rfl rfl (by decide) (Nat.le_of_ble_eq_true rfl) (m156_ok rfl) (Nat.le_trans (by decide) hd) (Nat.zero_le _) (Nat.zero_le _) rfl ?_
    refine x_call1 (as := [.int (am_rat (D.1 3) 28 q1), .int (m156 D v1)]) (rest := []) r157_26 rfl rfl rfl (by decide) (Nat.le_of_ble_eq_true rfl) (m255_ok rfl) (Nat.le_trans (by decide) hd) (Nat.zero_le _) (Nat.zero_le _) rfl ?_
    subst h
    exact x_ret (ret := some .int) (C := True) (v := some (.int _)) r157_29 rt157 rfl rfl rfl rfl rfl rfl rfl rfl trivial hQ
  rcases am_ifE h3 with ⟨c4, h3⟩ | ⟨c4, h3⟩
  · refine x_ifneT r157_5 c4 rfl ?_
    refine x_ic (v := 0) r157_8 rfl rfl ?_
    refine x_goto r157_9 ?_
    subst h3
    exact kj2
  · refine x_ifneF r157_5 c4 ?_
    refine x_ld (v := .ref 2) r157_12 rfl rfl rfl ?_
    refine y_gf (cd := 0) (v := .int (D.1 2 4)) r157_13 rfl rfl rfl ?_
    refine x_ic (v := 1) r157_16 rfl rfl ?_
    refine x_ar r157_17 rfl trivial rfl ?_
    subst h3
    exact kj2
theorem m157_ok {D : am_D} {v1 : Int32} {r : Int32} (h : m157 D v1 = r) : am_Y xs L 157 3 0 0 [.ref 2, .int v1] D (.inl (some (.int r))) D := am_Yof (mi := am_m157) (lc := [.ref 2, .int v1]) pg157 (Nat.le_of_ble_eq_true rfl) (am_rc1 (ci := 0) rfl rfl rfl rfl rfl) rfl (fun Q hQ => m157_w (Nat.le_refl _) h hQ)
theorem r158_0 : am_at 158 0 = some (.aload_n 0, 1, [0]) := by decide +kernel
theorem r158_1 : am_at 158 1 = some (.getfield 37, 3, [0, 4, 0, 140]) := by decide +kernel
theorem r158_4 : am_at 158 4 = some (.ifCond .eq (15), 3, [19]) := by decide +kernel
theorem r158_7 : am_at 158 7 = some (.iload_n 1, 1, [1]) := by decide +kernel
theorem r158_8 : am_at 158 8 = some (.aload_n 0, 1, [0]) := by decide +kernel
theorem r158_9 : am_at 158 9 = some (.iload_n 2, 1, [2]) := by decide +kernel
theorem r158_10 : am_at 158 10 = some (.invokevirtual 50, 3, [156, 2, 439, 0]) := by decide +kernel
theorem r158_13 : am_at 158 13 = some (.invokestatic 57, 3, [253, 2, 566, 0]) := by decide +kernel
theorem r158_16 : am_at 158 16 = some (.ifCond .eq (7), 3, [23]) := by decide +kernel
theorem r158_19 : am_at 158 19 = some (.iconst (1), 1, []) := by decide +kernel
theorem r158_20 : am_at 158 20 = some (.goto (4), 3, [24]) := by decide +kernel
theorem r158_23 : am_at 158 23 = some (.iconst (0), 1, []) := by decide +kernel
theorem r158_24 : am_at 158 24 = some (.ireturn, 1, []) := by decide +kernel
theorem rt158 : am_rtt 158 = some (some .boolean) := by decide +kernel
set_option maxRecDepth 100000 in
theorem pg158 : am_pg[158]? = some am_m158 := rfl
theorem m158_w {d mc ms : Nat} {D : am_D} {v1 : Int32} {v2 : Int32} {Q : am_O → am_AH → Prop} (hd : 3 ≤ d) {r : Int32} (h : m158 D v1 v2 = r) (hQ : Q (.inl (some (.int r))) (am_mk D)) : am_X xs L 158 d mc ms 0 [.ref 2, .int v1, .int v2] [] (am_mk D) 0 0 Q := by
  unfold m158 at h
  refine x_ld (v := .ref 2) r158_0 rfl rfl rfl ?_
  refine y_gf (cd := 0) (v := .int (D.1 2 4)) r158_1 rfl rfl rfl ?_
  rcases am_ifE h with ⟨c1, h⟩ | ⟨c1, h⟩
  · refine x_ifeqT r158_4 c1 ?_
    refine x_ic (v := 1) r158_19 rfl rfl ?_
    refine x_goto r158_20 ?_
    subst h
    exact x_ret (ret := some .boolean) (C := narrow .boolean (.int (1 : Int32)) = .int (1 : Int32)) (v := some (.int (1 : Int32))) r158_24 rt158 rfl rfl rfl rfl rfl rfl rfl rfl (by decide) hQ
  · refine x_ifeqF r158_4 c1 rfl ?_
    refine x_ld (v := .int v1) r158_7 rfl rfl rfl ?_
    refine x_ld (v := .ref 2) r158_8 rfl rfl rfl ?_
    refine x_ld (v := .int v2) r158_9 rfl rfl rfl ?_
    refine x_call1 (as := [.ref 2, .int v2]) (rest := [.int v1]) r158_10 rfl rfl rfl (by decide) (Nat.le_of_ble_eq_true rfl) (m156_ok rfl) (Nat.le_trans (by decide) hd) (Nat.zero_le _) (Nat.zero_le _) rfl ?_
    refine x_call1 (as := [.int v1, .int (m156 D v2)]) (rest := []) r158_13 rfl rfl rfl (by decide) (Nat.le_of_ble_eq_true rfl) (m253_ok rfl) (Nat.le_trans (by decide) hd) (Nat.zero_le _) (Nat.zero_le _) rfl ?_
    rcases am_ifE h with ⟨c2, h⟩ | ⟨c2, h⟩
    · refine x_ifeqT r158_16 c2 ?_
      refine x_ic (v := 0) r158_23 rfl rfl ?_
      subst h
      exact x_ret (ret := some .boolean) (C := narrow .boolean (.int (0 : Int32)) = .int (0 : Int32)) (v := some (.int (0 : Int32))) r158_24 rt158 rfl rfl rfl rfl rfl rfl rfl rfl (by decide) hQ
    · refine x_ifeqF r158_16 c2 rfl ?_
      refine x_ic (v := 1) r158_19 rfl rfl ?_
      refine x_goto r158_20 ?_
      subst h
      exact x_ret (ret := some .boolean) (C := narrow .boolean (.int (1 : Int32)) = .int (1 : Int32)) (v := some (.int (1 : Int32))) r158_24 rt158 rfl rfl rfl rfl rfl rfl rfl rfl (by decide) hQ
theorem m158_ok {D : am_D} {v1 : Int32} {v2 : Int32} {r : Int32} (h : m158 D v1 v2 = r) : am_Y xs L 158 3 0 0 [.ref 2, .int v1, .int v2] D (.inl (some (.int r))) D := am_Yof (mi := am_m158) (lc := [.ref 2, .int v1, .int v2]) pg158 (Nat.le_of_ble_eq_true rfl) (am_rc1 (ci := 0) rfl rfl rfl rfl rfl) rfl (fun Q hQ => m158_w (Nat.le_refl _) h hQ)
theorem m158_b (D : am_D) (v1 : Int32) (v2 : Int32) : m158 D v1 v2 &&& 1 = m158 D v1 v2 := by
  unfold m158
  (repeat' split) <;> rfl
theorem r159_0 : am_at 159 0 = some (.aload_n 0, 1, [0]) := by decide +kernel
theorem r159_1 : am_at 159 1 = some (.getfield 37, 3, [0, 4, 0, 140]) := by decide +kernel
theorem r159_4 : am_at 159 4 = some (.ifCond .eq (25), 3, [29]) := by decide +kernel
theorem r159_7 : am_at 159 7 = some (.iload_n 1, 1, [1]) := by decide +kernel
theorem r159_8 : am_at 159 8 = some (.aload_n 0, 1, [0]) := by decide +kernel
theorem r159_9 : am_at 159 9 = some (.getfield 24, 3, [0, 5, 0, 142]) := by decide +kernel
theorem r159_12 : am_at 159 12 = some (.invokestatic 57, 3, [253, 2, 566, 0]) := by decide +kernel
theorem r159_15 : am_at 159 15 = some (.ifCond .ne (14), 3, [29]) := by decide +kernel
theorem r159_18 : am_at 159 18 = some (.iload_n 1, 1, [1]) := by decide +kernel
theorem r159_19 : am_at 159 19 = some (.aload_n 0, 1, [0]) := by decide +kernel
theorem r159_20 : am_at 159 20 = some (.getfield 28, 3, [0, 6, 0, 143]) := by decide +kernel
theorem r159_23 : am_at 159 23 = some (.invokestatic 57, 3, [253, 2, 566, 0]) := by decide +kernel
theorem r159_26 : am_at 159 26 = some (.ifCond .eq (7), 3, [33]) := by decide +kernel
theorem r159_29 : am_at 159 29 = some (.iconst (1), 1, []) := by decide +kernel
theorem r159_30 : am_at 159 30 = some (.goto (4), 3, [34]) := by decide +kernel
theorem r159_33 : am_at 159 33 = some (.iconst (0), 1, []) := by decide +kernel
theorem r159_34 : am_at 159 34 = some (.ireturn, 1, []) := by decide +kernel
theorem rt159 : am_rtt 159 = some (some .boolean) := by decide +kernel
set_option maxRecDepth 100000 in
theorem pg159 : am_pg[159]? = some am_m159 := rfl
theorem m159_w {d mc ms : Nat} {D : am_D} {v1 : Int32} {Q : am_O → am_AH → Prop} (hd : 3 ≤ d) {r : Int32} (h : m159 D v1 = r) (hQ : Q (.inl (some (.int r))) (am_mk D)) : am_X xs L 159 d mc ms 0 [.ref 2, .int v1] [] (am_mk D) 0 0 Q := by
  unfold m159 at h
  refine x_ld (v := .ref 2) r159_0 rfl rfl rfl ?_
  refine y_gf (cd := 0) (v := .int (D.1 2 4)) r159_1 rfl rfl rfl ?_
  rcases am_ifE h with ⟨c1, h⟩ | ⟨c1, h⟩
  · refine x_ifeqT r159_4 c1 ?_
    refine x_ic (v := 1) r159_29 rfl rfl ?_
    refine x_goto r159_30 ?_
    subst h
    exact x_ret (ret := some .boolean) (C := narrow .boolean (.int (1 : Int32)) = .int (1 : Int32)) (v := some (.int (1 : Int32))) r159_34 rt159 rfl rfl rfl rfl rfl rfl rfl rfl (by decide) hQ
  · refine x_ifeqF r159_4 c1 rfl ?_
    refine x_ld (v := .int v1) r159_7 rfl rfl rfl ?_
    refine x_ld (v := .ref 2) r159_8 rfl rfl rfl ?_
    refine y_gf (cd := 0) (v := .int (D.1 2 5)) r159_9 rfl rfl rfl ?_
    refine x_call1 (as := [.int v1, .int (D.1 2 5)]) (rest := []) r159_12 rfl rfl rfl (by decide) (Nat.le_of_ble_eq_true rfl) (m253_ok rfl) (Nat.le_trans (by decide) hd) (Nat.zero_le _) (Nat.zero_le _) rfl ?_
    rcases am_ifE h with ⟨c2, h⟩ | ⟨c2, h⟩
    · refine x_ifneT r159_15 c2 rfl ?_
      refine x_ld (v := .int v1) r159_18 rfl rfl rfl ?_
      refine x_ld (v := .ref 2) r159_19 rfl rfl rfl ?_
      refine y_gf (cd := 0) (v := .int (D.1 2 6)) r159_20 rfl rfl rfl ?_
      refine x_call1 (as := [.int v1, .int (D.1 2 6)]) (rest := []) r159_23 rfl rfl rfl (by decide) (Nat.le_of_ble_eq_true rfl) (m253_ok rfl) (Nat.le_trans (by decide) hd) (Nat.zero_le _) (Nat.zero_le _) rfl ?_
      rcases am_ifE h with ⟨c3, h⟩ | ⟨c3, h⟩
      · refine x_ifeqT r159_26 c3 ?_
        refine x_ic (v := 0) r159_33 rfl rfl ?_
        subst h
        exact x_ret (ret := some .boolean) (C := narrow .boolean (.int (0 : Int32)) = .int (0 : Int32)) (v := some (.int (0 : Int32))) r159_34 rt159 rfl rfl rfl rfl rfl rfl rfl rfl (by decide) hQ
      · refine x_ifeqF r159_26 c3 rfl ?_
        refine x_ic (v := 1) r159_29 rfl rfl ?_
        refine x_goto r159_30 ?_
        subst h
        exact x_ret (ret := some .boolean) (C := narrow .boolean (.int (1 : Int32)) = .int (1 : Int32)) (v := some (.int (1 : Int32))) r159_34 rt159 rfl rfl rfl rfl rfl rfl rfl rfl (by decide) hQ
    · refine x_ifneF r159_15 c2 ?_
      refine x_ic (v := 1) r159_29 rfl rfl ?_
      refine x_goto r159_30 ?_
      subst h
      exact x_ret (ret := some .boolean) (C := narrow .boolean (.int (1 : Int32)) = .int (1 : Int32)) (v := some (.int (1 : Int32))) r159_34 rt159 rfl rfl rfl rfl rfl rfl rfl rfl (by decide) hQ
theorem m159_ok {D : am_D} {v1 : Int32} {r : Int32} (h : m159 D v1 = r) : am_Y xs L 159 3 0 0 [.ref 2, .int v1] D (.inl (some (.int r))) D := am_Yof (mi := am_m159) (lc := [.ref 2, .int v1]) pg159 (Nat.le_of_ble_eq_true rfl) (am_rc1 (ci := 0) rfl rfl rfl rfl rfl) rfl (fun Q hQ => m159_w (Nat.le_refl _) h hQ)
theorem m159_b (D : am_D) (v1 : Int32) : m159 D v1 &&& 1 = m159 D v1 := by
  unfold m159
  (repeat' split) <;> rfl
theorem r160_0 : am_at 160 0 = some (.aload_n 0, 1, [0]) := by decide +kernel
theorem r160_1 : am_at 160 1 = some (.getfield 37, 3, [0, 4, 0, 140]) := by decide +kernel
theorem r160_4 : am_at 160 4 = some (.ifCond .ne (5), 3, [9]) := by decide +kernel
theorem r160_7 : am_at 160 7 = some (.iconst (0), 1, []) := by decide +kernel
theorem r160_8 : am_at 160 8 = some (.ireturn, 1, []) := by decide +kernel
theorem r160_9 : am_at 160 9 = some (.aload_n 0, 1, [0]) := by decide +kernel
theorem r160_10 : am_at 160 10 = some (.getfield 37, 3, [0, 4, 0, 140]) := by decide +kernel
theorem r160_13 : am_at 160 13 = some (.iconst (1), 1, []) := by decide +kernel
theorem r160_14 : am_at 160 14 = some (.if_icmp .ne (15), 3, [29]) := by decide +kernel
theorem r160_17 : am_at 160 17 = some (.aload_n 0, 1, [0]) := by decide +kernel
theorem r160_18 : am_at 160 18 = some (.getfield 24, 3, [0, 5, 0, 142]) := by decide +kernel
theorem r160_21 : am_at 160 21 = some (.aload_n 0, 1, [0]) := by decide +kernel
theorem r160_22 : am_at 160 22 = some (.getfield 28, 3, [0, 6, 0, 143]) := by decide +kernel
theorem r160_25 : am_at 160 25 = some (.iadd, 1, []) := by decide +kernel
theorem r160_26 : am_at 160 26 = some (.goto (14), 3, [40]) := by decide +kernel
theorem r160_29 : am_at 160 29 = some (.aload_n 0, 1, [0]) := by decide +kernel
theorem r160_30 : am_at 160 30 = some (.iconst (0), 1, []) := by decide +kernel
theorem r160_31 : am_at 160 31 = some (.invokevirtual 61, 3, [157, 2, 432, 0]) := by decide +kernel
theorem r160_34 : am_at 160 34 = some (.aload_n 0, 1, [0]) := by decide +kernel
theorem r160_35 : am_at 160 35 = some (.iconst (1), 1, []) := by decide +kernel
theorem r160_36 : am_at 160 36 = some (.invokevirtual 61, 3, [157, 2, 432, 0]) := by decide +kernel
theorem r160_39 : am_at 160 39 = some (.iadd, 1, []) := by decide +kernel
theorem r160_40 : am_at 160 40 = some (.ireturn, 1, []) := by decide +kernel
theorem rt160 : am_rtt 160 = some (some .int) := by decide +kernel
set_option maxRecDepth 100000 in
theorem pg160 : am_pg[160]? = some am_m160 := rfl
theorem m160_w {d mc ms : Nat} {D : am_D} {Q : am_O → am_AH → Prop} (hd : 4 ≤ d) {r : Int32} (h : m160 D = r) (hQ : Q (.inl (some (.int r))) (am_mk D)) : am_X xs L 160 d mc ms 0 [.ref 2] [] (am_mk D) 0 0 Q := by
  unfold m160 at h
  refine x_ld (v := .ref 2) r160_0 rfl rfl rfl ?_
  refine y_gf (cd := 0) (v := .int (D.1 2 4)) r160_1 rfl rfl rfl ?_
  rcases am_ifE h with ⟨c1, h⟩ | ⟨c1, h⟩
  · refine x_ifneT r160_4 c1 rfl ?_
    refine x_ic (v := 0) r160_7 rfl rfl ?_
    subst h
    exact x_ret (ret := some .int) (C := True) (v := some (.int _)) r160_8 rt160 rfl rfl rfl rfl rfl rfl rfl rfl trivial hQ
  · refine x_ifneF r160_4 c1 ?_
    refine x_ld (v := .ref 2) r160_9 rfl rfl rfl ?_
    refine y_gf (cd := 0) (v := .int (D.1 2 4)) r160_10 rfl rfl rfl ?_
    refine x_ic (v := 1) r160_13 rfl rfl ?_
    rcases am_ifE h with ⟨c2, h⟩ | ⟨c2, h⟩
    · refine x_icneT r160_14 c2 rfl ?_
      refine x_ld (v := .ref 2) r160_17 rfl rfl rfl ?_
      refine y_gf (cd := 0) (v := .int (D.1 2 5)) r160_18 rfl rfl rfl ?_
      refine x_ld (v := .ref 2) r160_21 rfl rfl rfl ?_
      refine y_gf (cd := 0) (v := .int (D.1 2 6)) r160_22 rfl rfl rfl ?_
      refine x_ar r160_25 rfl trivial rfl ?_
      refine x_goto r160_26 ?_
      subst h
      exact x_ret (ret := some .int) (C := True) (v := some (.int _)) r160_40 rt160 rfl rfl rfl rfl rfl rfl rfl rfl trivial hQ
    · refine x_icneF r160_14 c2 ?_
      refine x_ld (v := .ref 2) r160_29 rfl rfl rfl ?_
      refine x_ic (v := 0) r160_30 rfl rfl ?_
      refine x_call1 (as := [.ref 2, .int (0 : Int32)]) (rest := []) r160_31 rfl rfl rfl (by decide) (Nat.le_of_ble_eq_true rfl) (m157_ok rfl) (Nat.le_trans (by decide) hd) (Nat.zero_le _) (Nat.zero_le _) rfl ?_
      refine x_ld (v := .ref 2) r160_34 rfl rfl rfl ?_
      refine x_ic (v := 1) r160_35 rfl rfl ?_
      refine x_call1 (as := [.ref 2, .int (1 : Int32)]) (rest := [.int (m157 D (0 : Int32))]) r160_36 rfl rfl rfl (by decide) (Nat.le_of_ble_eq_true rfl) (m157_ok rfl) (Nat.le_trans (by decide) hd) (Nat.zero_le _) (Nat.zero_le _) rfl ?_
      refine x_ar r160_39 rfl trivial rfl ?_
      subst h
      exact x_ret (ret := some .int) (C := True) (v := some (.int _)) r160_40 rt160 rfl rfl rfl rfl rfl rfl rfl rfl trivial hQ
theorem m160_ok {D : am_D} {r : Int32} (h : m160 D = r) : am_Y xs L 160 4 0 0 [.ref 2] D (.inl (some (.int r))) D := am_Yof (mi := am_m160) (lc := [.ref 2]) pg160 (Nat.le_of_ble_eq_true rfl) (am_rc1 (ci := 0) rfl rfl rfl rfl rfl) rfl (fun Q hQ => m160_w (Nat.le_refl _) h hQ)
theorem r162_0 : am_at 162 0 = some (.aload_n 0, 1, [0]) := by decide +kernel
theorem r162_1 : am_at 162 1 = some (.getfield 37, 3, [0, 4, 0, 140]) := by decide +kernel
theorem r162_4 : am_at 162 4 = some (.ifCond .ne (19), 3, [23]) := by decide +kernel
theorem r162_7 : am_at 162 7 = some (.iload_n 2, 1, [2]) := by decide +kernel
theorem r162_8 : am_at 162 8 = some (.ifCond .ne (10), 3, [18]) := by decide +kernel
theorem r162_11 : am_at 162 11 = some (.iload_n 1, 1, [1]) := by decide +kernel
theorem r162_12 : am_at 162 12 = some (.invokestatic 70, 3, [249, 1, 922, 0]) := by decide +kernel
theorem r162_15 : am_at 162 15 = some (.goto (7), 3, [22]) := by decide +kernel
theorem r162_18 : am_at 162 18 = some (.iload_n 1, 1, [1]) := by decide +kernel
theorem r162_19 : am_at 162 19 = some (.invokestatic 73, 3, [250, 1, 923, 0]) := by decide +kernel
theorem r162_22 : am_at 162 22 = some (.ireturn, 1, []) := by decide +kernel
theorem r162_23 : am_at 162 23 = some (.iload_n 1, 1, [1]) := by decide +kernel
theorem r162_24 : am_at 162 24 = some (.invokestatic 44, 3, [251, 1, 580, 0]) := by decide +kernel
theorem r162_27 : am_at 162 27 = some (.aload_n 0, 1, [0]) := by decide +kernel
theorem r162_28 : am_at 162 28 = some (.iload_n 2, 1, [2]) := by decide +kernel
theorem r162_29 : am_at 162 29 = some (.invokevirtual 50, 3, [156, 2, 439, 0]) := by decide +kernel
theorem r162_32 : am_at 162 32 = some (.isub, 1, []) := by decide +kernel
theorem r162_33 : am_at 162 33 = some (.ireturn, 1, []) := by decide +kernel
theorem rt162 : am_rtt 162 = some (some .int) := by decide +kernel
set_option maxRecDepth 100000 in
theorem pg162 : am_pg[162]? = some am_m162 := rfl
theorem m162_w {d mc ms : Nat} {D : am_D} {v1 : Int32} {v2 : Int32} {Q : am_O → am_AH → Prop} (hd : 2 ≤ d) {r : Int32} (h : m162 D v1 v2 = r) (hQ : Q (.inl (some (.int r))) (am_mk D)) : am_X xs L 162 d mc ms 0 [.ref 2, .int v1, .int v2] [] (am_mk D) 0 0 Q := by
  unfold m162 at h
  refine x_ld (v := .ref 2) r162_0 rfl rfl rfl ?_
  refine y_gf (cd := 0) (v := .int (D.1 2 4)) r162_1 rfl rfl rfl ?_
  rcases am_ifE h with ⟨c1, h⟩ | ⟨c1, h⟩
  · refine x_ifneT r162_4 c1 rfl ?_
    refine x_ld (v := .int v2) r162_7 rfl rfl rfl ?_
    rcases am_ifE h with ⟨c2, h⟩ | ⟨c2, h⟩
    · refine x_ifneT r162_8 c2 rfl ?_
      refine x_ld (v := .int v1) r162_11 rfl rfl rfl ?_
      refine x_call1 (as := [.int v1]) (rest := []) r162_12 rfl rfl rfl (by decide) (Nat.le_of_ble_eq_true rfl) (m249_ok rfl) (Nat.le_trans (by decide) hd) (Nat.zero_le _) (Nat.zero_le _) rfl ?_
      refine x_goto r162_15 ?_
      subst h
      exact x_ret (ret := some .int) (C := True) (v := some (.int _)) r162_22 rt162 rfl rfl rfl rfl rfl rfl rfl rfl trivial hQ
    · refine x_ifneF r162_8 c2 ?_
      refine x_ld (v := .int v1) r162_18 rfl rfl rfl ?_
      refine x_call1 (as := [.int v1]) (rest := []) r162_19 rfl rfl rfl (by decide) (Nat.le_of_ble_eq_true rfl) (m250_ok rfl) (Nat.le_trans (by decide) hd) (Nat.zero_le _) (Nat.zero_le _) rfl ?_
      subst h
      exact x_ret (ret := some .int) (C := True) (v := some (.int _)) r162_22 rt162 rfl rfl rfl rfl rfl rfl rfl rfl trivial hQ
  · refine x_ifneF r162_4 c1 ?_
    refine x_ld (v := .int v1) r162_23 rfl rfl rfl ?_
    refine x_call1 (as := [.int v1]) (rest := []) r162_24 rfl rfl rfl (by decide) (Nat.le_of_ble_eq_true rfl) (m251_ok rfl) (Nat.le_trans (by decide) hd) (Nat.zero_le _) (Nat.zero_le _) rfl ?_
    refine x_ld (v := .ref 2) r162_27 rfl rfl rfl ?_
    refine x_ld (v := .int v2) r162_28 rfl rfl rfl ?_
    refine x_call1 (as := [.ref 2, .int v2]) (rest := [.int (m251 v1)]) r162_29 rfl rfl rfl (by decide) (Nat.le_of_ble_eq_true rfl) (m156_ok rfl) (Nat.le_trans (by decide) hd) (Nat.zero_le _) (Nat.zero_le _) rfl ?_
    refine x_ar r162_32 rfl trivial rfl ?_
    subst h
    exact x_ret (ret := some .int) (C := True) (v := some (.int _)) r162_33 rt162 rfl rfl rfl rfl rfl rfl rfl rfl trivial hQ
theorem m162_ok {D : am_D} {v1 : Int32} {v2 : Int32} {r : Int32} (h : m162 D v1 v2 = r) : am_Y xs L 162 2 0 0 [.ref 2, .int v1, .int v2] D (.inl (some (.int r))) D := am_Yof (mi := am_m162) (lc := [.ref 2, .int v1, .int v2]) pg162 (Nat.le_of_ble_eq_true rfl) (am_rc1 (ci := 0) rfl rfl rfl rfl rfl) rfl (fun Q hQ => m162_w (Nat.le_refl _) h hQ)
theorem r163_0 : am_at 163 0 = some (.aload_n 0, 1, [0]) := by decide +kernel
theorem r163_1 : am_at 163 1 = some (.getfield 37, 3, [0, 4, 0, 140]) := by decide +kernel
theorem r163_4 : am_at 163 4 = some (.ifCond .ne (15), 3, [19]) := by decide +kernel
theorem r163_7 : am_at 163 7 = some (.aload_n 0, 1, [0]) := by decide +kernel
theorem r163_8 : am_at 163 8 = some (.iload_n 1, 1, [1]) := by decide +kernel
theorem r163_9 : am_at 163 9 = some (.iload_n 2, 1, [2]) := by decide +kernel
theorem r163_10 : am_at 163 10 = some (.invokestatic 67, 3, [166, 1, 924, 0]) := by decide +kernel
theorem r163_13 : am_at 163 13 = some (.invokevirtual 64, 3, [162, 3, 918, 0]) := by decide +kernel
theorem r163_16 : am_at 163 16 = some (.goto (11), 3, [27]) := by decide +kernel
theorem r163_19 : am_at 163 19 = some (.aload_n 0, 1, [0]) := by decide +kernel
theorem r163_20 : am_at 163 20 = some (.iload_n 2, 1, [2]) := by decide +kernel
theorem r163_21 : am_at 163 21 = some (.invokestatic 67, 3, [166, 1, 924, 0]) := by decide +kernel
theorem r163_24 : am_at 163 24 = some (.invokevirtual 50, 3, [156, 2, 439, 0]) := by decide +kernel
theorem r163_27 : am_at 163 27 = some (.ireturn, 1, []) := by decide +kernel
theorem rt163 : am_rtt 163 = some (some .int) := by decide +kernel
set_option maxRecDepth 100000 in
theorem pg163 : am_pg[163]? = some am_m163 := rfl
theorem m163_w {d mc ms : Nat} {D : am_D} {v1 : Int32} {v2 : Int32} {Q : am_O → am_AH → Prop} (hd : 3 ≤ d) {r : Int32} (h : m163 D v1 v2 = r) (hQ : Q (.inl (some (.int r))) (am_mk D)) : am_X xs L 163 d mc ms 0 [.ref 2, .int v1, .int v2] [] (am_mk D) 0 0 Q := by
  unfold m163 at h
  refine x_ld (v := .ref 2) r163_0 rfl rfl rfl ?_
  refine y_gf (cd := 0) (v := .int (D.1 2 4)) r163_1 rfl rfl rfl ?_
  rcases am_ifE h with ⟨c1, h⟩ | ⟨c1, h⟩
  · refine x_ifneT r163_4 c1 rfl ?_
    refine x_ld (v := .ref 2) r163_7 rfl rfl rfl ?_
    refine x_ld (v := .int v1) r163_8 rfl rfl rfl ?_
    refine x_ld (v := .int v2) r163_9 rfl rfl rfl ?_
    refine x_call1 (as := [.int v2]) (rest := [.int v1, .ref 2]) r163_10 rfl rfl rfl (by decide) (Nat.le_of_ble_eq_true rfl) (m166_ok rfl) (Nat.le_trans (by decide) hd) (Nat.zero_le _) (Nat.zero_le _) rfl ?_
    refine x_call1 (as := [.ref 2, .int v1, .int (m166 v2)]) (rest := []) r163_13 rfl rfl rfl (by decide) (Nat.le_of_ble_eq_true rfl) (m162_ok rfl) (Nat.le_trans (by decide) hd) (Nat.zero_le _) (Nat.zero_le _) rfl ?_
    refine x_goto r163_16 ?_
    subst h
    exact x_ret (ret := some .int) (C := True) (v := some (.int _)) r163_27 rt163 rfl rfl rfl rfl rfl rfl rfl rfl trivial hQ
  · refine x_ifneF r163_4 c1 ?_
    refine x_ld (v := .ref 2) r163_19 rfl rfl rfl ?_
    refine x_ld (v := .int v2) r163_20 rfl rfl rfl ?_
    refine x_call1 (as := [.int v2]) (rest := [.ref 2]) r163_21 rfl rfl rfl (by decide) (Nat.le_of_ble_eq_true rfl) (m166_ok rfl) (Nat.le_trans (by decide) hd) (Nat.zero_le _) (Nat.zero_le _) rfl ?_
    refine x_call1 (as := [.ref 2, .int (m166 v2)]) (rest := []) r163_24 rfl rfl rfl (by decide) (Nat.le_of_ble_eq_true rfl) (m156_ok rfl) (Nat.le_trans (by decide) hd) (Nat.zero_le _) (Nat.zero_le _) rfl ?_
    subst h
    exact x_ret (ret := some .int) (C := True) (v := some (.int _)) r163_27 rt163 rfl rfl rfl rfl rfl rfl rfl rfl trivial hQ
theorem m163_ok {D : am_D} {v1 : Int32} {v2 : Int32} {r : Int32} (h : m163 D v1 v2 = r) : am_Y xs L 163 3 0 0 [.ref 2, .int v1, .int v2] D (.inl (some (.int r))) D := am_Yof (mi := am_m163) (lc := [.ref 2, .int v1, .int v2]) pg163 (Nat.le_of_ble_eq_true rfl) (am_rc1 (ci := 0) rfl rfl rfl rfl rfl) rfl (fun Q hQ => m163_w (Nat.le_refl _) h hQ)
theorem r164_0 : am_at 164 0 = some (.aload_n 0, 1, [0]) := by decide +kernel
theorem r164_1 : am_at 164 1 = some (.getfield 37, 3, [0, 4, 0, 140]) := by decide +kernel
theorem r164_4 : am_at 164 4 = some (.aload_n 0, 1, [0]) := by decide +kernel
theorem r164_5 : am_at 164 5 = some (.getfield 9, 3, [0, 0, 3, 132]) := by decide +kernel
theorem r164_8 : am_at 164 8 = some (.arraylength, 1, []) := by decide +kernel
theorem r164_9 : am_at 164 9 = some (.if_icmp .lt (4), 3, [13]) := by decide +kernel
theorem r164_12 : am_at 164 12 = some (.return_, 1, []) := by decide +kernel
theorem r164_13 : am_at 164 13 = some (.aload_n 0, 1, [0]) := by decide +kernel
theorem r164_14 : am_at 164 14 = some (.getfield 37, 3, [0, 4, 0, 140]) := by decide +kernel
theorem r164_17 : am_at 164 17 = some (.ifCond .ne (7), 3, [24]) := by decide +kernel
theorem r164_20 : am_at 164 20 = some (.iconst (1), 1, []) := by decide +kernel
theorem r164_21 : am_at 164 21 = some (.goto (4), 3, [25]) := by decide +kernel
theorem r164_24 : am_at 164 24 = some (.iconst (0), 1, []) := by decide +kernel
theorem r164_25 : am_at 164 25 = some (.istore 4, 2, [4]) := by decide +kernel
theorem r164_27 : am_at 164 27 = some (.aload_n 0, 1, [0]) := by decide +kernel
theorem r164_28 : am_at 164 28 = some (.iload_n 1, 1, [1]) := by decide +kernel
theorem r164_29 : am_at 164 29 = some (.iload 4, 2, [4]) := by decide +kernel
theorem r164_31 : am_at 164 31 = some (.ifCond .eq (7), 3, [38]) := by decide +kernel
theorem r164_34 : am_at 164 34 = some (.iconst (0), 1, []) := by decide +kernel
theorem r164_35 : am_at 164 35 = some (.goto (4), 3, [39]) := by decide +kernel
theorem r164_38 : am_at 164 38 = some (.iload_n 2, 1, [2]) := by decide +kernel
theorem r164_39 : am_at 164 39 = some (.invokevirtual 64, 3, [162, 3, 918, 0]) := by decide +kernel
theorem r164_42 : am_at 164 42 = some (.istore 5, 2, [5]) := by decide +kernel
theorem r164_44 : am_at 164 44 = some (.iload_n 2, 1, [2]) := by decide +kernel
theorem r164_45 : am_at 164 45 = some (.ifCond .ne (7), 3, [52]) := by decide +kernel
theorem r164_48 : am_at 164 48 = some (.iconst (0), 1, []) := by decide +kernel
theorem r164_49 : am_at 164 49 = some (.goto (7), 3, [56]) := by decide +kernel
theorem r164_52 : am_at 164 52 = some (.aload_n 0, 1, [0]) := by decide +kernel
theorem r164_53 : am_at 164 53 = some (.getfield 37, 3, [0, 4, 0, 140]) := by decide +kernel
theorem r164_56 : am_at 164 56 = some (.istore 6, 2, [6]) := by decide +kernel
theorem r164_58 : am_at 164 58 = some (.aload_n 0, 1, [0]) := by decide +kernel
theorem r164_59 : am_at 164 59 = some (.getfield 37, 3, [0, 4, 0, 140]) := by decide +kernel
theorem r164_62 : am_at 164 62 = some (.istore 7, 2, [7]) := by decide +kernel
theorem r164_64 : am_at 164 64 = some (.iload 7, 2, [7]) := by decide +kernel
theorem r164_66 : am_at 164 66 = some (.iload 6, 2, [6]) := by decide +kernel
theorem r164_68 : am_at 164 68 = some (.if_icmp .le (15), 3, [83]) := by decide +kernel
theorem r164_71 : am_at 164 71 = some (.aload_n 0, 1, [0]) := by decide +kernel
theorem r164_72 : am_at 164 72 = some (.iload 7, 2, [7]) := by decide +kernel
theorem r164_74 : am_at 164 74 = some (.invokevirtual 76, 3, [165, 2, 933, 0]) := by decide +kernel
theorem r164_77 : am_at 164 77 = some (.iinc 7 (-1), 3, [7]) := by decide +kernel
theorem r164_80 : am_at 164 80 = some (.goto (-16), 3, [64]) := by decide +kernel
theorem r164_83 : am_at 164 83 = some (.aload_n 0, 1, [0]) := by decide +kernel
theorem r164_84 : am_at 164 84 = some (.getfield 9, 3, [0, 0, 3, 132]) := by decide +kernel
theorem r164_87 : am_at 164 87 = some (.iload 6, 2, [6]) := by decide +kernel
theorem r164_89 : am_at 164 89 = some (.iload_n 1, 1, [1]) := by decide +kernel
theorem r164_90 : am_at 164 90 = some (.invokestatic 80, 3, [181, 3, 937, 0]) := by decide +kernel
theorem r164_93 : am_at 164 93 = some (.aload_n 0, 1, [0]) := by decide +kernel
theorem r164_94 : am_at 164 94 = some (.getfield 15, 3, [0, 1, 3, 134]) := by decide +kernel
theorem r164_97 : am_at 164 97 = some (.iload 6, 2, [6]) := by decide +kernel
theorem r164_99 : am_at 164 99 = some (.iload 4, 2, [4]) := by decide +kernel
theorem r164_101 : am_at 164 101 = some (.ifCond .ne (7), 3, [108]) := by decide +kernel
theorem r164_104 : am_at 164 104 = some (.iload_n 2, 1, [2]) := by decide +kernel
theorem r164_105 : am_at 164 105 = some (.ifCond .ne (8), 3, [113]) := by decide +kernel
theorem r164_108 : am_at 164 108 = some (.iload 5, 2, [5]) := by decide +kernel
theorem r164_110 : am_at 164 110 = some (.goto (7), 3, [117]) := by decide +kernel
theorem r164_113 : am_at 164 113 = some (.aload_n 0, 1, [0]) := by decide +kernel
theorem r164_114 : am_at 164 114 = some (.getfield 28, 3, [0, 6, 0, 143]) := by decide +kernel
theorem r164_117 : am_at 164 117 = some (.invokestatic 80, 3, [181, 3, 937, 0]) := by decide +kernel
theorem r164_120 : am_at 164 120 = some (.aload_n 0, 1, [0]) := by decide +kernel
theorem r164_121 : am_at 164 121 = some (.getfield 18, 3, [0, 2, 3, 136]) := by decide +kernel
theorem r164_124 : am_at 164 124 = some (.iload 6, 2, [6]) := by decide +kernel
theorem r164_126 : am_at 164 126 = some (.iload_n 3, 1, [3]) := by decide +kernel
theorem r164_127 : am_at 164 127 = some (.invokestatic 80, 3, [181, 3, 937, 0]) := by decide +kernel
theorem r164_130 : am_at 164 130 = some (.aload_n 0, 1, [0]) := by decide +kernel
theorem r164_131 : am_at 164 131 = some (.dup, 1, []) := by decide +kernel
theorem r164_132 : am_at 164 132 = some (.getfield 37, 3, [0, 4, 0, 140]) := by decide +kernel
theorem r164_135 : am_at 164 135 = some (.iconst (1), 1, []) := by decide +kernel
theorem r164_136 : am_at 164 136 = some (.iadd, 1, []) := by decide +kernel
theorem r164_137 : am_at 164 137 = some (.putfield 37, 3, [0, 4, 0, 140]) := by decide +kernel
theorem r164_140 : am_at 164 140 = some (.aload_n 0, 1, [0]) := by decide +kernel
theorem r164_141 : am_at 164 141 = some (.getfield 21, 3, [0, 3, 3, 138]) := by decide +kernel
theorem r164_144 : am_at 164 144 = some (.iload 6, 2, [6]) := by decide +kernel
theorem r164_146 : am_at 164 146 = some (.aload_n 0, 1, [0]) := by decide +kernel
theorem r164_147 : am_at 164 147 = some (.getfield 37, 3, [0, 4, 0, 140]) := by decide +kernel
theorem r164_150 : am_at 164 150 = some (.invokestatic 80, 3, [181, 3, 937, 0]) := by decide +kernel
theorem r164_153 : am_at 164 153 = some (.aload_n 0, 1, [0]) := by decide +kernel
theorem r164_154 : am_at 164 154 = some (.iload 4, 2, [4]) := by decide +kernel
theorem r164_156 : am_at 164 156 = some (.ifCond .ne (7), 3, [163]) := by decide +kernel
theorem r164_159 : am_at 164 159 = some (.iload_n 2, 1, [2]) := by decide +kernel
theorem r164_160 : am_at 164 160 = some (.ifCond .ne (8), 3, [168]) := by decide +kernel
theorem r164_163 : am_at 164 163 = some (.iload 5, 2, [5]) := by decide +kernel
theorem r164_165 : am_at 164 165 = some (.goto (7), 3, [172]) := by decide +kernel
theorem r164_168 : am_at 164 168 = some (.aload_n 0, 1, [0]) := by decide +kernel
theorem r164_169 : am_at 164 169 = some (.getfield 24, 3, [0, 5, 0, 142]) := by decide +kernel
theorem r164_172 : am_at 164 172 = some (.putfield 24, 3, [0, 5, 0, 142]) := by decide +kernel
theorem r164_175 : am_at 164 175 = some (.aload_n 0, 1, [0]) := by decide +kernel
theorem r164_176 : am_at 164 176 = some (.aload_n 0, 1, [0]) := by decide +kernel
theorem r164_177 : am_at 164 177 = some (.aload_n 0, 1, [0]) := by decide +kernel
theorem r164_178 : am_at 164 178 = some (.getfield 37, 3, [0, 4, 0, 140]) := by decide +kernel
theorem r164_181 : am_at 164 181 = some (.iconst (1), 1, []) := by decide +kernel
theorem r164_182 : am_at 164 182 = some (.isub, 1, []) := by decide +kernel
theorem r164_183 : am_at 164 183 = some (.invokevirtual 84, 3, [155, 2, 938, 0]) := by decide +kernel
theorem r164_186 : am_at 164 186 = some (.putfield 28, 3, [0, 6, 0, 143]) := by decide +kernel
theorem r164_189 : am_at 164 189 = some (.return_, 1, []) := by decide +kernel
theorem rt164 : am_rtt 164 = some (none) := by decide +kernel
set_option maxRecDepth 100000 in
theorem pg164 : am_pg[164]? = some am_m164 := rfl
theorem m164_L64_w {d : Nat} {N : Nat} {v1 : Int32} {v2 : Int32} {v3 : Int32} {v4 : Int32} {v5 : Int32} {v6 : Int32} {mc ms : Nat} {Q : am_O → am_AH → Prop} (hd : 3 ≤ d) : ∀ (n : Nat) (D : am_D) (v7 : Int32) {q : am_D} (h : m164_L64 N v1 v2 v3 v4 v5 v6  n D v7 = some q) (k0 : am_X xs L 164 d mc ms 83 [.ref 2, .int v1, .int v2, .int v3, .int v4, .int v5, .int v6, am_dead] [] (am_mk q) 0 0 Q), am_X xs L 164 d mc ms 64 [.ref 2, .int v1, .int v2, .int v3, .int v4, .int v5, .int v6, .int v7] [] (am_mk D) 0 0 Q := by
  intro n
  induction n with
  | zero =>
    intro D v7 q h k0
    exact (nomatch (show none = some q from h))
  | succ n ih =>
    intro D v7 q h k0
    rw [m164_L64] at h
    refine x_ld (v := .int v7) r164_64 rfl rfl rfl ?_
    refine x_ld (v := .int v6) r164_66 rfl rfl rfl ?_
    rcases am_ifE h with ⟨c18, h⟩ | ⟨c18, h⟩
    · refine x_icleT r164_68 c18 ?_
      refine x_forget (lc0 := [.ref 2, .int v1, .int v2, .int v3, .int v4, .int v5, .int v6, am_dead]) ⟨Or.inl rfl, Or.inl rfl, Or.inl rfl, Or.inl rfl, Or.inl rfl, Or.inl rfl, Or.inl rfl, Or.inr ⟨rfl, rfl⟩, trivial⟩ ?_
      cases h
      exact k0
    · refine x_icleF r164_68 c18 rfl ?_
      refine x_ld (v := .ref 2) r164_71 rfl rfl rfl ?_
      refine x_ld (v := .int v7) r164_72 rfl rfl rfl ?_
      obtain ⟨q19, h20, h⟩ := am_ltE h
      replace h20 := h20.symm
      refine x_call0 (as := [.ref 2, .int v7]) (rest := []) r164_74 rfl rfl rfl (by decide) (Nat.le_of_ble_eq_true rfl) (m165_ok h20) (Nat.le_trans (by decide) hd) (Nat.zero_le _) (Nat.zero_le _) rfl ?_
      obtain ⟨x21, e22, h⟩ := am_ltE h
      refine x_sto (lc' := [.ref 2, .int v1, .int v2, .int v3, .int v4, .int v5, .int v6, .int x21]) r164_77 rfl rfl (by subst e22; rfl) rfl ?_
      refine x_goto r164_80 ?_
      exact x_forget (lc0 := [.ref 2, .int v1, .int v2, .int v3, .int v4, .int v5, .int v6, .int x21]) ⟨Or.inl rfl, Or.inl rfl, Or.inl rfl, Or.inl rfl, Or.inl rfl, Or.inl rfl, Or.inl rfl, Or.inl rfl, trivial⟩ (ih q19 x21 h k0)
theorem m164_w {d mc ms : Nat} {N : Nat} {D : am_D} {v1 : Int32} {v2 : Int32} {v3 : Int32} {Q : am_O → am_AH → Prop} (hd : 3 ≤ d) {r : am_D} (h : m164 N D v1 v2 v3 = some r) (hQ : Q (.inl none) (am_mk r)) : am_X xs L 164 d mc ms 0 [.ref 2, .int v1, .int v2, .int v3, am_dead, am_dead, am_dead, am_dead] [] (am_mk D) 0 0 Q := by
  unfold m164 at h
  refine x_ld (v := .ref 2) r164_0 rfl rfl rfl ?_
  refine y_gf (cd := 0) (v := .int (D.1 2 4)) r164_1 rfl rfl rfl ?_
  refine x_ld (v := .ref 2) r164_4 rfl rfl rfl ?_
  refine y_gf (cd := 5) (v := .ref 3) r164_5 rfl rfl rfl ?_
  refine y_alen (tag := 0) (n := 28) (v := 28) r164_8 rfl rfl rfl ?_
  rcases am_ifE h with ⟨c1, h⟩ | ⟨c1, h⟩
  · refine x_icltT r164_9 c1 ?_
    refine x_ld (v := .ref 2) r164_13 rfl rfl rfl ?_
    refine y_gf (cd := 0) (v := .int (D.1 2 4)) r164_14 rfl rfl rfl ?_
    obtain ⟨q2, h4, h⟩ := am_ltE h
    replace h4 := h4.symm
    have kj3 : am_X xs L 164 d mc ms 25 [.ref 2, .int v1, .int v2, .int v3, am_dead, am_dead, am_dead, am_dead] [.int q2] (am_mk D) 0 0 Q := by
      refine x_sto (lc' := [.ref 2, .int v1, .int v2, .int v3, .int q2, am_dead, am_dead, am_dead]) r164_25 rfl rfl rfl rfl ?_
      refine x_ld (v := .ref 2) r164_27 rfl rfl rfl ?_
      refine x_ld (v := .int v1) r164_28 rfl rfl rfl ?_
      refine x_ld (v := .int q2) r164_29 rfl rfl rfl ?_
      obtain ⟨q6, h8, h⟩ := am_ltE h
      replace h8 := h8.symm
      have kj7 : am_X xs L 164 d mc ms 39 [.ref 2, .int v1, .int v2, .int v3, .int q2, am_dead, am_dead, am_dead] [.int q6, .int v1, .ref 2] (am_mk D) 0 0 Q := by
        refine x_call1 (as := [.ref 2, .int v1, .int q6]) (rest := []) r164_39 rfl rfl rfl (by decide) (Nat.le_of_ble_eq_true rfl) (m162_ok rfl) (Nat.le_trans (by decide) hd) (Nat.zero_le _) (Nat.zero_le _) rfl ?_
        obtain ⟨x10, e11, h⟩ := am_ltE h
        refine am_topI e11 ?_
        refine x_sto (lc' := [.ref 2, .int v1, .int v2, .int v3, .int q2, .int x10, am_dead, am_dead]) r164_42 rfl rfl rfl rfl ?_
        refine x_ld (v := .int v2) r164_44 rfl rfl rfl ?_
        obtain ⟨q12, h14, h⟩ := am_ltE h
        replace h14 := h14.symm
        have kj13 : am_X xs L 164 d mc ms 56 [.ref 2, .int v1, .int v2, .int v3, .int q2, .int x10, am_dead, am_dead] [.int q12] (am_mk D) 0 0 Q := by
          refine x_sto (lc' := [.ref 2, .int v1, .int v2, .int v3, .int q2, .int x10, .int q12, am_dead]) r164_56 rfl rfl rfl rfl ?_
          refine x_ld (v := .ref 2) r164_58 rfl rfl rfl ?_
          refine y_gf (cd := 0) (v := .int (D.1 2 4)) r164_59 rfl rfl rfl ?_
          obtain ⟨x16, e17, h⟩ := am_ltE h
          refine am_topI e17 ?_
          refine x_sto (lc' := [.ref 2, .int v1, .int v2, .int v3, .int q2, .int x10, .int q12, .int x16]) r164_62 rfl rfl rfl rfl ?_
          obtain ⟨q23, h24, h⟩ := Option.bind_eq_some_iff.mp h
          refine x_forget (lc0 := [.ref 2, .int v1, .int v2, .int v3, .int q2, .int x10, .int q12, .int x16]) ⟨Or.inl rfl, Or.inl rfl, Or.inl rfl, Or.inl rfl, Or.inl rfl, Or.inl rfl, Or.inl rfl, Or.inl rfl, trivial⟩ (m164_L64_w hd N D x16 h24 ?_)
          refine x_ld (v := .ref 2) r164_83 rfl rfl rfl ?_
          refine y_gf (cd := 5) (v := .ref 3) r164_84 rfl rfl rfl ?_
          refine x_ld (v := .int q12) r164_87 rfl rfl rfl ?_
          refine x_ld (v := .int v1) r164_89 rfl rfl rfl ?_
          obtain ⟨D25, e26, h⟩ := am_ltE h
          refine x_call0 (as := [.ref 3, .int q12, .int v1]) (rest := []) r164_90 rfl rfl rfl (by decide) (Nat.le_of_ble_eq_true rfl) (am_rows_put (n := 28) rfl (by decide) e26) (Nat.le_trans (by decide) hd) (Nat.zero_le _) (Nat.zero_le _) rfl ?_
          refine x_ld (v := .ref 2) r164_93 rfl rfl rfl ?_
          refine y_gf (cd := 6) (v := .ref 4) r164_94 rfl rfl rfl ?_
          refine x_ld (v := .int q12) r164_97 rfl rfl rfl ?_
          refine x_ld (v := .int q2) r164_99 rfl rfl rfl ?_
          obtain ⟨q27, h29, h⟩ := am_ltE h
          replace h29 := h29.symm
          have kj28 : am_X xs L 164 d mc ms 117 [.ref 2, .int v1, .int v2, .int v3, .int q2, .int x10, .int q12, am_dead] [.int q27, .int q12, .ref 4] (am_mk D25) 0 0 Q := by
            obtain ⟨D32, e33, h⟩ := am_ltE h
            refine x_call0 (as := [.ref 4, .int q12, .int q27]) (rest := []) r164_117 rfl rfl rfl (by decide) (Nat.le_of_ble_eq_true rfl) (am_rows_put (n := 28) rfl (by decide) e33) (Nat.le_trans (by decide) hd) (Nat.zero_le _) (Nat.zero_le _) rfl ?_
            refine x_ld (v := .ref 2) r164_120 rfl rfl rfl ?_
            refine y_gf (cd := 7) (v := .ref 5) r164_121 rfl rfl rfl ?_
            refine x_ld (v := .int q12) r164_124 rfl rfl rfl ?_
            refine x_ld (v := .int v3) r164_126 rfl rfl rfl ?_
            obtain ⟨D34, e35, h⟩ := am_ltE h
            refine x_call0 (as := [.ref 5, .int q12, .int v3]) (rest := []) r164_127 rfl rfl rfl (by decide) (Nat.le_of_ble_eq_true rfl) (am_rows_put (n := 28) rfl (by decide) e35) (Nat.le_trans (by decide) hd) (Nat.zero_le _) (Nat.zero_le _) rfl ?_
            refine x_ld (v := .ref 2) r164_130 rfl rfl rfl ?_
            refine x_ar r164_131 rfl trivial rfl ?_
            refine y_gf (cd := 0) (v := .int (D34.1 2 4)) r164_132 rfl rfl rfl ?_
            refine x_ic (v := 1) r164_135 rfl rfl ?_
            refine x_ar r164_136 rfl trivial rfl ?_
            obtain ⟨D36, e37, h⟩ := am_ltE h
            refine y_pf0 r164_137 rfl e37 rfl ?_
            refine x_ld (v := .ref 2) r164_140 rfl rfl rfl ?_
            refine y_gf (cd := 8) (v := .ref 6) r164_141 rfl rfl rfl ?_
            refine x_ld (v := .int q12) r164_144 rfl rfl rfl ?_
            refine x_ld (v := .ref 2) r164_146 rfl rfl rfl ?_
            refine y_gf (cd := 0) (v := .int (D36.1 2 4)) r164_147 rfl rfl rfl ?_
            obtain ⟨D38, e39, h⟩ := am_ltE h
            refine x_call0 (as := [.ref 6, .int q12, .int (D36.1 2 4)]) (rest := []) r164_150 rfl rfl rfl (by decide) (Nat.le_of_ble_eq_true rfl) (am_rows_put (n := 28) rfl (by decide) e39) (Nat.le_trans (by decide) hd) (Nat.zero_le _) (Nat.zero_le _) rfl ?_
            refine x_ld (v := .ref 2) r164_153 rfl rfl rfl ?_
            refine x_ld (v := .int q2) r164_154 rfl rfl rfl ?_
            obtain ⟨q40, h42, h⟩ := am_ltE h
            replace h42 := h42.symm
            have kj41 : am_X xs L 164 d mc ms 172 [.ref 2, .int v1, .int v2, .int v3, .int q2, .int x10, .int q12, am_dead] [.int q40, .ref 2] (am_mk D38) 0 0 Q := by
              obtain ⟨D45, e46, h⟩ := am_ltE h
              refine y_pf0 r164_172 rfl e46 rfl ?_
              refine x_ld (v := .ref 2) r164_175 rfl rfl rfl ?_
              refine x_ld (v := .ref 2) r164_176 rfl rfl rfl ?_
              refine x_ld (v := .ref 2) r164_177 rfl rfl rfl ?_
              refine y_gf (cd := 0) (v := .int (D45.1 2 4)) r164_178 rfl rfl rfl ?_
              refine x_ic (v := 1) r164_181 rfl rfl ?_
              refine x_ar r164_182 rfl trivial rfl ?_
              refine x_call1 (as := [.ref 2, .int ((D45.1 2 4) - (1 : Int32))]) (rest := [.ref 2]) r164_183 rfl rfl rfl (by decide) (Nat.le_of_ble_eq_true rfl) (m155_ok rfl) (Nat.le_trans (by decide) hd) (Nat.zero_le _) (Nat.zero_le _) rfl ?_
              obtain ⟨D47, e48, h⟩ := am_ltE h
              refine y_pf0 r164_186 rfl e48 rfl ?_
              cases h
              exact x_ret (ret := none) (C := True) (v := none) r164_189 rt164 rfl rfl rfl rfl rfl rfl rfl rfl trivial hQ
            rcases am_ifE h42 with ⟨c43, h42⟩ | ⟨c43, h42⟩
            · refine x_ifneT r164_156 c43 rfl ?_
              refine x_ld (v := .int v2) r164_159 rfl rfl rfl ?_
              rcases am_ifE h42 with ⟨c44, h42⟩ | ⟨c44, h42⟩
              · refine x_ifneT r164_160 c44 rfl ?_
                refine x_ld (v := .int x10) r164_163 rfl rfl rfl ?_
                refine x_goto r164_165 ?_
                subst h42
                exact kj41
              · refine x_ifneF r164_160 c44 ?_
                refine x_ld (v := .ref 2) r164_168 rfl rfl rfl ?_
                refine y_gf (cd := 0) (v := .int (D38.1 2 5)) r164_169 rfl rfl rfl ?_
                subst h42
                exact kj41
            · refine x_ifneF r164_156 c43 ?_
              refine x_ld (v := .int x10) r164_163 rfl rfl rfl ?_
              refine x_goto r164_165 ?_
              subst h42
              exact kj41
          rcases am_ifE h29 with ⟨c30, h29⟩ | ⟨c30, h29⟩
          · refine x_ifneT r164_101 c30 rfl ?_
            refine x_ld (v := .int v2) r164_104 rfl rfl rfl ?_
            rcases am_ifE h29 with ⟨c31, h29⟩ | ⟨c31, h29⟩
            · refine x_ifneT r164_105 c31 rfl ?_
              refine x_ld (v := .int x10) r164_108 rfl rfl rfl ?_
              refine x_goto r164_110 ?_
              subst h29
              exact kj28
            · refine x_ifneF r164_105 c31 ?_
              refine x_ld (v := .ref 2) r164_113 rfl rfl rfl ?_
              refine y_gf (cd := 0) (v := .int (D25.1 2 6)) r164_114 rfl rfl rfl ?_
              subst h29
              exact kj28
          · refine x_ifneF r164_101 c30 ?_
            refine x_ld (v := .int x10) r164_108 rfl rfl rfl ?_
            refine x_goto r164_110 ?_
            subst h29
            exact kj28
        rcases am_ifE h14 with ⟨c15, h14⟩ | ⟨c15, h14⟩
        · refine x_ifneT r164_45 c15 rfl ?_
          refine x_ic (v := 0) r164_48 rfl rfl ?_
          refine x_goto r164_49 ?_
          subst h14
          exact kj13
        · refine x_ifneF r164_45 c15 ?_
          refine x_ld (v := .ref 2) r164_52 rfl rfl rfl ?_
          refine y_gf (cd := 0) (v := .int (D.1 2 4)) r164_53 rfl rfl rfl ?_
          subst h14
          exact kj13
      rcases am_ifE h8 with ⟨c9, h8⟩ | ⟨c9, h8⟩
      · refine x_ifeqT r164_31 c9 ?_
        refine x_ld (v := .int v2) r164_38 rfl rfl rfl ?_
        subst h8
        exact kj7
      · refine x_ifeqF r164_31 c9 rfl ?_
        refine x_ic (v := 0) r164_34 rfl rfl ?_
        refine x_goto r164_35 ?_
        subst h8
        exact kj7
    rcases am_ifE h4 with ⟨c5, h4⟩ | ⟨c5, h4⟩
    · refine x_ifneT r164_17 c5 rfl ?_
      refine x_ic (v := 1) r164_20 rfl rfl ?_
      refine x_goto r164_21 ?_
      subst h4
      exact kj3
    · refine x_ifneF r164_17 c5 ?_
      refine x_ic (v := 0) r164_24 rfl rfl ?_
      subst h4
      exact kj3
  · refine x_icltF r164_9 c1 rfl ?_
    cases h
    exact x_ret (ret := none) (C := True) (v := none) r164_12 rt164 rfl rfl rfl rfl rfl rfl rfl rfl trivial hQ
theorem m164_ok {N : Nat} {D : am_D} {v1 : Int32} {v2 : Int32} {v3 : Int32} {r : am_D} (h : m164 N D v1 v2 v3 = some r) : am_Y xs L 164 3 0 0 [.ref 2, .int v1, .int v2, .int v3] D (.inl none) r := am_Yof (mi := am_m164) (lc := [.ref 2, .int v1, .int v2, .int v3, am_dead, am_dead, am_dead, am_dead]) pg164 (Nat.le_of_ble_eq_true rfl) (am_rc1 (ci := 0) rfl rfl rfl rfl rfl) rfl (fun Q hQ => m164_w (Nat.le_refl _) h hQ)
theorem r175_0 : am_at 175 0 = some (.iload_n 3, 1, [3]) := by decide +kernel
theorem r175_1 : am_at 175 1 = some (.iload 4, 2, [4]) := by decide +kernel
theorem r175_3 : am_at 175 3 = some (.ishr, 1, []) := by decide +kernel
theorem r175_4 : am_at 175 4 = some (.iconst (1), 1, []) := by decide +kernel
theorem r175_5 : am_at 175 5 = some (.iand, 1, []) := by decide +kernel
theorem r175_6 : am_at 175 6 = some (.ifCond .eq (48), 3, [54]) := by decide +kernel
theorem r175_9 : am_at 175 9 = some (.aload_n 0, 1, [0]) := by decide +kernel
theorem r175_10 : am_at 175 10 = some (.getfield 15, 3, [2, 1, 3, 295]) := by decide +kernel
theorem r175_13 : am_at 175 13 = some (.iload 4, 2, [4]) := by decide +kernel
theorem r175_15 : am_at 175 15 = some (.invokestatic 94, 3, [180, 2, 743, 0]) := by decide +kernel
theorem r175_18 : am_at 175 18 = some (.iload_n 2, 1, [2]) := by decide +kernel
theorem r175_19 : am_at 175 19 = some (.if_icmp .ne (35), 3, [54]) := by decide +kernel
theorem r175_22 : am_at 175 22 = some (.aload_n 0, 1, [0]) := by decide +kernel
theorem r175_23 : am_at 175 23 = some (.getfield 9, 3, [2, 0, 3, 294]) := by decide +kernel
theorem r175_26 : am_at 175 26 = some (.iload 4, 2, [4]) := by decide +kernel
theorem r175_28 : am_at 175 28 = some (.invokestatic 94, 3, [180, 2, 743, 0]) := by decide +kernel
theorem r175_31 : am_at 175 31 = some (.aload_n 0, 1, [0]) := by decide +kernel
theorem r175_32 : am_at 175 32 = some (.getfield 18, 3, [2, 2, 3, 296]) := by decide +kernel
theorem r175_35 : am_at 175 35 = some (.iconst (2), 1, []) := by decide +kernel
theorem r175_36 : am_at 175 36 = some (.iload_n 1, 1, [1]) := by decide +kernel
theorem r175_37 : am_at 175 37 = some (.imul, 1, []) := by decide +kernel
theorem r175_38 : am_at 175 38 = some (.iload 5, 2, [5]) := by decide +kernel
theorem r175_40 : am_at 175 40 = some (.iadd, 1, []) := by decide +kernel
theorem r175_41 : am_at 175 41 = some (.invokestatic 94, 3, [180, 2, 743, 0]) := by decide +kernel
theorem r175_44 : am_at 175 44 = some (.invokestatic 98, 3, [253, 2, 744, 0]) := by decide +kernel
theorem r175_47 : am_at 175 47 = some (.ifCond .eq (7), 3, [54]) := by decide +kernel
theorem r175_50 : am_at 175 50 = some (.iconst (1), 1, []) := by decide +kernel
theorem r175_51 : am_at 175 51 = some (.goto (4), 3, [55]) := by decide +kernel
theorem r175_54 : am_at 175 54 = some (.iconst (0), 1, []) := by decide +kernel
theorem r175_55 : am_at 175 55 = some (.ireturn, 1, []) := by decide +kernel
theorem rt175 : am_rtt 175 = some (some .boolean) := by decide +kernel
set_option maxRecDepth 100000 in
theorem pg175 : am_pg[175]? = some am_m175 := rfl
theorem m175_w {d mc ms : Nat} {D : am_D} {v1 : Int32} {v2 : Int32} {v3 : Int32} {v4 : Int32} {v5 : Int32} {Q : am_O → am_AH → Prop} (hd : 3 ≤ d) {r : Int32} (h : m175 D v1 v2 v3 v4 v5 = r) (hQ : Q (.inl (some (.int r))) (am_mk D)) : am_X xs L 175 d mc ms 0 [.ref 99, .int v1, .int v2, .int v3, .int v4, .int v5] [] (am_mk D) 0 0 Q := by
  unfold m175 at h
  refine x_ld (v := .int v3) r175_0 rfl rfl rfl ?_
  refine x_ld (v := .int v4) r175_1 rfl rfl rfl ?_
  refine x_ar r175_3 rfl trivial rfl ?_
  refine x_ic (v := 1) r175_4 rfl rfl ?_
  refine x_ar r175_5 rfl trivial rfl ?_
  rcases am_ifE h with ⟨c1, h⟩ | ⟨c1, h⟩
  · refine x_ifeqT r175_6 c1 ?_
    refine x_ic (v := 0) r175_54 rfl rfl ?_
    subst h
    exact x_ret (ret := some .boolean) (C := narrow .boolean (.int (0 : Int32)) = .int (0 : Int32)) (v := some (.int (0 : Int32))) r175_55 rt175 rfl rfl rfl rfl rfl rfl rfl rfl (by decide) hQ
  · refine x_ifeqF r175_6 c1 rfl ?_
    refine x_ld (v := .ref 99) r175_9 rfl rfl rfl ?_
    refine y_gf (cd := 103) (v := .ref 101) r175_10 rfl rfl rfl ?_
    refine x_ld (v := .int v4) r175_13 rfl rfl rfl ?_
    refine x_call1 (as := [.ref 101, .int v4]) (rest := []) r175_15 rfl rfl rfl (by decide) (Nat.le_of_ble_eq_true rfl) (am_rows_at (n := 9) rfl (by decide)) (Nat.le_trans (by decide) hd) (Nat.zero_le _) (Nat.zero_le _) rfl ?_
    refine x_ld (v := .int v2) r175_18 rfl rfl rfl ?_
    rcases am_ifE h with ⟨c2, h⟩ | ⟨c2, h⟩
    · refine x_icneT r175_19 c2 rfl ?_
      refine x_ld (v := .ref 99) r175_22 rfl rfl rfl ?_
      refine y_gf (cd := 102) (v := .ref 100) r175_23 rfl rfl rfl ?_
      refine x_ld (v := .int v4) r175_26 rfl rfl rfl ?_
      refine x_call1 (as := [.ref 100, .int v4]) (rest := []) r175_28 rfl rfl rfl (by decide) (Nat.le_of_ble_eq_true rfl) (am_rows_at (n := 9) rfl (by decide)) (Nat.le_trans (by decide) hd) (Nat.zero_le _) (Nat.zero_le _) rfl ?_
      refine x_ld (v := .ref 99) r175_31 rfl rfl rfl ?_
      refine y_gf (cd := 104) (v := .ref 102) r175_32 rfl rfl rfl ?_
      refine x_ic (v := 2) r175_35 rfl rfl ?_
      refine x_ld (v := .int v1) r175_36 rfl rfl rfl ?_
      refine x_ar r175_37 rfl trivial rfl ?_
      refine x_ld (v := .int v5) r175_38 rfl rfl rfl ?_
      refine x_ar r175_40 rfl trivial rfl ?_
      refine x_call1 (as := [.ref 102, .int (((2 : Int32) * v1) + v5)]) (rest := [.int (am_rat (D.1 100) 9 v4)]) r175_41 rfl rfl rfl (by decide) (Nat.le_of_ble_eq_true rfl) (am_rows_at (n := 20) rfl (by decide)) (Nat.le_trans (by decide) hd) (Nat.zero_le _) (Nat.zero_le _) rfl ?_
      refine x_call1 (as := [.int (am_rat (D.1 100) 9 v4), .int (am_rat (D.1 102) 20 (((2 : Int32) * v1) + v5))]) (rest := []) r175_44 rfl rfl rfl (by decide) (Nat.le_of_ble_eq_true rfl) (m253_ok rfl) (Nat.le_trans (by decide) hd) (Nat.zero_le _) (Nat.zero_le _) rfl ?_
      rcases am_ifE h with ⟨c3, h⟩ | ⟨c3, h⟩
      · refine x_ifeqT r175_47 c3 ?_
        refine x_ic (v := 0) r175_54 rfl rfl ?_
        subst h
        exact x_ret (ret := some .boolean) (C := narrow .boolean (.int (0 : Int32)) = .int (0 : Int32)) (v := some (.int (0 : Int32))) r175_55 rt175 rfl rfl rfl rfl rfl rfl rfl rfl (by decide) hQ
      · refine x_ifeqF r175_47 c3 rfl ?_
        refine x_ic (v := 1) r175_50 rfl rfl ?_
        refine x_goto r175_51 ?_
        subst h
        exact x_ret (ret := some .boolean) (C := narrow .boolean (.int (1 : Int32)) = .int (1 : Int32)) (v := some (.int (1 : Int32))) r175_55 rt175 rfl rfl rfl rfl rfl rfl rfl rfl (by decide) hQ
    · refine x_icneF r175_19 c2 ?_
      refine x_ic (v := 0) r175_54 rfl rfl ?_
      subst h
      exact x_ret (ret := some .boolean) (C := narrow .boolean (.int (0 : Int32)) = .int (0 : Int32)) (v := some (.int (0 : Int32))) r175_55 rt175 rfl rfl rfl rfl rfl rfl rfl rfl (by decide) hQ
theorem m175_ok {D : am_D} {v1 : Int32} {v2 : Int32} {v3 : Int32} {v4 : Int32} {v5 : Int32} {r : Int32} (h : m175 D v1 v2 v3 v4 v5 = r) : am_Y xs L 175 3 0 0 [.ref 99, .int v1, .int v2, .int v3, .int v4, .int v5] D (.inl (some (.int r))) D := am_Yof (mi := am_m175) (lc := [.ref 99, .int v1, .int v2, .int v3, .int v4, .int v5]) pg175 (Nat.le_of_ble_eq_true rfl) (am_rc1 (ci := 2) rfl rfl rfl rfl rfl) rfl (fun Q hQ => m175_w (Nat.le_refl _) h hQ)
theorem m175_b (D : am_D) (v1 : Int32) (v2 : Int32) (v3 : Int32) (v4 : Int32) (v5 : Int32) : m175 D v1 v2 v3 v4 v5 &&& 1 = m175 D v1 v2 v3 v4 v5 := by
  unfold m175
  (repeat' split) <;> rfl
theorem r178_0 : am_at 178 0 = some (.iconst (0), 1, []) := by decide +kernel
theorem r178_1 : am_at 178 1 = some (.istore_n 3, 1, [3]) := by decide +kernel
theorem r178_2 : am_at 178 2 = some (.iconst (0), 1, []) := by decide +kernel
theorem r178_3 : am_at 178 3 = some (.istore 4, 2, [4]) := by decide +kernel
theorem r178_5 : am_at 178 5 = some (.iload 4, 2, [4]) := by decide +kernel
theorem r178_7 : am_at 178 7 = some (.aload_n 0, 1, [0]) := by decide +kernel
theorem r178_8 : am_at 178 8 = some (.getfield 24, 3, [2, 4, 0, 298]) := by decide +kernel
theorem r178_11 : am_at 178 11 = some (.if_icmp .ge (64), 3, [75]) := by decide +kernel
theorem r178_14 : am_at 178 14 = some (.iload_n 2, 1, [2]) := by decide +kernel
theorem r178_15 : am_at 178 15 = some (.iload 4, 2, [4]) := by decide +kernel
theorem r178_17 : am_at 178 17 = some (.ishr, 1, []) := by decide +kernel
theorem r178_18 : am_at 178 18 = some (.iconst (1), 1, []) := by decide +kernel
theorem r178_19 : am_at 178 19 = some (.iand, 1, []) := by decide +kernel
theorem r178_20 : am_at 178 20 = some (.ifCond .eq (22), 3, [42]) := by decide +kernel
theorem r178_23 : am_at 178 23 = some (.aload_n 0, 1, [0]) := by decide +kernel
theorem r178_24 : am_at 178 24 = some (.getfield 15, 3, [2, 1, 3, 295]) := by decide +kernel
theorem r178_27 : am_at 178 27 = some (.iload 4, 2, [4]) := by decide +kernel
theorem r178_29 : am_at 178 29 = some (.invokestatic 94, 3, [180, 2, 743, 0]) := by decide +kernel
theorem r178_32 : am_at 178 32 = some (.iconst (2), 1, []) := by decide +kernel
theorem r178_33 : am_at 178 33 = some (.irem, 1, []) := by decide +kernel
theorem r178_34 : am_at 178 34 = some (.iload_n 1, 1, [1]) := by decide +kernel
theorem r178_35 : am_at 178 35 = some (.if_icmp .ne (7), 3, [42]) := by decide +kernel
theorem r178_38 : am_at 178 38 = some (.iconst (1), 1, []) := by decide +kernel
theorem r178_39 : am_at 178 39 = some (.goto (4), 3, [43]) := by decide +kernel
theorem r178_42 : am_at 178 42 = some (.iconst (0), 1, []) := by decide +kernel
theorem r178_43 : am_at 178 43 = some (.istore 5, 2, [5]) := by decide +kernel
theorem r178_45 : am_at 178 45 = some (.iload_n 3, 1, [3]) := by decide +kernel
theorem r178_46 : am_at 178 46 = some (.iload 5, 2, [5]) := by decide +kernel
theorem r178_48 : am_at 178 48 = some (.ifCond .eq (18), 3, [66]) := by decide +kernel
theorem r178_51 : am_at 178 51 = some (.aload_n 0, 1, [0]) := by decide +kernel
theorem r178_52 : am_at 178 52 = some (.getfield 9, 3, [2, 0, 3, 294]) := by decide +kernel
theorem r178_55 : am_at 178 55 = some (.iload 4, 2, [4]) := by decide +kernel
theorem r178_57 : am_at 178 57 = some (.invokestatic 94, 3, [180, 2, 743, 0]) := by decide +kernel
theorem r178_60 : am_at 178 60 = some (.invokestatic 104, 3, [251, 1, 756, 0]) := by decide +kernel
theorem r178_63 : am_at 178 63 = some (.goto (4), 3, [67]) := by decide +kernel
theorem r178_66 : am_at 178 66 = some (.iconst (0), 1, []) := by decide +kernel
theorem r178_67 : am_at 178 67 = some (.iadd, 1, []) := by decide +kernel
theorem r178_68 : am_at 178 68 = some (.istore_n 3, 1, [3]) := by decide +kernel
theorem r178_69 : am_at 178 69 = some (.iinc 4 (1), 3, [4]) := by decide +kernel
theorem r178_72 : am_at 178 72 = some (.goto (-67), 3, [5]) := by decide +kernel
theorem r178_75 : am_at 178 75 = some (.iload_n 3, 1, [3]) := by decide +kernel
theorem r178_76 : am_at 178 76 = some (.ireturn, 1, []) := by decide +kernel
theorem rt178 : am_rtt 178 = some (some .int) := by decide +kernel
set_option maxRecDepth 100000 in
theorem pg178 : am_pg[178]? = some am_m178 := rfl
theorem m178_L5_w {d : Nat} {N : Nat} {D : am_D} {v1 : Int32} {v2 : Int32} {mc ms : Nat} {Q : am_O → am_AH → Prop} (hd : 2 ≤ d) : ∀ (n : Nat) (v3 : Int32) (v4 : Int32) {q : Int32} (h : m178_L5 N D v1 v2  n v3 v4 = some q) (k0 : am_X xs L 178 d mc ms 75 [.ref 99, am_dead, am_dead, .int q, am_dead, am_dead] [] (am_mk D) 0 0 Q), am_X xs L 178 d mc ms 5 [.ref 99, .int v1, .int v2, .int v3, .int v4, am_dead] [] (am_mk D) 0 0 Q := by
  intro n
  induction n with
  | zero =>
    intro v3 v4 q h k0
    exact (nomatch (show none = some q from h))
  | succ n ih =>
    intro v3 v4 q h k0
    rw [m178_L5] at h
    refine x_ld (v := .int v4) r178_5 rfl rfl rfl ?_
    refine x_ld (v := .ref 99) r178_7 rfl rfl rfl ?_
    refine y_gf (cd := 0) (v := .int (D.1 99 4)) r178_8 rfl rfl rfl ?_
    rcases am_ifE h with ⟨c1, h⟩ | ⟨c1, h⟩
    · refine x_icgeT r178_11 c1 ?_
      refine x_forget (lc0 := [.ref 99, am_dead, am_dead, .int v3, am_dead, am_dead]) ⟨Or.inl rfl, Or.inr ⟨rfl, rfl⟩, Or.inr ⟨rfl, rfl⟩, Or.inl rfl, Or.inr ⟨rfl, rfl⟩, Or.inl rfl, trivial⟩ ?_
      cases h
      exact k0
    · refine x_icgeF r178_11 c1 rfl ?_
      refine x_ld (v := .int v2) r178_14 rfl rfl rfl ?_
      refine x_ld (v := .int v4) r178_15 rfl rfl rfl ?_
      refine x_ar r178_17 rfl trivial rfl ?_
      refine x_ic (v := 1) r178_18 rfl rfl ?_
      refine x_ar r178_19 rfl trivial rfl ?_
      obtain ⟨q2, h4, h⟩ := am_ltE h
      replace h4 := h4.symm
      have kj3 : am_X xs L 178 d mc ms 43 [.ref 99, .int v1, .int v2, .int v3, .int v4, am_dead] [.int q2] (am_mk D) 0 0 Q := by
        refine x_sto (lc' := [.ref 99, .int v1, .int v2, .int v3, .int v4, .int q2]) r178_43 rfl rfl rfl rfl ?_
        refine x_ld (v := .int v3) r178_45 rfl rfl rfl ?_
        refine x_ld (v := .int q2) r178_46 rfl rfl rfl ?_
        obtain ⟨q7, h9, h⟩ := am_ltE h
        replace h9 := h9.symm
        have kj8 : am_X xs L 178 d mc ms 67 [.ref 99, .int v1, .int v2, .int v3, .int v4, .int q2] [.int q7, .int v3] (am_mk D) 0 0 Q := by
          refine x_ar r178_67 rfl trivial rfl ?_
          obtain ⟨x11, e12, h⟩ := am_ltE h
          refine am_topI e12 ?_
          refine x_sto (lc' := [.ref 99, .int v1, .int v2, .int x11, .int v4, .int q2]) r178_68 rfl rfl rfl rfl ?_
          obtain ⟨x13, e14, h⟩ := am_ltE h
          refine x_sto (lc' := [.ref 99, .int v1, .int v2, .int x11, .int x13, .int q2]) r178_69 rfl rfl (by subst e14; rfl) rfl ?_
          refine x_goto r178_72 ?_
          exact x_forget (lc0 := [.ref 99, .int v1, .int v2, .int x11, .int x13, am_dead]) ⟨Or.inl rfl, Or.inl rfl, Or.inl rfl, Or.inl rfl, Or.inl rfl, Or.inr ⟨rfl, rfl⟩, trivial⟩ (ih x11 x13 h k0)
        rcases am_ifE h9 with ⟨c10, h9⟩ | ⟨c10, h9⟩
        · refine x_ifeqT r178_48 c10 ?_
          refine x_ic (v := 0) r178_66 rfl rfl ?_
          subst h9
          exact kj8
        · refine x_ifeqF r178_48 c10 rfl ?_
          refine x_ld (v := .ref 99) r178_51 rfl rfl rfl ?_
          refine y_gf (cd := 102) (v := .ref 100) r178_52 rfl rfl rfl ?_
          refine x_ld (v := .int v4) r178_55 rfl rfl rfl ?_
          refine x_call1 (as := [.ref 100, .int v4]) (rest := [.int v3]) r178_57 rfl rfl rfl (by decide) (Nat.le_of_ble_eq_true rfl) (am_rows_at (n := 9) rfl (by decide)) (Nat.le_trans (by decide) hd) (Nat.zero_le _) (Nat.zero_le _) rfl ?_
          refine x_call1 (as := [.int (am_rat (D.1 100) 9 v4)]) (rest := [.int v3]) r178_60 rfl rfl rfl (by decide) (Nat.le_of_ble_eq_true rfl) (m251_ok rfl) (Nat.le_trans (by decide) hd) (Nat.zero_le _) (Nat.zero_le _) rfl ?_
          refine x_goto r178_63 ?_
          subst h9
          exact kj8
      rcases am_ifE h4 with ⟨c5, h4⟩ | ⟨c5, h4⟩
      · refine x_ifeqT r178_20 c5 ?_
        refine x_ic (v := 0) r178_42 rfl rfl ?_
        subst h4
        exact kj3
      · refine x_ifeqF r178_20 c5 rfl ?_
        refine x_ld (v := .ref 99) r178_23 rfl rfl rfl ?_
        refine y_gf (cd := 103) (v := .ref 101) r178_24 rfl rfl rfl ?_
        refine x_ld (v := .int v4) r178_27 rfl rfl rfl ?_
        refine x_call1 (as := [.ref 101, .int v4]) (rest := []) r178_29 rfl rfl rfl (by decide) (Nat.le_of_ble_eq_true rfl) (am_rows_at (n := 9) rfl (by decide)) (Nat.le_trans (by decide) hd) (Nat.zero_le _) (Nat.zero_le _) rfl ?_
        refine x_ic (v := 2) r178_32 rfl rfl ?_
        refine x_ar r178_33 rfl (by decide) rfl ?_
        refine x_ld (v := .int v1) r178_34 rfl rfl rfl ?_
        rcases am_ifE h4 with ⟨c6, h4⟩ | ⟨c6, h4⟩
        · refine x_icneT r178_35 c6 rfl ?_
          refine x_ic (v := 1) r178_38 rfl rfl ?_
          refine x_goto r178_39 ?_
          subst h4
          exact kj3
        · refine x_icneF r178_35 c6 ?_
          refine x_ic (v := 0) r178_42 rfl rfl ?_
          subst h4
          exact kj3
theorem m178_w {d mc ms : Nat} {N : Nat} {D : am_D} {v1 : Int32} {v2 : Int32} {Q : am_O → am_AH → Prop} (hd : 2 ≤ d) {r : Int32} (h : m178 N D v1 v2 = some r) (hQ : Q (.inl (some (.int r))) (am_mk D)) : am_X xs L 178 d mc ms 0 [.ref 99, .int v1, .int v2, am_dead, am_dead, am_dead] [] (am_mk D) 0 0 Q := by
  unfold m178 at h
  refine x_ic (v := 0) r178_0 rfl rfl ?_
  refine x_sto (lc' := [.ref 99, .int v1, .int v2, .int (0 : Int32), am_dead, am_dead]) r178_1 rfl rfl rfl rfl ?_
  refine x_ic (v := 0) r178_2 rfl rfl ?_
  refine x_sto (lc' := [.ref 99, .int v1, .int v2, .int (0 : Int32), .int (0 : Int32), am_dead]) r178_3 rfl rfl rfl rfl ?_
  obtain ⟨q15, h16, h⟩ := Option.bind_eq_some_iff.mp h
  refine x_forget (lc0 := [.ref 99, .int v1, .int v2, .int (0 : Int32), .int (0 : Int32), am_dead]) ⟨Or.inl rfl, Or.inl rfl, Or.inl rfl, Or.inl rfl, Or.inl rfl, Or.inl rfl, trivial⟩ (m178_L5_w hd N (0 : Int32) (0 : Int32) h16 ?_)
  refine x_ld (v := .int q15) r178_75 rfl rfl rfl ?_
  cases h
  exact x_ret (ret := some .int) (C := True) (v := some (.int _)) r178_76 rt178 rfl rfl rfl rfl rfl rfl rfl rfl trivial hQ
theorem m178_ok {N : Nat} {D : am_D} {v1 : Int32} {v2 : Int32} {r : Int32} (h : m178 N D v1 v2 = some r) : am_Y xs L 178 2 0 0 [.ref 99, .int v1, .int v2] D (.inl (some (.int r))) D := am_Yof (mi := am_m178) (lc := [.ref 99, .int v1, .int v2, am_dead, am_dead, am_dead]) pg178 (Nat.le_of_ble_eq_true rfl) (am_rc1 (ci := 2) rfl rfl rfl rfl rfl) rfl (fun Q hQ => m178_w (Nat.le_refl _) h hQ)
theorem r179_0 : am_at 179 0 = some (.aload_n 0, 1, [0]) := by decide +kernel
theorem r179_1 : am_at 179 1 = some (.iconst (1), 1, []) := by decide +kernel
theorem r179_2 : am_at 179 2 = some (.iload_n 1, 1, [1]) := by decide +kernel
theorem r179_3 : am_at 179 3 = some (.invokevirtual 117, 3, [178, 3, 752, 0]) := by decide +kernel
theorem r179_6 : am_at 179 6 = some (.aload_n 0, 1, [0]) := by decide +kernel
theorem r179_7 : am_at 179 7 = some (.iconst (0), 1, []) := by decide +kernel
theorem r179_8 : am_at 179 8 = some (.iload_n 1, 1, [1]) := by decide +kernel
theorem r179_9 : am_at 179 9 = some (.invokevirtual 117, 3, [178, 3, 752, 0]) := by decide +kernel
theorem r179_12 : am_at 179 12 = some (.isub, 1, []) := by decide +kernel
theorem r179_13 : am_at 179 13 = some (.iconst (5), 1, []) := by decide +kernel
theorem r179_14 : am_at 179 14 = some (.idiv, 1, []) := by decide +kernel
theorem r179_15 : am_at 179 15 = some (.ireturn, 1, []) := by decide +kernel
theorem rt179 : am_rtt 179 = some (some .int) := by decide +kernel
set_option maxRecDepth 100000 in
theorem pg179 : am_pg[179]? = some am_m179 := rfl
theorem m179_w {d mc ms : Nat} {N : Nat} {D : am_D} {v1 : Int32} {Q : am_O → am_AH → Prop} (hd : 3 ≤ d) {r : Int32} (h : m179 N D v1 = some r) (hQ : Q (.inl (some (.int r))) (am_mk D)) : am_X xs L 179 d mc ms 0 [.ref 99, .int v1] [] (am_mk D) 0 0 Q := by
  unfold m179 at h
  refine x_ld (v := .ref 99) r179_0 rfl rfl rfl ?_
  refine x_ic (v := 1) r179_1 rfl rfl ?_
  refine x_ld (v := .int v1) r179_2 rfl rfl rfl ?_
  obtain ⟨q1, h2, h⟩ := Option.bind_eq_some_iff.mp h
  refine x_call1 (as := [.ref 99, .int (1 : Int32), .int v1]) (rest := []) r179_3 rfl rfl rfl (by decide) (Nat.le_of_ble_eq_true rfl) (m178_ok h2) (Nat.le_trans (by decide) hd) (Nat.zero_le _) (Nat.zero_le _) rfl ?_
  refine x_ld (v := .ref 99) r179_6 rfl rfl rfl ?_
  refine x_ic (v := 0) r179_7 rfl rfl ?_
  refine x_ld (v := .int v1) r179_8 rfl rfl rfl ?_
  obtain ⟨q3, h4, h⟩ := Option.bind_eq_some_iff.mp h
  refine x_call1 (as := [.ref 99, .int (0 : Int32), .int v1]) (rest := [.int q1]) r179_9 rfl rfl rfl (by decide) (Nat.le_of_ble_eq_true rfl) (m178_ok h4) (Nat.le_trans (by decide) hd) (Nat.zero_le _) (Nat.zero_le _) rfl ?_
  refine x_ar r179_12 rfl trivial rfl ?_
  refine x_ic (v := 5) r179_13 rfl rfl ?_
  refine x_ar r179_14 rfl (by decide) rfl ?_
  cases h
  exact x_ret (ret := some .int) (C := True) (v := some (.int _)) r179_15 rt179 rfl rfl rfl rfl rfl rfl rfl rfl trivial hQ
theorem m179_ok {N : Nat} {D : am_D} {v1 : Int32} {r : Int32} (h : m179 N D v1 = some r) : am_Y xs L 179 3 0 0 [.ref 99, .int v1] D (.inl (some (.int r))) D := am_Yof (mi := am_m179) (lc := [.ref 99, .int v1]) pg179 (Nat.le_of_ble_eq_true rfl) (am_rc1 (ci := 2) rfl rfl rfl rfl rfl) rfl (fun Q hQ => m179_w (Nat.le_refl _) h hQ)
end XE
