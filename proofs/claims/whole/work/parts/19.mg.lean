/-! methods as functions, with their walks (by wip/tools/decomp.py): 138 139 140 141 142 143 144 145 146 147 -/
section XE
variable {xs : Nat → Int32} {L : Nat}
theorem r138_0 : am_at 138 0 = some (.aload_n 0, 1, [0]) := by decide +kernel
theorem r138_1 : am_at 138 1 = some (.getfield 37, 3, [8, 16, 3, 1231]) := by decide +kernel
theorem r138_4 : am_at 138 4 = some (.iload_n 1, 1, [1]) := by decide +kernel
theorem r138_5 : am_at 138 5 = some (.iaload, 1, []) := by decide +kernel
theorem r138_6 : am_at 138 6 = some (.istore_n 3, 1, [3]) := by decide +kernel
theorem r138_7 : am_at 138 7 = some (.iload_n 3, 1, [3]) := by decide +kernel
theorem r138_8 : am_at 138 8 = some (.bipush (56), 2, []) := by decide +kernel
theorem r138_10 : am_at 138 10 = some (.if_icmp .ge (187), 3, [197]) := by decide +kernel
theorem r138_13 : am_at 138 13 = some (.iload_n 3, 1, [3]) := by decide +kernel
theorem r138_14 : am_at 138 14 = some (.iconst (2), 1, []) := by decide +kernel
theorem r138_15 : am_at 138 15 = some (.irem, 1, []) := by decide +kernel
theorem r138_16 : am_at 138 16 = some (.ifCond .ne (12), 3, [28]) := by decide +kernel
theorem r138_19 : am_at 138 19 = some (.aload_n 0, 1, [0]) := by decide +kernel
theorem r138_20 : am_at 138 20 = some (.getfield 49, 3, [8, 20, 3, 1235]) := by decide +kernel
theorem r138_23 : am_at 138 23 = some (.iload_n 1, 1, [1]) := by decide +kernel
theorem r138_24 : am_at 138 24 = some (.iaload, 1, []) := by decide +kernel
theorem r138_25 : am_at 138 25 = some (.goto (9), 3, [34]) := by decide +kernel
theorem r138_28 : am_at 138 28 = some (.aload_n 0, 1, [0]) := by decide +kernel
theorem r138_29 : am_at 138 29 = some (.getfield 52, 3, [8, 21, 3, 1236]) := by decide +kernel
theorem r138_32 : am_at 138 32 = some (.iload_n 1, 1, [1]) := by decide +kernel
theorem r138_33 : am_at 138 33 = some (.iaload, 1, []) := by decide +kernel
theorem r138_34 : am_at 138 34 = some (.istore 4, 2, [4]) := by decide +kernel
theorem r138_36 : am_at 138 36 = some (.aload_n 0, 1, [0]) := by decide +kernel
theorem r138_37 : am_at 138 37 = some (.getfield 34, 3, [8, 15, 3, 1230]) := by decide +kernel
theorem r138_40 : am_at 138 40 = some (.iload_n 3, 1, [3]) := by decide +kernel
theorem r138_41 : am_at 138 41 = some (.iconst (2), 1, []) := by decide +kernel
theorem r138_42 : am_at 138 42 = some (.idiv, 1, []) := by decide +kernel
theorem r138_43 : am_at 138 43 = some (.iaload, 1, []) := by decide +kernel
theorem r138_44 : am_at 138 44 = some (.iload_n 2, 1, [2]) := by decide +kernel
theorem r138_45 : am_at 138 45 = some (.if_icmp .ne (146), 3, [191]) := by decide +kernel
theorem r138_48 : am_at 138 48 = some (.aload_n 0, 1, [0]) := by decide +kernel
theorem r138_49 : am_at 138 49 = some (.iload_n 3, 1, [3]) := by decide +kernel
theorem r138_50 : am_at 138 50 = some (.iconst (2), 1, []) := by decide +kernel
theorem r138_51 : am_at 138 51 = some (.idiv, 1, []) := by decide +kernel
theorem r138_52 : am_at 138 52 = some (.iload 4, 2, [4]) := by decide +kernel
theorem r138_54 : am_at 138 54 = some (.bipush (8), 2, []) := by decide +kernel
theorem r138_56 : am_at 138 56 = some (.irem, 1, []) := by decide +kernel
theorem r138_57 : am_at 138 57 = some (.invokevirtual 91, 3, [53, 3, 1390, 0]) := by decide +kernel
theorem r138_60 : am_at 138 60 = some (.ifCond .eq (131), 3, [191]) := by decide +kernel
theorem r138_63 : am_at 138 63 = some (.aload_n 0, 1, [0]) := by decide +kernel
theorem r138_64 : am_at 138 64 = some (.iload_n 3, 1, [3]) := by decide +kernel
theorem r138_65 : am_at 138 65 = some (.iconst (2), 1, []) := by decide +kernel
theorem r138_66 : am_at 138 66 = some (.idiv, 1, []) := by decide +kernel
theorem r138_67 : am_at 138 67 = some (.iload 4, 2, [4]) := by decide +kernel
theorem r138_69 : am_at 138 69 = some (.invokevirtual 266, 3, [131, 3, 1636, 0]) := by decide +kernel
theorem r138_72 : am_at 138 72 = some (.istore 5, 2, [5]) := by decide +kernel
theorem r138_74 : am_at 138 74 = some (.aload_n 0, 1, [0]) := by decide +kernel
theorem r138_75 : am_at 138 75 = some (.getfield 37, 3, [8, 16, 3, 1231]) := by decide +kernel
theorem r138_78 : am_at 138 78 = some (.iload_n 1, 1, [1]) := by decide +kernel
theorem r138_79 : am_at 138 79 = some (.iload_n 3, 1, [3]) := by decide +kernel
theorem r138_80 : am_at 138 80 = some (.iconst (1), 1, []) := by decide +kernel
theorem r138_81 : am_at 138 81 = some (.iadd, 1, []) := by decide +kernel
theorem r138_82 : am_at 138 82 = some (.iastore, 1, []) := by decide +kernel
theorem r138_83 : am_at 138 83 = some (.aload_n 0, 1, [0]) := by decide +kernel
theorem r138_84 : am_at 138 84 = some (.getfield 43, 3, [8, 18, 3, 1233]) := by decide +kernel
theorem r138_87 : am_at 138 87 = some (.iload_n 1, 1, [1]) := by decide +kernel
theorem r138_88 : am_at 138 88 = some (.iload_n 3, 1, [3]) := by decide +kernel
theorem r138_89 : am_at 138 89 = some (.iconst (2), 1, []) := by decide +kernel
theorem r138_90 : am_at 138 90 = some (.idiv, 1, []) := by decide +kernel
theorem r138_91 : am_at 138 91 = some (.iastore, 1, []) := by decide +kernel
theorem r138_92 : am_at 138 92 = some (.aload_n 0, 1, [0]) := by decide +kernel
theorem r138_93 : am_at 138 93 = some (.getfield 34, 3, [8, 15, 3, 1230]) := by decide +kernel
theorem r138_96 : am_at 138 96 = some (.iload_n 3, 1, [3]) := by decide +kernel
theorem r138_97 : am_at 138 97 = some (.iconst (2), 1, []) := by decide +kernel
theorem r138_98 : am_at 138 98 = some (.idiv, 1, []) := by decide +kernel
theorem r138_99 : am_at 138 99 = some (.iconst (4), 1, []) := by decide +kernel
theorem r138_100 : am_at 138 100 = some (.iastore, 1, []) := by decide +kernel
theorem r138_101 : am_at 138 101 = some (.aload_n 0, 1, [0]) := by decide +kernel
theorem r138_102 : am_at 138 102 = some (.getfield 49, 3, [8, 20, 3, 1235]) := by decide +kernel
theorem r138_105 : am_at 138 105 = some (.iload_n 1, 1, [1]) := by decide +kernel
theorem r138_106 : am_at 138 106 = some (.iconst (1), 1, []) := by decide +kernel
theorem r138_107 : am_at 138 107 = some (.iadd, 1, []) := by decide +kernel
theorem r138_108 : am_at 138 108 = some (.iload_n 3, 1, [3]) := by decide +kernel
theorem r138_109 : am_at 138 109 = some (.iconst (2), 1, []) := by decide +kernel
theorem r138_110 : am_at 138 110 = some (.irem, 1, []) := by decide +kernel
theorem r138_111 : am_at 138 111 = some (.ifCond .ne (8), 3, [119]) := by decide +kernel
theorem r138_114 : am_at 138 114 = some (.iload 5, 2, [5]) := by decide +kernel
theorem r138_116 : am_at 138 116 = some (.goto (9), 3, [125]) := by decide +kernel
theorem r138_119 : am_at 138 119 = some (.aload_n 0, 1, [0]) := by decide +kernel
theorem r138_120 : am_at 138 120 = some (.getfield 49, 3, [8, 20, 3, 1235]) := by decide +kernel
theorem r138_123 : am_at 138 123 = some (.iload_n 1, 1, [1]) := by decide +kernel
theorem r138_124 : am_at 138 124 = some (.iaload, 1, []) := by decide +kernel
theorem r138_125 : am_at 138 125 = some (.iastore, 1, []) := by decide +kernel
theorem r138_126 : am_at 138 126 = some (.aload_n 0, 1, [0]) := by decide +kernel
theorem r138_127 : am_at 138 127 = some (.getfield 52, 3, [8, 21, 3, 1236]) := by decide +kernel
theorem r138_130 : am_at 138 130 = some (.iload_n 1, 1, [1]) := by decide +kernel
theorem r138_131 : am_at 138 131 = some (.iconst (1), 1, []) := by decide +kernel
theorem r138_132 : am_at 138 132 = some (.iadd, 1, []) := by decide +kernel
theorem r138_133 : am_at 138 133 = some (.iload_n 3, 1, [3]) := by decide +kernel
theorem r138_134 : am_at 138 134 = some (.iconst (2), 1, []) := by decide +kernel
theorem r138_135 : am_at 138 135 = some (.irem, 1, []) := by decide +kernel
theorem r138_136 : am_at 138 136 = some (.iconst (1), 1, []) := by decide +kernel
theorem r138_137 : am_at 138 137 = some (.if_icmp .ne (8), 3, [145]) := by decide +kernel
theorem r138_140 : am_at 138 140 = some (.iload 5, 2, [5]) := by decide +kernel
theorem r138_142 : am_at 138 142 = some (.goto (9), 3, [151]) := by decide +kernel
theorem r138_145 : am_at 138 145 = some (.aload_n 0, 1, [0]) := by decide +kernel
theorem r138_146 : am_at 138 146 = some (.getfield 52, 3, [8, 21, 3, 1236]) := by decide +kernel
theorem r138_149 : am_at 138 149 = some (.iload_n 1, 1, [1]) := by decide +kernel
theorem r138_150 : am_at 138 150 = some (.iaload, 1, []) := by decide +kernel
theorem r138_151 : am_at 138 151 = some (.iastore, 1, []) := by decide +kernel
theorem r138_152 : am_at 138 152 = some (.aload_n 0, 1, [0]) := by decide +kernel
theorem r138_153 : am_at 138 153 = some (.getfield 58, 3, [8, 23, 3, 1238]) := by decide +kernel
theorem r138_156 : am_at 138 156 = some (.iload_n 1, 1, [1]) := by decide +kernel
theorem r138_157 : am_at 138 157 = some (.iconst (1), 1, []) := by decide +kernel
theorem r138_158 : am_at 138 158 = some (.iadd, 1, []) := by decide +kernel
theorem r138_159 : am_at 138 159 = some (.iconst (0), 1, []) := by decide +kernel
theorem r138_160 : am_at 138 160 = some (.iastore, 1, []) := by decide +kernel
theorem r138_161 : am_at 138 161 = some (.aload_n 0, 1, [0]) := by decide +kernel
theorem r138_162 : am_at 138 162 = some (.getfield 46, 3, [8, 19, 3, 1234]) := by decide +kernel
theorem r138_165 : am_at 138 165 = some (.iload_n 1, 1, [1]) := by decide +kernel
theorem r138_166 : am_at 138 166 = some (.aload_n 0, 1, [0]) := by decide +kernel
theorem r138_167 : am_at 138 167 = some (.getfield 49, 3, [8, 20, 3, 1235]) := by decide +kernel
theorem r138_170 : am_at 138 170 = some (.iload_n 1, 1, [1]) := by decide +kernel
theorem r138_171 : am_at 138 171 = some (.iconst (1), 1, []) := by decide +kernel
theorem r138_172 : am_at 138 172 = some (.iadd, 1, []) := by decide +kernel
theorem r138_173 : am_at 138 173 = some (.iaload, 1, []) := by decide +kernel
theorem r138_174 : am_at 138 174 = some (.aload_n 0, 1, [0]) := by decide +kernel
theorem r138_175 : am_at 138 175 = some (.getfield 52, 3, [8, 21, 3, 1236]) := by decide +kernel
theorem r138_178 : am_at 138 178 = some (.iload_n 1, 1, [1]) := by decide +kernel
theorem r138_179 : am_at 138 179 = some (.iconst (1), 1, []) := by decide +kernel
theorem r138_180 : am_at 138 180 = some (.iadd, 1, []) := by decide +kernel
theorem r138_181 : am_at 138 181 = some (.iaload, 1, []) := by decide +kernel
theorem r138_182 : am_at 138 182 = some (.invokestatic 272, 3, [130, 2, 1644, 0]) := by decide +kernel
theorem r138_185 : am_at 138 185 = some (.invokestatic 118, 3, [65, 1, 1414, 0]) := by decide +kernel
theorem r138_188 : am_at 138 188 = some (.iastore, 1, []) := by decide +kernel
theorem r138_189 : am_at 138 189 = some (.iconst (1), 1, []) := by decide +kernel
theorem r138_190 : am_at 138 190 = some (.ireturn, 1, []) := by decide +kernel
theorem r138_191 : am_at 138 191 = some (.iinc 3 (1), 3, [3]) := by decide +kernel
theorem r138_194 : am_at 138 194 = some (.goto (-187), 3, [7]) := by decide +kernel
theorem r138_197 : am_at 138 197 = some (.aload_n 0, 1, [0]) := by decide +kernel
theorem r138_198 : am_at 138 198 = some (.getfield 37, 3, [8, 16, 3, 1231]) := by decide +kernel
theorem r138_201 : am_at 138 201 = some (.iload_n 1, 1, [1]) := by decide +kernel
theorem r138_202 : am_at 138 202 = some (.bipush (56), 2, []) := by decide +kernel
theorem r138_204 : am_at 138 204 = some (.iastore, 1, []) := by decide +kernel
theorem r138_205 : am_at 138 205 = some (.iconst (0), 1, []) := by decide +kernel
theorem r138_206 : am_at 138 206 = some (.ireturn, 1, []) := by decide +kernel
theorem rt138 : am_rtt 138 = some (some .boolean) := by decide +kernel
set_option maxRecDepth 100000 in
theorem pg138 : am_pg[138]? = some am_m138 := rfl
theorem m138_L7_w {d : Nat} {N : Nat} {D : am_D} {v1 : Int32} {v2 : Int32} {mc ms : Nat} {Q : am_O → am_AH → Prop} (hd : 3 ≤ d) : ∀ (n : Nat) (v3 : Int32) {q : Nat × Int32 × Int32} (h : m138_L7 N D v1 v2  n v3 = some q) (k0 : q.1 = 0 → am_X xs L 138 d mc ms 197 [.ref 106, .int v1, am_dead, am_dead, am_dead, am_dead] [] (am_mk D) 0 0 Q) (k1 : q.1 = 1 → am_X xs L 138 d mc ms 63 [.ref 106, .int v1, am_dead, .int q.2.1, .int q.2.2, am_dead] [] (am_mk D) 0 0 Q), am_X xs L 138 d mc ms 7 [.ref 106, .int v1, .int v2, .int v3, am_dead, am_dead] [] (am_mk D) 0 0 Q := by
  intro n
  induction n with
  | zero =>
    intro v3 q h k0 k1
    exact (nomatch (show none = some q from h))
  | succ n ih =>
    intro v3 q h k0 k1
    rw [m138_L7] at h
    refine x_ld (v := .int v3) r138_7 rfl rfl rfl ?_
    refine x_bi (v := 56) r138_8 rfl rfl ?_
    rcases am_ifE h with ⟨c4, h⟩ | ⟨c4, h⟩
    · refine x_icgeT r138_10 c4 ?_
      refine x_forget (lc0 := [.ref 106, .int v1, am_dead, am_dead, am_dead, am_dead]) ⟨Or.inl rfl, Or.inl rfl, Or.inr ⟨rfl, rfl⟩, Or.inr ⟨rfl, rfl⟩, Or.inl rfl, Or.inl rfl, trivial⟩ ?_
      cases h
      exact k0 rfl
    · refine x_icgeF r138_10 c4 rfl ?_
      refine x_ld (v := .int v3) r138_13 rfl rfl rfl ?_
      refine x_ic (v := 2) r138_14 rfl rfl ?_
      refine x_ar r138_15 rfl (by decide) rfl ?_
      obtain ⟨q5, h7, h⟩ := Option.bind_eq_some_iff.mp h
      have kj6 : am_X xs L 138 d mc ms 34 [.ref 106, .int v1, .int v2, .int v3, am_dead, am_dead] [.int q5] (am_mk D) 0 0 Q := by
        refine x_sto (lc' := [.ref 106, .int v1, .int v2, .int v3, .int q5, am_dead]) r138_34 rfl rfl rfl rfl ?_
        refine x_ld (v := .ref 106) r138_36 rfl rfl rfl ?_
        refine y_gf (cd := 117) (v := .ref 115) r138_37 rfl rfl rfl ?_
        refine x_ld (v := .int v3) r138_40 rfl rfl rfl ?_
        refine x_ic (v := 2) r138_41 rfl rfl ?_
        refine x_ar r138_42 rfl (by decide) rfl ?_
        obtain ⟨g11, h⟩ := am_gdE h
        refine y_ial (n := 28) r138_43 rfl (by decide) g11 rfl rfl ?_
        refine x_ld (v := .int v2) r138_44 rfl rfl rfl ?_
        rcases am_ifE h with ⟨c12, h⟩ | ⟨c12, h⟩
        · refine x_icneT r138_45 c12 rfl ?_
          refine x_ld (v := .ref 106) r138_48 rfl rfl rfl ?_
          refine x_ld (v := .int v3) r138_49 rfl rfl rfl ?_
          refine x_ic (v := 2) r138_50 rfl rfl ?_
          refine x_ar r138_51 rfl (by decide) rfl ?_
          refine x_ld (v := .int q5) r138_52 rfl rfl rfl ?_
          refine x_bi (v := 8) r138_54 rfl rfl ?_
          refine x_ar r138_56 rfl (by decide) rfl ?_
          obtain ⟨q13, h14, h⟩ := Option.bind_eq_some_iff.mp h
          refine x_call1 (as := [.ref 106, .int (v3 / (2 : Int32)), .int (q5 - q5 / (8 : Int32) * (8 : Int32))]) (rest := []) r138_57 rfl rfl rfl (by decide) (Nat.le_of_ble_eq_true rfl) (m53_ok h14) (Nat.le_trans (by decide) hd) (Nat.zero_le _) (Nat.zero_le _) rfl ?_
          rcases am_ifE h with ⟨c15, h⟩ | ⟨c15, h⟩
          · refine x_ifeqT r138_60 c15 ?_
            obtain ⟨x16, e17, h⟩ := am_ltE h
            refine x_sto (lc' := [.ref 106, .int v1, .int v2, .int x16, .int q5, am_dead]) r138_191 rfl rfl (by subst e17; rfl) rfl ?_
            refine x_goto r138_194 ?_
            exact x_forget (lc0 := [.ref 106, .int v1, .int v2, .int x16, am_dead, am_dead]) ⟨Or.inl rfl, Or.inl rfl, Or.inl rfl, Or.inl rfl, Or.inr ⟨rfl, rfl⟩, Or.inl rfl, trivial⟩ (ih x16 h k0 k1)
          · refine x_ifeqF r138_60 c15 rfl ?_
            refine x_forget (lc0 := [.ref 106, .int v1, am_dead, .int v3, .int q5, am_dead]) ⟨Or.inl rfl, Or.inl rfl, Or.inr ⟨rfl, rfl⟩, Or.inl rfl, Or.inl rfl, Or.inl rfl, trivial⟩ ?_
            cases h
            exact k1 rfl
        · refine x_icneF r138_45 c12 ?_
          obtain ⟨x18, e19, h⟩ := am_ltE h
          refine x_sto (lc' := [.ref 106, .int v1, .int v2, .int x18, .int q5, am_dead]) r138_191 rfl rfl (by subst e19; rfl) rfl ?_
          refine x_goto r138_194 ?_
          exact x_forget (lc0 := [.ref 106, .int v1, .int v2, .int x18, am_dead, am_dead]) ⟨Or.inl rfl, Or.inl rfl, Or.inl rfl, Or.inl rfl, Or.inr ⟨rfl, rfl⟩, Or.inl rfl, trivial⟩ (ih x18 h k0 k1)
      rcases am_ifE h7 with ⟨c8, h7⟩ | ⟨c8, h7⟩
      · refine x_ifneT r138_16 c8 rfl ?_
        refine x_ld (v := .ref 106) r138_19 rfl rfl rfl ?_
        refine y_gf (cd := 122) (v := .ref 120) r138_20 rfl rfl rfl ?_
        refine x_ld (v := .int v1) r138_23 rfl rfl rfl ?_
        obtain ⟨g9, h7⟩ := am_gdE h7
        refine y_ial (n := 64) r138_24 rfl (by decide) g9 rfl rfl ?_
        refine x_goto r138_25 ?_
        cases h7
        exact kj6
      · refine x_ifneF r138_16 c8 ?_
        refine x_ld (v := .ref 106) r138_28 rfl rfl rfl ?_
        refine y_gf (cd := 123) (v := .ref 121) r138_29 rfl rfl rfl ?_
        refine x_ld (v := .int v1) r138_32 rfl rfl rfl ?_
        obtain ⟨g10, h7⟩ := am_gdE h7
        refine y_ial (n := 64) r138_33 rfl (by decide) g10 rfl rfl ?_
        cases h7
        exact kj6
theorem m138_w {d mc ms : Nat} {N : Nat} {D : am_D} {v1 : Int32} {v2 : Int32} {Q : am_O → am_AH → Prop} (hd : 3 ≤ d) {r : Int32 × am_D} (h : m138 N D v1 v2 = some r) (hQ : Q (.inl (some (.int r.1))) (am_mk r.2)) : am_X xs L 138 d mc ms 0 [.ref 106, .int v1, .int v2, am_dead, am_dead, am_dead] [] (am_mk D) 0 0 Q := by
  unfold m138 at h
  refine x_ld (v := .ref 106) r138_0 rfl rfl rfl ?_
  refine y_gf (cd := 118) (v := .ref 116) r138_1 rfl rfl rfl ?_
  refine x_ld (v := .int v1) r138_4 rfl rfl rfl ?_
  obtain ⟨g1, h⟩ := am_gdE h
  refine y_ial (n := 64) r138_5 rfl (by decide) g1 rfl rfl ?_
  obtain ⟨x2, e3, h⟩ := am_ltE h
  refine am_topI e3 ?_
  refine x_sto (lc' := [.ref 106, .int v1, .int v2, .int x2, am_dead, am_dead]) r138_6 rfl rfl rfl rfl ?_
  obtain ⟨q20, h21, h⟩ := Option.bind_eq_some_iff.mp h
  refine x_forget (lc0 := [.ref 106, .int v1, .int v2, .int x2, am_dead, am_dead]) ⟨Or.inl rfl, Or.inl rfl, Or.inl rfl, Or.inl rfl, Or.inl rfl, Or.inl rfl, trivial⟩ (m138_L7_w hd N x2 h21 (fun e22 => ?_) (fun e23 => ?_))
  · rw [if_pos e22] at h
    refine x_ld (v := .ref 106) r138_197 rfl rfl rfl ?_
    refine y_gf (cd := 118) (v := .ref 116) r138_198 rfl rfl rfl ?_
    refine x_ld (v := .int v1) r138_201 rfl rfl rfl ?_
    refine x_bi (v := 56) r138_202 rfl rfl ?_
    obtain ⟨g26, h⟩ := am_gdE h
    obtain ⟨D24, e25, h⟩ := am_ltE h
    refine y_ias (n := 64) r138_204 rfl (by decide) g26 rfl e25 rfl ?_
    refine x_ic (v := 0) r138_205 rfl rfl ?_
    cases h
    exact x_ret (ret := some .boolean) (C := narrow .boolean (.int (0 : Int32)) = .int (0 : Int32)) (v := some (.int (0 : Int32))) r138_206 rt138 rfl rfl rfl rfl rfl rfl rfl rfl (by decide) hQ
  · rw [if_neg (by rw [e23]; decide)] at h
    refine x_ld (v := .ref 106) r138_63 rfl rfl rfl ?_
    refine x_ld (v := .int q20.2.1) r138_64 rfl rfl rfl ?_
    refine x_ic (v := 2) r138_65 rfl rfl ?_
    refine x_ar r138_66 rfl (by decide) rfl ?_
    refine x_ld (v := .int q20.2.2) r138_67 rfl rfl rfl ?_
    obtain ⟨q27, h28, h⟩ := Option.bind_eq_some_iff.mp h
    refine x_call1 (as := [.ref 106, .int (q20.2.1 / (2 : Int32)), .int q20.2.2]) (rest := []) r138_69 rfl rfl rfl (by decide) (Nat.le_of_ble_eq_true rfl) (m131_ok h28) (Nat.le_trans (by decide) hd) (Nat.zero_le _) (Nat.zero_le _) rfl ?_
    refine x_sto (lc' := [.ref 106, .int v1, am_dead, .int q20.2.1, .int q20.2.2, .int q27]) r138_72 rfl rfl rfl rfl ?_
    refine x_ld (v := .ref 106) r138_74 rfl rfl rfl ?_
    refine y_gf (cd := 118) (v := .ref 116) r138_75 rfl rfl rfl ?_
    refine x_ld (v := .int v1) r138_78 rfl rfl rfl ?_
    refine x_ld (v := .int q20.2.1) r138_79 rfl rfl rfl ?_
    refine x_ic (v := 1) r138_80 rfl rfl ?_
    refine x_ar r138_81 rfl trivial rfl ?_
    obtain ⟨g31, h⟩ := am_gdE h
    obtain ⟨D29, e30, h⟩ := am_ltE h
    refine y_ias (n := 64) r138_82 rfl (by decide) g31 rfl e30 rfl ?_
    refine x_ld (v := .ref 106) r138_83 rfl rfl rfl ?_
    refine y_gf (cd := 120) (v := .ref 118) r138_84 rfl rfl rfl ?_
    refine x_ld (v := .int v1) r138_87 rfl rfl rfl ?_
    refine x_ld (v := .int q20.2.1) r138_88 rfl rfl rfl ?_
    refine x_ic (v := 2) r138_89 rfl rfl ?_
    refine x_ar r138_90 rfl (by decide) rfl ?_
    obtain ⟨g34, h⟩ := am_gdE h
    obtain ⟨D32, e33, h⟩ := am_ltE h
    refine y_ias (n := 64) r138_91 rfl (by decide) g34 rfl e33 rfl ?_
    refine x_ld (v := .ref 106) r138_92 rfl rfl rfl ?_
    refine y_gf (cd := 117) (v := .ref 115) r138_93 rfl rfl rfl ?_
    refine x_ld (v := .int q20.2.1) r138_96 rfl rfl rfl ?_
    refine x_ic (v := 2) r138_97 rfl rfl ?_
    refine x_ar r138_98 rfl (by decide) rfl ?_
    refine x_ic (v := 4) r138_99 rfl rfl ?_
    obtain ⟨g37, h⟩ := am_gdE h
    obtain ⟨D35, e36, h⟩ := am_ltE h
    refine y_ias (n := 28) r138_100 rfl (by decide) g37 rfl e36 rfl ?_
    refine x_ld (v := .ref 106) r138_101 rfl rfl rfl ?_
    refine y_gf (cd := 122) (v := .ref 120) r138_102 rfl rfl rfl ?_
    refine x_ld (v := .int v1) r138_105 rfl rfl rfl ?_
    refine x_ic (v := 1) r138_106 rfl rfl ?_
    refine x_ar r138_107 rfl trivial rfl ?_
    refine x_ld (v := .int q20.2.1) r138_108 rfl rfl rfl ?_
    refine x_ic (v := 2) r138_109 rfl rfl ?_
    refine x_ar r138_110 rfl (by decide) rfl ?_
    obtain ⟨q38, h40, h⟩ := Option.bind_eq_some_iff.mp h
    have kj39 : am_X xs L 138 d mc ms 125 [.ref 106, .int v1, am_dead, .int q20.2.1, .int q20.2.2, .int q27] [.int q38, .int (v1 + (1 : Int32)), .ref 120] (am_mk D35) 0 0 Q := by
      obtain ⟨g45, h⟩ := am_gdE h
      obtain ⟨D43, e44, h⟩ := am_ltE h
      refine y_ias (n := 64) r138_125 rfl (by decide) g45 rfl e44 rfl ?_
      refine x_ld (v := .ref 106) r138_126 rfl rfl rfl ?_
      refine y_gf (cd := 123) (v := .ref 121) r138_127 rfl rfl rfl ?_
      refine x_ld (v := .int v1) r138_130 rfl rfl rfl ?_
      refine x_ic (v := 1) r138_131 rfl rfl ?_
      refine x_ar r138_132 rfl trivial rfl ?_
      refine x_ld (v := .int q20.2.1) r138_133 rfl rfl rfl ?_
      refine x_ic (v := 2) r138_134 rfl rfl ?_
      refine x_ar r138_135 rfl (by decide) rfl ?_
      refine x_ic (v := 1) r138_136 rfl rfl ?_
      obtain ⟨q46, h48, h⟩ := Option.bind_eq_some_iff.mp h
      have kj47 : am_X xs L 138 d mc ms 151 [.ref 106, .int v1, am_dead, .int q20.2.1, .int q20.2.2, .int q27] [.int q46, .int (v1 + (1 : Int32)), .ref 121] (am_mk D43) 0 0 Q := by
        obtain ⟨g53, h⟩ := am_gdE h
        obtain ⟨D51, e52, h⟩ := am_ltE h
        refine y_ias (n := 64) r138_151 rfl (by decide) g53 rfl e52 rfl ?_
        refine x_ld (v := .ref 106) r138_152 rfl rfl rfl ?_
        refine y_gf (cd := 125) (v := .ref 123) r138_153 rfl rfl rfl ?_
        refine x_ld (v := .int v1) r138_156 rfl rfl rfl ?_
        refine x_ic (v := 1) r138_157 rfl rfl ?_
        refine x_ar r138_158 rfl trivial rfl ?_
        refine x_ic (v := 0) r138_159 rfl rfl ?_
        obtain ⟨g56, h⟩ := am_gdE h
        obtain ⟨D54, e55, h⟩ := am_ltE h
        refine y_ias (n := 64) r138_160 rfl (by decide) g56 rfl e55 rfl ?_
        refine x_ld (v := .ref 106) r138_161 rfl rfl rfl ?_
        refine y_gf (cd := 121) (v := .ref 119) r138_162 rfl rfl rfl ?_
        refine x_ld (v := .int v1) r138_165 rfl rfl rfl ?_
        refine x_ld (v := .ref 106) r138_166 rfl rfl rfl ?_
        refine y_gf (cd := 122) (v := .ref 120) r138_167 rfl rfl rfl ?_
        refine x_ld (v := .int v1) r138_170 rfl rfl rfl ?_
        refine x_ic (v := 1) r138_171 rfl rfl ?_
        refine x_ar r138_172 rfl trivial rfl ?_
        obtain ⟨g57, h⟩ := am_gdE h
        refine y_ial (n := 64) r138_173 rfl (by decide) g57 rfl rfl ?_
        refine x_ld (v := .ref 106) r138_174 rfl rfl rfl ?_
        refine y_gf (cd := 123) (v := .ref 121) r138_175 rfl rfl rfl ?_
        refine x_ld (v := .int v1) r138_178 rfl rfl rfl ?_
        refine x_ic (v := 1) r138_179 rfl rfl ?_
        refine x_ar r138_180 rfl trivial rfl ?_
        obtain ⟨g58, h⟩ := am_gdE h
        refine y_ial (n := 64) r138_181 rfl (by decide) g58 rfl rfl ?_
        refine x_call1 (as := [.int (D54.1 120 ((v1 + (1 : Int32))).toNatClampNeg), .int (D54.1 121 ((v1 + (1 : Int32))).toNatClampNeg)]) (rest := [.int v1, .ref 119]) r138_182 rfl rfl rfl (by decide) (Nat.le_of_ble_eq_true rfl) (m130_ok rfl) (Nat.le_trans (by decide) hd) (Nat.zero_le _) (Nat.zero_le _) rfl ?_
        refine x_call1 (as := [.int (m130 (D54.1 120 ((v1 + (1 : Int32))).toNatClampNeg) (D54.1 121 ((v1 + (1 : Int32))).toNatClampNeg))]) (rest := [.int v1, .ref 119]) r138_185 rfl rfl rfl (by decide) (Nat.le_of_ble_eq_true rfl) (m65_ok rfl) (Nat.le_trans (by decide) hd) (Nat.zero_le _) (Nat.zero_le _) rfl ?_
        obtain ⟨g61, h⟩ := am_gdE h
        obtain ⟨D59, e60, h⟩ := am_ltE h
        refine y_ias (n := 64) r138_188 rfl (by decide) g61 rfl e60 rfl ?_
        refine x_ic (v := 1) r138_189 rfl rfl ?_
        cases h
        exact x_ret (ret := some .boolean) (C := narrow .boolean (.int (1 : Int32)) = .int (1 : Int32)) (v := some (.int (1 : Int32))) r138_190 rt138 rfl rfl rfl rfl rfl rfl rfl rfl (by decide) hQ
      rcases am_ifE h48 with ⟨c49, h48⟩ | ⟨c49, h48⟩
      · refine x_icneT r138_137 c49 rfl ?_
        refine x_ld (v := .int q27) r138_140 rfl rfl rfl ?_
        refine x_goto r138_142 ?_
        cases h48
        exact kj47
      · refine x_icneF r138_137 c49 ?_
        refine x_ld (v := .ref 106) r138_145 rfl rfl rfl ?_
        refine y_gf (cd := 123) (v := .ref 121) r138_146 rfl rfl rfl ?_
        refine x_ld (v := .int v1) r138_149 rfl rfl rfl ?_
        obtain ⟨g50, h48⟩ := am_gdE h48
        refine y_ial (n := 64) r138_150 rfl (by decide) g50 rfl rfl ?_
        cases h48
        exact kj47
    rcases am_ifE h40 with ⟨c41, h40⟩ | ⟨c41, h40⟩
    · refine x_ifneT r138_111 c41 rfl ?_
      refine x_ld (v := .int q27) r138_114 rfl rfl rfl ?_
      refine x_goto r138_116 ?_
      cases h40
      exact kj39
    · refine x_ifneF r138_111 c41 ?_
      refine x_ld (v := .ref 106) r138_119 rfl rfl rfl ?_
      refine y_gf (cd := 122) (v := .ref 120) r138_120 rfl rfl rfl ?_
      refine x_ld (v := .int v1) r138_123 rfl rfl rfl ?_
      obtain ⟨g42, h40⟩ := am_gdE h40
      refine y_ial (n := 64) r138_124 rfl (by decide) g42 rfl rfl ?_
      cases h40
      exact kj39
theorem m138_ok {N : Nat} {D : am_D} {v1 : Int32} {v2 : Int32} {r : Int32 × am_D} (h : m138 N D v1 v2 = some r) : am_Y xs L 138 3 0 0 [.ref 106, .int v1, .int v2] D (.inl (some (.int r.1))) r.2 := am_Yof (mi := am_m138) (lc := [.ref 106, .int v1, .int v2, am_dead, am_dead, am_dead]) pg138 (Nat.le_of_ble_eq_true rfl) (am_rc1 (ci := 8) rfl rfl rfl rfl rfl) rfl (fun Q hQ => m138_w (Nat.le_refl _) h hQ)
theorem r139_0 : am_at 139 0 = some (.aload_n 0, 1, [0]) := by decide +kernel
theorem r139_1 : am_at 139 1 = some (.getfield 37, 3, [8, 16, 3, 1231]) := by decide +kernel
theorem r139_4 : am_at 139 4 = some (.iload_n 1, 1, [1]) := by decide +kernel
theorem r139_5 : am_at 139 5 = some (.iconst (0), 1, []) := by decide +kernel
theorem r139_6 : am_at 139 6 = some (.iastore, 1, []) := by decide +kernel
theorem r139_7 : am_at 139 7 = some (.aload_n 0, 1, [0]) := by decide +kernel
theorem r139_8 : am_at 139 8 = some (.getfield 55, 3, [8, 22, 3, 1237]) := by decide +kernel
theorem r139_11 : am_at 139 11 = some (.iload_n 1, 1, [1]) := by decide +kernel
theorem r139_12 : am_at 139 12 = some (.iconst (0), 1, []) := by decide +kernel
theorem r139_13 : am_at 139 13 = some (.iastore, 1, []) := by decide +kernel
theorem r139_14 : am_at 139 14 = some (.aload_n 0, 1, [0]) := by decide +kernel
theorem r139_15 : am_at 139 15 = some (.getfield 40, 3, [8, 17, 3, 1232]) := by decide +kernel
theorem r139_18 : am_at 139 18 = some (.iload_n 1, 1, [1]) := by decide +kernel
theorem r139_19 : am_at 139 19 = some (.iconst (0), 1, []) := by decide +kernel
theorem r139_20 : am_at 139 20 = some (.iastore, 1, []) := by decide +kernel
theorem r139_21 : am_at 139 21 = some (.return_, 1, []) := by decide +kernel
theorem rt139 : am_rtt 139 = some (none) := by decide +kernel
set_option maxRecDepth 100000 in
theorem pg139 : am_pg[139]? = some am_m139 := rfl
theorem m139_w {d mc ms : Nat} {D : am_D} {v1 : Int32} {Q : am_O → am_AH → Prop} (hd : 1 ≤ d) {r : am_D} (h : m139 D v1 = some r) (hQ : Q (.inl none) (am_mk r)) : am_X xs L 139 d mc ms 0 [.ref 106, .int v1] [] (am_mk D) 0 0 Q := by
  unfold m139 at h
  refine x_ld (v := .ref 106) r139_0 rfl rfl rfl ?_
  refine y_gf (cd := 118) (v := .ref 116) r139_1 rfl rfl rfl ?_
  refine x_ld (v := .int v1) r139_4 rfl rfl rfl ?_
  refine x_ic (v := 0) r139_5 rfl rfl ?_
  obtain ⟨g3, h⟩ := am_gdE h
  obtain ⟨D1, e2, h⟩ := am_ltE h
  refine y_ias (n := 64) r139_6 rfl (by decide) g3 rfl e2 rfl ?_
  refine x_ld (v := .ref 106) r139_7 rfl rfl rfl ?_
  refine y_gf (cd := 124) (v := .ref 122) r139_8 rfl rfl rfl ?_
  refine x_ld (v := .int v1) r139_11 rfl rfl rfl ?_
  refine x_ic (v := 0) r139_12 rfl rfl ?_
  obtain ⟨g6, h⟩ := am_gdE h
  obtain ⟨D4, e5, h⟩ := am_ltE h
  refine y_ias (n := 64) r139_13 rfl (by decide) g6 rfl e5 rfl ?_
  refine x_ld (v := .ref 106) r139_14 rfl rfl rfl ?_
  refine y_gf (cd := 119) (v := .ref 117) r139_15 rfl rfl rfl ?_
  refine x_ld (v := .int v1) r139_18 rfl rfl rfl ?_
  refine x_ic (v := 0) r139_19 rfl rfl ?_
  obtain ⟨g9, h⟩ := am_gdE h
  obtain ⟨D7, e8, h⟩ := am_ltE h
  refine y_ias (n := 64) r139_20 rfl (by decide) g9 rfl e8 rfl ?_
  cases h
  exact x_ret (ret := none) (C := True) (v := none) r139_21 rt139 rfl rfl rfl rfl rfl rfl rfl rfl trivial hQ
theorem m139_ok {D : am_D} {v1 : Int32} {r : am_D} (h : m139 D v1 = some r) : am_Y xs L 139 1 0 0 [.ref 106, .int v1] D (.inl none) r := am_Yof (mi := am_m139) (lc := [.ref 106, .int v1]) pg139 (Nat.le_of_ble_eq_true rfl) (am_rc1 (ci := 8) rfl rfl rfl rfl rfl) rfl (fun Q hQ => m139_w (Nat.le_refl _) h hQ)
theorem r140_0 : am_at 140 0 = some (.aload_n 0, 1, [0]) := by decide +kernel
theorem r140_1 : am_at 140 1 = some (.getfield 34, 3, [8, 15, 3, 1230]) := by decide +kernel
theorem r140_4 : am_at 140 4 = some (.aload_n 0, 1, [0]) := by decide +kernel
theorem r140_5 : am_at 140 5 = some (.getfield 43, 3, [8, 18, 3, 1233]) := by decide +kernel
theorem r140_8 : am_at 140 8 = some (.iload_n 1, 1, [1]) := by decide +kernel
theorem r140_9 : am_at 140 9 = some (.iaload, 1, []) := by decide +kernel
theorem r140_10 : am_at 140 10 = some (.iload_n 2, 1, [2]) := by decide +kernel
theorem r140_11 : am_at 140 11 = some (.iastore, 1, []) := by decide +kernel
theorem r140_12 : am_at 140 12 = some (.aload_n 0, 1, [0]) := by decide +kernel
theorem r140_13 : am_at 140 13 = some (.getfield 46, 3, [8, 19, 3, 1234]) := by decide +kernel
theorem r140_16 : am_at 140 16 = some (.iload_n 1, 1, [1]) := by decide +kernel
theorem r140_17 : am_at 140 17 = some (.iaload, 1, []) := by decide +kernel
theorem r140_18 : am_at 140 18 = some (.iload_n 3, 1, [3]) := by decide +kernel
theorem r140_19 : am_at 140 19 = some (.iadd, 1, []) := by decide +kernel
theorem r140_20 : am_at 140 20 = some (.istore 4, 2, [4]) := by decide +kernel
theorem r140_22 : am_at 140 22 = some (.aload_n 0, 1, [0]) := by decide +kernel
theorem r140_23 : am_at 140 23 = some (.getfield 55, 3, [8, 22, 3, 1237]) := by decide +kernel
theorem r140_26 : am_at 140 26 = some (.iload_n 1, 1, [1]) := by decide +kernel
theorem r140_27 : am_at 140 27 = some (.iaload, 1, []) := by decide +kernel
theorem r140_28 : am_at 140 28 = some (.ifCond .eq (14), 3, [42]) := by decide +kernel
theorem r140_31 : am_at 140 31 = some (.iload 4, 2, [4]) := by decide +kernel
theorem r140_33 : am_at 140 33 = some (.aload_n 0, 1, [0]) := by decide +kernel
theorem r140_34 : am_at 140 34 = some (.getfield 40, 3, [8, 17, 3, 1232]) := by decide +kernel
theorem r140_37 : am_at 140 37 = some (.iload_n 1, 1, [1]) := by decide +kernel
theorem r140_38 : am_at 140 38 = some (.iaload, 1, []) := by decide +kernel
theorem r140_39 : am_at 140 39 = some (.if_icmp .le (34), 3, [73]) := by decide +kernel
theorem r140_42 : am_at 140 42 = some (.aload_n 0, 1, [0]) := by decide +kernel
theorem r140_43 : am_at 140 43 = some (.getfield 40, 3, [8, 17, 3, 1232]) := by decide +kernel
theorem r140_46 : am_at 140 46 = some (.iload_n 1, 1, [1]) := by decide +kernel
theorem r140_47 : am_at 140 47 = some (.iload 4, 2, [4]) := by decide +kernel
theorem r140_49 : am_at 140 49 = some (.iastore, 1, []) := by decide +kernel
theorem r140_50 : am_at 140 50 = some (.aload_n 0, 1, [0]) := by decide +kernel
theorem r140_51 : am_at 140 51 = some (.iload_n 1, 1, [1]) := by decide +kernel
theorem r140_52 : am_at 140 52 = some (.ifCond .ne (14), 3, [66]) := by decide +kernel
theorem r140_55 : am_at 140 55 = some (.aload_n 0, 1, [0]) := by decide +kernel
theorem r140_56 : am_at 140 56 = some (.getfield 37, 3, [8, 16, 3, 1231]) := by decide +kernel
theorem r140_59 : am_at 140 59 = some (.iconst (0), 1, []) := by decide +kernel
theorem r140_60 : am_at 140 60 = some (.iaload, 1, []) := by decide +kernel
theorem r140_61 : am_at 140 61 = some (.iconst (1), 1, []) := by decide +kernel
theorem r140_62 : am_at 140 62 = some (.isub, 1, []) := by decide +kernel
theorem r140_63 : am_at 140 63 = some (.goto (7), 3, [70]) := by decide +kernel
theorem r140_66 : am_at 140 66 = some (.aload_n 0, 1, [0]) := by decide +kernel
theorem r140_67 : am_at 140 67 = some (.getfield 279, 3, [8, 24, 0, 1239]) := by decide +kernel
theorem r140_70 : am_at 140 70 = some (.putfield 279, 3, [8, 24, 0, 1239]) := by decide +kernel
theorem r140_73 : am_at 140 73 = some (.aload_n 0, 1, [0]) := by decide +kernel
theorem r140_74 : am_at 140 74 = some (.getfield 55, 3, [8, 22, 3, 1237]) := by decide +kernel
theorem r140_77 : am_at 140 77 = some (.iload_n 1, 1, [1]) := by decide +kernel
theorem r140_78 : am_at 140 78 = some (.iconst (1), 1, []) := by decide +kernel
theorem r140_79 : am_at 140 79 = some (.iastore, 1, []) := by decide +kernel
theorem r140_80 : am_at 140 80 = some (.return_, 1, []) := by decide +kernel
theorem rt140 : am_rtt 140 = some (none) := by decide +kernel
set_option maxRecDepth 100000 in
theorem pg140 : am_pg[140]? = some am_m140 := rfl
theorem m140_w {d mc ms : Nat} {D : am_D} {v1 : Int32} {v2 : Int32} {v3 : Int32} {Q : am_O → am_AH → Prop} (hd : 1 ≤ d) {r : am_D} (h : m140 D v1 v2 v3 = some r) (hQ : Q (.inl none) (am_mk r)) : am_X xs L 140 d mc ms 0 [.ref 106, .int v1, .int v2, .int v3, am_dead] [] (am_mk D) 0 0 Q := by
  unfold m140 at h
  refine x_ld (v := .ref 106) r140_0 rfl rfl rfl ?_
  refine y_gf (cd := 117) (v := .ref 115) r140_1 rfl rfl rfl ?_
  refine x_ld (v := .ref 106) r140_4 rfl rfl rfl ?_
  refine y_gf (cd := 120) (v := .ref 118) r140_5 rfl rfl rfl ?_
  refine x_ld (v := .int v1) r140_8 rfl rfl rfl ?_
  obtain ⟨g1, h⟩ := am_gdE h
  refine y_ial (n := 64) r140_9 rfl (by decide) g1 rfl rfl ?_
  refine x_ld (v := .int v2) r140_10 rfl rfl rfl ?_
  obtain ⟨g4, h⟩ := am_gdE h
  obtain ⟨D2, e3, h⟩ := am_ltE h
  refine y_ias (n := 28) r140_11 rfl (by decide) g4 rfl e3 rfl ?_
  refine x_ld (v := .ref 106) r140_12 rfl rfl rfl ?_
  refine y_gf (cd := 121) (v := .ref 119) r140_13 rfl rfl rfl ?_
  refine x_ld (v := .int v1) r140_16 rfl rfl rfl ?_
  obtain ⟨g5, h⟩ := am_gdE h
  refine y_ial (n := 64) r140_17 rfl (by decide) g5 rfl rfl ?_
  refine x_ld (v := .int v3) r140_18 rfl rfl rfl ?_
  refine x_ar r140_19 rfl trivial rfl ?_
  obtain ⟨x6, e7, h⟩ := am_ltE h
  refine am_topI e7 ?_
  refine x_sto (lc' := [.ref 106, .int v1, .int v2, .int v3, .int x6]) r140_20 rfl rfl rfl rfl ?_
  refine x_ld (v := .ref 106) r140_22 rfl rfl rfl ?_
  refine y_gf (cd := 124) (v := .ref 122) r140_23 rfl rfl rfl ?_
  refine x_ld (v := .int v1) r140_26 rfl rfl rfl ?_
  obtain ⟨g8, h⟩ := am_gdE h
  refine y_ial (n := 64) r140_27 rfl (by decide) g8 rfl rfl ?_
  obtain ⟨q9, h11, h⟩ := Option.bind_eq_some_iff.mp h
  have kj10 : am_X xs L 140 d mc ms 73 [.ref 106, .int v1, .int v2, .int v3, .int x6] [] (am_mk q9) 0 0 Q := by
    refine x_ld (v := .ref 106) r140_73 rfl rfl rfl ?_
    refine y_gf (cd := 124) (v := .ref 122) r140_74 rfl rfl rfl ?_
    refine x_ld (v := .int v1) r140_77 rfl rfl rfl ?_
    refine x_ic (v := 1) r140_78 rfl rfl ?_
    obtain ⟨g35, h⟩ := am_gdE h
    obtain ⟨D33, e34, h⟩ := am_ltE h
    refine y_ias (n := 64) r140_79 rfl (by decide) g35 rfl e34 rfl ?_
    cases h
    exact x_ret (ret := none) (C := True) (v := none) r140_80 rt140 rfl rfl rfl rfl rfl rfl rfl rfl trivial hQ
  rcases am_ifE h11 with ⟨c12, h11⟩ | ⟨c12, h11⟩
  · refine x_ifeqT r140_28 c12 ?_
    refine x_ld (v := .ref 106) r140_42 rfl rfl rfl ?_
    refine y_gf (cd := 119) (v := .ref 117) r140_43 rfl rfl rfl ?_
    refine x_ld (v := .int v1) r140_46 rfl rfl rfl ?_
    refine x_ld (v := .int x6) r140_47 rfl rfl rfl ?_
    obtain ⟨g15, h11⟩ := am_gdE h11
    obtain ⟨D13, e14, h11⟩ := am_ltE h11
    refine y_ias (n := 64) r140_49 rfl (by decide) g15 rfl e14 rfl ?_
    refine x_ld (v := .ref 106) r140_50 rfl rfl rfl ?_
    refine x_ld (v := .int v1) r140_51 rfl rfl rfl ?_
    obtain ⟨q16, h18, h11⟩ := am_ltE h11
    replace h18 := h18.symm
    have kj17 : am_X xs L 140 d mc ms 70 [.ref 106, .int v1, .int v2, .int v3, .int x6] [.int q16, .ref 106] (am_mk D13) 0 0 Q := by
      obtain ⟨D20, e21, h11⟩ := am_ltE h11
      refine y_pf0 r140_70 rfl e21 rfl ?_
      cases h11
      exact kj10
    rcases am_ifE h18 with ⟨c19, h18⟩ | ⟨c19, h18⟩
    · refine x_ifneT r140_52 c19 rfl ?_
      refine x_ld (v := .ref 106) r140_55 rfl rfl rfl ?_
      refine y_gf (cd := 118) (v := .ref 116) r140_56 rfl rfl rfl ?_
      refine x_ic (v := 0) r140_59 rfl rfl ?_
      refine y_ial (n := 64) r140_60 rfl (by decide) (by decide) (e := 0) (by decide) rfl ?_
      refine x_ic (v := 1) r140_61 rfl rfl ?_
      refine x_ar r140_62 rfl trivial rfl ?_
      refine x_goto r140_63 ?_
      subst h18
      exact kj17
    · refine x_ifneF r140_52 c19 ?_
      refine x_ld (v := .ref 106) r140_66 rfl rfl rfl ?_
      refine y_gf (cd := 0) (v := .int (D13.1 106 24)) r140_67 rfl rfl rfl ?_
      subst h18
      exact kj17
  · refine x_ifeqF r140_28 c12 rfl ?_
    refine x_ld (v := .int x6) r140_31 rfl rfl rfl ?_
    refine x_ld (v := .ref 106) r140_33 rfl rfl rfl ?_
    refine y_gf (cd := 119) (v := .ref 117) r140_34 rfl rfl rfl ?_
    refine x_ld (v := .int v1) r140_37 rfl rfl rfl ?_
    obtain ⟨g22, h11⟩ := am_gdE h11
    refine y_ial (n := 64) r140_38 rfl (by decide) g22 rfl rfl ?_
    rcases am_ifE h11 with ⟨c23, h11⟩ | ⟨c23, h11⟩
    · refine x_icleT r140_39 c23 ?_
      cases h11
      exact kj10
    · refine x_icleF r140_39 c23 rfl ?_
      refine x_ld (v := .ref 106) r140_42 rfl rfl rfl ?_
      refine y_gf (cd := 119) (v := .ref 117) r140_43 rfl rfl rfl ?_
      refine x_ld (v := .int v1) r140_46 rfl rfl rfl ?_
      refine x_ld (v := .int x6) r140_47 rfl rfl rfl ?_
      obtain ⟨g26, h11⟩ := am_gdE h11
      obtain ⟨D24, e25, h11⟩ := am_ltE h11
      refine y_ias (n := 64) r140_49 rfl (by decide) g26 rfl e25 rfl ?_
      refine x_ld (v := .ref 106) r140_50 rfl rfl rfl ?_
      refine x_ld (v := .int v1) r140_51 rfl rfl rfl ?_
      obtain ⟨q27, h29, h11⟩ := am_ltE h11
      replace h29 := h29.symm
      have kj28 : am_X xs L 140 d mc ms 70 [.ref 106, .int v1, .int v2, .int v3, .int x6] [.int q27, .ref 106] (am_mk D24) 0 0 Q := by
        obtain ⟨D31, e32, h11⟩ := am_ltE h11
        refine y_pf0 r140_70 rfl e32 rfl ?_
        cases h11
        exact kj10
      rcases am_ifE h29 with ⟨c30, h29⟩ | ⟨c30, h29⟩
      · refine x_ifneT r140_52 c30 rfl ?_
        refine x_ld (v := .ref 106) r140_55 rfl rfl rfl ?_
        refine y_gf (cd := 118) (v := .ref 116) r140_56 rfl rfl rfl ?_
        refine x_ic (v := 0) r140_59 rfl rfl ?_
        refine y_ial (n := 64) r140_60 rfl (by decide) (by decide) (e := 0) (by decide) rfl ?_
        refine x_ic (v := 1) r140_61 rfl rfl ?_
        refine x_ar r140_62 rfl trivial rfl ?_
        refine x_goto r140_63 ?_
        subst h29
        exact kj28
      · refine x_ifneF r140_52 c30 ?_
        refine x_ld (v := .ref 106) r140_66 rfl rfl rfl ?_
        refine y_gf (cd := 0) (v := .int (D24.1 106 24)) r140_67 rfl rfl rfl ?_
        subst h29
        exact kj28
theorem m140_ok {D : am_D} {v1 : Int32} {v2 : Int32} {v3 : Int32} {r : am_D} (h : m140 D v1 v2 v3 = some r) : am_Y xs L 140 1 0 0 [.ref 106, .int v1, .int v2, .int v3] D (.inl none) r := am_Yof (mi := am_m140) (lc := [.ref 106, .int v1, .int v2, .int v3, am_dead]) pg140 (Nat.le_of_ble_eq_true rfl) (am_rc1 (ci := 8) rfl rfl rfl rfl rfl) rfl (fun Q hQ => m140_w (Nat.le_refl _) h hQ)
theorem r141_0 : am_at 141 0 = some (.iconst (0), 1, []) := by decide +kernel
theorem r141_1 : am_at 141 1 = some (.istore_n 1, 1, [1]) := by decide +kernel
theorem r141_2 : am_at 141 2 = some (.iload_n 1, 1, [1]) := by decide +kernel
theorem r141_3 : am_at 141 3 = some (.bipush (28), 2, []) := by decide +kernel
theorem r141_5 : am_at 141 5 = some (.if_icmp .ge (24), 3, [29]) := by decide +kernel
theorem r141_8 : am_at 141 8 = some (.aload_n 0, 1, [0]) := by decide +kernel
theorem r141_9 : am_at 141 9 = some (.getfield 34, 3, [8, 15, 3, 1230]) := by decide +kernel
theorem r141_12 : am_at 141 12 = some (.iload_n 1, 1, [1]) := by decide +kernel
theorem r141_13 : am_at 141 13 = some (.aload_n 0, 1, [0]) := by decide +kernel
theorem r141_14 : am_at 141 14 = some (.getfield 7, 3, [8, 1, 3, 1216]) := by decide +kernel
theorem r141_17 : am_at 141 17 = some (.bipush (25), 2, []) := by decide +kernel
theorem r141_19 : am_at 141 19 = some (.iload_n 1, 1, [1]) := by decide +kernel
theorem r141_20 : am_at 141 20 = some (.iadd, 1, []) := by decide +kernel
theorem r141_21 : am_at 141 21 = some (.iaload, 1, []) := by decide +kernel
theorem r141_22 : am_at 141 22 = some (.iastore, 1, []) := by decide +kernel
theorem r141_23 : am_at 141 23 = some (.iinc 1 (1), 3, [1]) := by decide +kernel
theorem r141_26 : am_at 141 26 = some (.goto (-24), 3, [2]) := by decide +kernel
theorem r141_29 : am_at 141 29 = some (.aload_n 0, 1, [0]) := by decide +kernel
theorem r141_30 : am_at 141 30 = some (.getfield 49, 3, [8, 20, 3, 1235]) := by decide +kernel
theorem r141_33 : am_at 141 33 = some (.iconst (0), 1, []) := by decide +kernel
theorem r141_34 : am_at 141 34 = some (.aload_n 0, 1, [0]) := by decide +kernel
theorem r141_35 : am_at 141 35 = some (.iconst (0), 1, []) := by decide +kernel
theorem r141_36 : am_at 141 36 = some (.invokevirtual 269, 3, [132, 2, 1640, 0]) := by decide +kernel
theorem r141_39 : am_at 141 39 = some (.iastore, 1, []) := by decide +kernel
theorem r141_40 : am_at 141 40 = some (.aload_n 0, 1, [0]) := by decide +kernel
theorem r141_41 : am_at 141 41 = some (.getfield 52, 3, [8, 21, 3, 1236]) := by decide +kernel
theorem r141_44 : am_at 141 44 = some (.iconst (0), 1, []) := by decide +kernel
theorem r141_45 : am_at 141 45 = some (.aload_n 0, 1, [0]) := by decide +kernel
theorem r141_46 : am_at 141 46 = some (.iconst (1), 1, []) := by decide +kernel
theorem r141_47 : am_at 141 47 = some (.invokevirtual 269, 3, [132, 2, 1640, 0]) := by decide +kernel
theorem r141_50 : am_at 141 50 = some (.iastore, 1, []) := by decide +kernel
theorem r141_51 : am_at 141 51 = some (.aload_n 0, 1, [0]) := by decide +kernel
theorem r141_52 : am_at 141 52 = some (.getfield 58, 3, [8, 23, 3, 1238]) := by decide +kernel
theorem r141_55 : am_at 141 55 = some (.iconst (0), 1, []) := by decide +kernel
theorem r141_56 : am_at 141 56 = some (.aload_n 0, 1, [0]) := by decide +kernel
theorem r141_57 : am_at 141 57 = some (.getfield 7, 3, [8, 1, 3, 1216]) := by decide +kernel
theorem r141_60 : am_at 141 60 = some (.iconst (4), 1, []) := by decide +kernel
theorem r141_61 : am_at 141 61 = some (.iaload, 1, []) := by decide +kernel
theorem r141_62 : am_at 141 62 = some (.iastore, 1, []) := by decide +kernel
theorem r141_63 : am_at 141 63 = some (.aload_n 0, 1, [0]) := by decide +kernel
theorem r141_64 : am_at 141 64 = some (.iconst (-1), 1, []) := by decide +kernel
theorem r141_65 : am_at 141 65 = some (.putfield 279, 3, [8, 24, 0, 1239]) := by decide +kernel
theorem r141_68 : am_at 141 68 = some (.iconst (0), 1, []) := by decide +kernel
theorem r141_69 : am_at 141 69 = some (.istore_n 1, 1, [1]) := by decide +kernel
theorem r141_70 : am_at 141 70 = some (.aload_n 0, 1, [0]) := by decide +kernel
theorem r141_71 : am_at 141 71 = some (.iconst (0), 1, []) := by decide +kernel
theorem r141_72 : am_at 141 72 = some (.invokevirtual 282, 3, [139, 2, 1663, 0]) := by decide +kernel
theorem r141_75 : am_at 141 75 = some (.aload_n 0, 1, [0]) := by decide +kernel
theorem r141_76 : am_at 141 76 = some (.getfield 7, 3, [8, 1, 3, 1216]) := by decide +kernel
theorem r141_79 : am_at 141 79 = some (.iconst (1), 1, []) := by decide +kernel
theorem r141_80 : am_at 141 80 = some (.iaload, 1, []) := by decide +kernel
theorem r141_81 : am_at 141 81 = some (.iload_n 1, 1, [1]) := by decide +kernel
theorem r141_82 : am_at 141 82 = some (.iadd, 1, []) := by decide +kernel
theorem r141_83 : am_at 141 83 = some (.iconst (4), 1, []) := by decide +kernel
theorem r141_84 : am_at 141 84 = some (.irem, 1, []) := by decide +kernel
theorem r141_85 : am_at 141 85 = some (.istore_n 2, 1, [2]) := by decide +kernel
theorem r141_86 : am_at 141 86 = some (.iconst (0), 1, []) := by decide +kernel
theorem r141_87 : am_at 141 87 = some (.istore_n 3, 1, [3]) := by decide +kernel
theorem r141_88 : am_at 141 88 = some (.iconst (0), 1, []) := by decide +kernel
theorem r141_89 : am_at 141 89 = some (.istore 4, 2, [4]) := by decide +kernel
theorem r141_91 : am_at 141 91 = some (.aload_n 0, 1, [0]) := by decide +kernel
theorem r141_92 : am_at 141 92 = some (.iload_n 1, 1, [1]) := by decide +kernel
theorem r141_93 : am_at 141 93 = some (.iload_n 2, 1, [2]) := by decide +kernel
theorem r141_94 : am_at 141 94 = some (.invokevirtual 286, 3, [138, 3, 1667, 0]) := by decide +kernel
theorem r141_97 : am_at 141 97 = some (.ifCond .eq (60), 3, [157]) := by decide +kernel
theorem r141_100 : am_at 141 100 = some (.aload_n 0, 1, [0]) := by decide +kernel
theorem r141_101 : am_at 141 101 = some (.iload_n 2, 1, [2]) := by decide +kernel
theorem r141_102 : am_at 141 102 = some (.invokevirtual 289, 3, [137, 2, 1671, 0]) := by decide +kernel
theorem r141_105 : am_at 141 105 = some (.ifCond .eq (41), 3, [146]) := by decide +kernel
theorem r141_108 : am_at 141 108 = some (.aload_n 0, 1, [0]) := by decide +kernel
theorem r141_109 : am_at 141 109 = some (.iconst (0), 1, []) := by decide +kernel
theorem r141_110 : am_at 141 110 = some (.invokevirtual 292, 3, [136, 2, 1675, 0]) := by decide +kernel
theorem r141_113 : am_at 141 113 = some (.aload_n 0, 1, [0]) := by decide +kernel
theorem r141_114 : am_at 141 114 = some (.iconst (1), 1, []) := by decide +kernel
theorem r141_115 : am_at 141 115 = some (.invokevirtual 292, 3, [136, 2, 1675, 0]) := by decide +kernel
theorem r141_118 : am_at 141 118 = some (.iadd, 1, []) := by decide +kernel
theorem r141_119 : am_at 141 119 = some (.aload_n 0, 1, [0]) := by decide +kernel
theorem r141_120 : am_at 141 120 = some (.iconst (2), 1, []) := by decide +kernel
theorem r141_121 : am_at 141 121 = some (.invokevirtual 292, 3, [136, 2, 1675, 0]) := by decide +kernel
theorem r141_124 : am_at 141 124 = some (.iadd, 1, []) := by decide +kernel
theorem r141_125 : am_at 141 125 = some (.aload_n 0, 1, [0]) := by decide +kernel
theorem r141_126 : am_at 141 126 = some (.iconst (3), 1, []) := by decide +kernel
theorem r141_127 : am_at 141 127 = some (.invokevirtual 292, 3, [136, 2, 1675, 0]) := by decide +kernel
theorem r141_130 : am_at 141 130 = some (.iadd, 1, []) := by decide +kernel
theorem r141_131 : am_at 141 131 = some (.istore 5, 2, [5]) := by decide +kernel
theorem r141_133 : am_at 141 133 = some (.aload_n 0, 1, [0]) := by decide +kernel
theorem r141_134 : am_at 141 134 = some (.iload_n 1, 1, [1]) := by decide +kernel
theorem r141_135 : am_at 141 135 = some (.iload_n 2, 1, [2]) := by decide +kernel
theorem r141_136 : am_at 141 136 = some (.iload 5, 2, [5]) := by decide +kernel
theorem r141_138 : am_at 141 138 = some (.iconst (5), 1, []) := by decide +kernel
theorem r141_139 : am_at 141 139 = some (.idiv, 1, []) := by decide +kernel
theorem r141_140 : am_at 141 140 = some (.invokevirtual 295, 3, [140, 4, 1679, 0]) := by decide +kernel
theorem r141_143 : am_at 141 143 = some (.goto (168), 3, [311]) := by decide +kernel
theorem r141_146 : am_at 141 146 = some (.iinc 1 (1), 3, [1]) := by decide +kernel
theorem r141_149 : am_at 141 149 = some (.aload_n 0, 1, [0]) := by decide +kernel
theorem r141_150 : am_at 141 150 = some (.iload_n 1, 1, [1]) := by decide +kernel
theorem r141_151 : am_at 141 151 = some (.invokevirtual 282, 3, [139, 2, 1663, 0]) := by decide +kernel
theorem r141_154 : am_at 141 154 = some (.goto (157), 3, [311]) := by decide +kernel
theorem r141_157 : am_at 141 157 = some (.aload_n 0, 1, [0]) := by decide +kernel
theorem r141_158 : am_at 141 158 = some (.getfield 55, 3, [8, 22, 3, 1237]) := by decide +kernel
theorem r141_161 : am_at 141 161 = some (.iload_n 1, 1, [1]) := by decide +kernel
theorem r141_162 : am_at 141 162 = some (.iaload, 1, []) := by decide +kernel
theorem r141_163 : am_at 141 163 = some (.iconst (1), 1, []) := by decide +kernel
theorem r141_164 : am_at 141 164 = some (.if_icmp .ne (16), 3, [180]) := by decide +kernel
theorem r141_167 : am_at 141 167 = some (.aload_n 0, 1, [0]) := by decide +kernel
theorem r141_168 : am_at 141 168 = some (.getfield 40, 3, [8, 17, 3, 1232]) := by decide +kernel
theorem r141_171 : am_at 141 171 = some (.iload_n 1, 1, [1]) := by decide +kernel
theorem r141_172 : am_at 141 172 = some (.iaload, 1, []) := by decide +kernel
theorem r141_173 : am_at 141 173 = some (.istore_n 3, 1, [3]) := by decide +kernel
theorem r141_174 : am_at 141 174 = some (.iconst (1), 1, []) := by decide +kernel
theorem r141_175 : am_at 141 175 = some (.istore 4, 2, [4]) := by decide +kernel
theorem r141_177 : am_at 141 177 = some (.goto (134), 3, [311]) := by decide +kernel
theorem r141_180 : am_at 141 180 = some (.aload_n 0, 1, [0]) := by decide +kernel
theorem r141_181 : am_at 141 181 = some (.getfield 58, 3, [8, 23, 3, 1238]) := by decide +kernel
theorem r141_184 : am_at 141 184 = some (.iload_n 1, 1, [1]) := by decide +kernel
theorem r141_185 : am_at 141 185 = some (.iaload, 1, []) := by decide +kernel
theorem r141_186 : am_at 141 186 = some (.iconst (3), 1, []) := by decide +kernel
theorem r141_187 : am_at 141 187 = some (.if_icmp .ne (65), 3, [252]) := by decide +kernel
theorem r141_190 : am_at 141 190 = some (.aload_n 0, 1, [0]) := by decide +kernel
theorem r141_191 : am_at 141 191 = some (.iload_n 2, 1, [2]) := by decide +kernel
theorem r141_192 : am_at 141 192 = some (.iconst (1), 1, []) := by decide +kernel
theorem r141_193 : am_at 141 193 = some (.iadd, 1, []) := by decide +kernel
theorem r141_194 : am_at 141 194 = some (.iconst (4), 1, []) := by decide +kernel
theorem r141_195 : am_at 141 195 = some (.irem, 1, []) := by decide +kernel
theorem r141_196 : am_at 141 196 = some (.invokevirtual 292, 3, [136, 2, 1675, 0]) := by decide +kernel
theorem r141_199 : am_at 141 199 = some (.aload_n 0, 1, [0]) := by decide +kernel
theorem r141_200 : am_at 141 200 = some (.iload_n 2, 1, [2]) := by decide +kernel
theorem r141_201 : am_at 141 201 = some (.iconst (3), 1, []) := by decide +kernel
theorem r141_202 : am_at 141 202 = some (.iadd, 1, []) := by decide +kernel
theorem r141_203 : am_at 141 203 = some (.iconst (4), 1, []) := by decide +kernel
theorem r141_204 : am_at 141 204 = some (.irem, 1, []) := by decide +kernel
theorem r141_205 : am_at 141 205 = some (.invokevirtual 292, 3, [136, 2, 1675, 0]) := by decide +kernel
theorem r141_208 : am_at 141 208 = some (.iadd, 1, []) := by decide +kernel
theorem r141_209 : am_at 141 209 = some (.aload_n 0, 1, [0]) := by decide +kernel
theorem r141_210 : am_at 141 210 = some (.iload_n 2, 1, [2]) := by decide +kernel
theorem r141_211 : am_at 141 211 = some (.invokevirtual 292, 3, [136, 2, 1675, 0]) := by decide +kernel
theorem r141_214 : am_at 141 214 = some (.isub, 1, []) := by decide +kernel
theorem r141_215 : am_at 141 215 = some (.aload_n 0, 1, [0]) := by decide +kernel
theorem r141_216 : am_at 141 216 = some (.iload_n 2, 1, [2]) := by decide +kernel
theorem r141_217 : am_at 141 217 = some (.iconst (2), 1, []) := by decide +kernel
theorem r141_218 : am_at 141 218 = some (.iadd, 1, []) := by decide +kernel
theorem r141_219 : am_at 141 219 = some (.iconst (4), 1, []) := by decide +kernel
theorem r141_220 : am_at 141 220 = some (.irem, 1, []) := by decide +kernel
theorem r141_221 : am_at 141 221 = some (.invokevirtual 292, 3, [136, 2, 1675, 0]) := by decide +kernel
theorem r141_224 : am_at 141 224 = some (.isub, 1, []) := by decide +kernel
theorem r141_225 : am_at 141 225 = some (.istore 5, 2, [5]) := by decide +kernel
theorem r141_227 : am_at 141 227 = some (.iload 5, 2, [5]) := by decide +kernel
theorem r141_229 : am_at 141 229 = some (.ifCond .ge (12), 3, [241]) := by decide +kernel
theorem r141_232 : am_at 141 232 = some (.iload 5, 2, [5]) := by decide +kernel
theorem r141_234 : am_at 141 234 = some (.ineg, 1, []) := by decide +kernel
theorem r141_235 : am_at 141 235 = some (.iconst (5), 1, []) := by decide +kernel
theorem r141_236 : am_at 141 236 = some (.idiv, 1, []) := by decide +kernel
theorem r141_237 : am_at 141 237 = some (.ineg, 1, []) := by decide +kernel
theorem r141_238 : am_at 141 238 = some (.goto (7), 3, [245]) := by decide +kernel
theorem r141_241 : am_at 141 241 = some (.iload 5, 2, [5]) := by decide +kernel
theorem r141_243 : am_at 141 243 = some (.iconst (5), 1, []) := by decide +kernel
theorem r141_244 : am_at 141 244 = some (.idiv, 1, []) := by decide +kernel
theorem r141_245 : am_at 141 245 = some (.istore_n 3, 1, [3]) := by decide +kernel
theorem r141_246 : am_at 141 246 = some (.iconst (1), 1, []) := by decide +kernel
theorem r141_247 : am_at 141 247 = some (.istore 4, 2, [4]) := by decide +kernel
theorem r141_249 : am_at 141 249 = some (.goto (62), 3, [311]) := by decide +kernel
theorem r141_252 : am_at 141 252 = some (.aload_n 0, 1, [0]) := by decide +kernel
theorem r141_253 : am_at 141 253 = some (.getfield 43, 3, [8, 18, 3, 1233]) := by decide +kernel
theorem r141_256 : am_at 141 256 = some (.iload_n 1, 1, [1]) := by decide +kernel
theorem r141_257 : am_at 141 257 = some (.iconst (-1), 1, []) := by decide +kernel
theorem r141_258 : am_at 141 258 = some (.iastore, 1, []) := by decide +kernel
theorem r141_259 : am_at 141 259 = some (.aload_n 0, 1, [0]) := by decide +kernel
theorem r141_260 : am_at 141 260 = some (.getfield 49, 3, [8, 20, 3, 1235]) := by decide +kernel
theorem r141_263 : am_at 141 263 = some (.iload_n 1, 1, [1]) := by decide +kernel
theorem r141_264 : am_at 141 264 = some (.iconst (1), 1, []) := by decide +kernel
theorem r141_265 : am_at 141 265 = some (.iadd, 1, []) := by decide +kernel
theorem r141_266 : am_at 141 266 = some (.aload_n 0, 1, [0]) := by decide +kernel
theorem r141_267 : am_at 141 267 = some (.getfield 49, 3, [8, 20, 3, 1235]) := by decide +kernel
theorem r141_270 : am_at 141 270 = some (.iload_n 1, 1, [1]) := by decide +kernel
theorem r141_271 : am_at 141 271 = some (.iaload, 1, []) := by decide +kernel
theorem r141_272 : am_at 141 272 = some (.iastore, 1, []) := by decide +kernel
theorem r141_273 : am_at 141 273 = some (.aload_n 0, 1, [0]) := by decide +kernel
theorem r141_274 : am_at 141 274 = some (.getfield 52, 3, [8, 21, 3, 1236]) := by decide +kernel
theorem r141_277 : am_at 141 277 = some (.iload_n 1, 1, [1]) := by decide +kernel
theorem r141_278 : am_at 141 278 = some (.iconst (1), 1, []) := by decide +kernel
theorem r141_279 : am_at 141 279 = some (.iadd, 1, []) := by decide +kernel
theorem r141_280 : am_at 141 280 = some (.aload_n 0, 1, [0]) := by decide +kernel
theorem r141_281 : am_at 141 281 = some (.getfield 52, 3, [8, 21, 3, 1236]) := by decide +kernel
theorem r141_284 : am_at 141 284 = some (.iload_n 1, 1, [1]) := by decide +kernel
theorem r141_285 : am_at 141 285 = some (.iaload, 1, []) := by decide +kernel
theorem r141_286 : am_at 141 286 = some (.iastore, 1, []) := by decide +kernel
theorem r141_287 : am_at 141 287 = some (.aload_n 0, 1, [0]) := by decide +kernel
theorem r141_288 : am_at 141 288 = some (.getfield 58, 3, [8, 23, 3, 1238]) := by decide +kernel
theorem r141_291 : am_at 141 291 = some (.iload_n 1, 1, [1]) := by decide +kernel
theorem r141_292 : am_at 141 292 = some (.iconst (1), 1, []) := by decide +kernel
theorem r141_293 : am_at 141 293 = some (.iadd, 1, []) := by decide +kernel
theorem r141_294 : am_at 141 294 = some (.aload_n 0, 1, [0]) := by decide +kernel
theorem r141_295 : am_at 141 295 = some (.getfield 58, 3, [8, 23, 3, 1238]) := by decide +kernel
theorem r141_298 : am_at 141 298 = some (.iload_n 1, 1, [1]) := by decide +kernel
theorem r141_299 : am_at 141 299 = some (.iaload, 1, []) := by decide +kernel
theorem r141_300 : am_at 141 300 = some (.iconst (1), 1, []) := by decide +kernel
theorem r141_301 : am_at 141 301 = some (.iadd, 1, []) := by decide +kernel
theorem r141_302 : am_at 141 302 = some (.iastore, 1, []) := by decide +kernel
theorem r141_303 : am_at 141 303 = some (.iinc 1 (1), 3, [1]) := by decide +kernel
theorem r141_306 : am_at 141 306 = some (.aload_n 0, 1, [0]) := by decide +kernel
theorem r141_307 : am_at 141 307 = some (.iload_n 1, 1, [1]) := by decide +kernel
theorem r141_308 : am_at 141 308 = some (.invokevirtual 282, 3, [139, 2, 1663, 0]) := by decide +kernel
theorem r141_311 : am_at 141 311 = some (.iload 4, 2, [4]) := by decide +kernel
theorem r141_313 : am_at 141 313 = some (.ifCond .eq (56), 3, [369]) := by decide +kernel
theorem r141_316 : am_at 141 316 = some (.iload_n 1, 1, [1]) := by decide +kernel
theorem r141_317 : am_at 141 317 = some (.ifCond .ne (5), 3, [322]) := by decide +kernel
theorem r141_320 : am_at 141 320 = some (.iload_n 3, 1, [3]) := by decide +kernel
theorem r141_321 : am_at 141 321 = some (.ireturn, 1, []) := by decide +kernel
theorem r141_322 : am_at 141 322 = some (.iinc 1 (-1), 3, [1]) := by decide +kernel
theorem r141_325 : am_at 141 325 = some (.iload_n 3, 1, [3]) := by decide +kernel
theorem r141_326 : am_at 141 326 = some (.ineg, 1, []) := by decide +kernel
theorem r141_327 : am_at 141 327 = some (.istore_n 3, 1, [3]) := by decide +kernel
theorem r141_328 : am_at 141 328 = some (.aload_n 0, 1, [0]) := by decide +kernel
theorem r141_329 : am_at 141 329 = some (.getfield 43, 3, [8, 18, 3, 1233]) := by decide +kernel
theorem r141_332 : am_at 141 332 = some (.iload_n 1, 1, [1]) := by decide +kernel
theorem r141_333 : am_at 141 333 = some (.iaload, 1, []) := by decide +kernel
theorem r141_334 : am_at 141 334 = some (.iconst (-1), 1, []) := by decide +kernel
theorem r141_335 : am_at 141 335 = some (.if_icmp .ne (7), 3, [342]) := by decide +kernel
theorem r141_338 : am_at 141 338 = some (.iconst (1), 1, []) := by decide +kernel
theorem r141_339 : am_at 141 339 = some (.goto (4), 3, [343]) := by decide +kernel
theorem r141_342 : am_at 141 342 = some (.iconst (0), 1, []) := by decide +kernel
theorem r141_343 : am_at 141 343 = some (.istore 4, 2, [4]) := by decide +kernel
theorem r141_345 : am_at 141 345 = some (.iload 4, 2, [4]) := by decide +kernel
theorem r141_347 : am_at 141 347 = some (.ifCond .ne (-36), 3, [311]) := by decide +kernel
theorem r141_350 : am_at 141 350 = some (.aload_n 0, 1, [0]) := by decide +kernel
theorem r141_351 : am_at 141 351 = some (.iload_n 1, 1, [1]) := by decide +kernel
theorem r141_352 : am_at 141 352 = some (.aload_n 0, 1, [0]) := by decide +kernel
theorem r141_353 : am_at 141 353 = some (.getfield 7, 3, [8, 1, 3, 1216]) := by decide +kernel
theorem r141_356 : am_at 141 356 = some (.iconst (1), 1, []) := by decide +kernel
theorem r141_357 : am_at 141 357 = some (.iaload, 1, []) := by decide +kernel
theorem r141_358 : am_at 141 358 = some (.iload_n 1, 1, [1]) := by decide +kernel
theorem r141_359 : am_at 141 359 = some (.iadd, 1, []) := by decide +kernel
theorem r141_360 : am_at 141 360 = some (.iconst (4), 1, []) := by decide +kernel
theorem r141_361 : am_at 141 361 = some (.irem, 1, []) := by decide +kernel
theorem r141_362 : am_at 141 362 = some (.iload_n 3, 1, [3]) := by decide +kernel
theorem r141_363 : am_at 141 363 = some (.invokevirtual 295, 3, [140, 4, 1679, 0]) := by decide +kernel
theorem r141_366 : am_at 141 366 = some (.goto (-55), 3, [311]) := by decide +kernel
theorem r141_369 : am_at 141 369 = some (.goto (-294), 3, [75]) := by decide +kernel
theorem rt141 : am_rtt 141 = some (some .int) := by decide +kernel
set_option maxRecDepth 100000 in
theorem pg141 : am_pg[141]? = some am_m141 := rfl
theorem m141_L2_w {d : Nat} {N : Nat} {mc ms : Nat} {Q : am_O → am_AH → Prop} (hd : 5 ≤ d) : ∀ (n : Nat) (D : am_D) (v1 : Int32) {q : am_D} (h : m141_L2 N  n D v1 = some q) (k0 : am_X xs L 141 d mc ms 29 [.ref 106, am_dead, am_dead, am_dead, am_dead, am_dead] [] (am_mk q) 0 0 Q), am_X xs L 141 d mc ms 2 [.ref 106, .int v1, am_dead, am_dead, am_dead, am_dead] [] (am_mk D) 0 0 Q := by
  intro n
  induction n with
  | zero =>
    intro D v1 q h k0
    exact (nomatch (show none = some q from h))
  | succ n ih =>
    intro D v1 q h k0
    rw [m141_L2] at h
    refine x_ld (v := .int v1) r141_2 rfl rfl rfl ?_
    refine x_bi (v := 28) r141_3 rfl rfl ?_
    rcases am_ifE h with ⟨c1, h⟩ | ⟨c1, h⟩
    · refine x_icgeT r141_5 c1 ?_
      refine x_forget (lc0 := [.ref 106, am_dead, am_dead, am_dead, am_dead, am_dead]) ⟨Or.inl rfl, Or.inr ⟨rfl, rfl⟩, Or.inl rfl, Or.inl rfl, Or.inl rfl, Or.inl rfl, trivial⟩ ?_
      cases h
      exact k0
    · refine x_icgeF r141_5 c1 rfl ?_
      refine x_ld (v := .ref 106) r141_8 rfl rfl rfl ?_
      refine y_gf (cd := 117) (v := .ref 115) r141_9 rfl rfl rfl ?_
      refine x_ld (v := .int v1) r141_12 rfl rfl rfl ?_
      refine x_ld (v := .ref 106) r141_13 rfl rfl rfl ?_
      refine y_gf (cd := 109) (v := .ref 107) r141_14 rfl rfl rfl ?_
      refine x_bi (v := 25) r141_17 rfl rfl ?_
      refine x_ld (v := .int v1) r141_19 rfl rfl rfl ?_
      refine x_ar r141_20 rfl trivial rfl ?_
      obtain ⟨g2, h⟩ := am_gdE h
      refine y_ial (n := 1320) r141_21 rfl (by decide) g2 rfl rfl ?_
      obtain ⟨g5, h⟩ := am_gdE h
      obtain ⟨D3, e4, h⟩ := am_ltE h
      refine y_ias (n := 28) r141_22 rfl (by decide) g5 rfl e4 rfl ?_
      obtain ⟨x6, e7, h⟩ := am_ltE h
      refine x_sto (lc' := [.ref 106, .int x6, am_dead, am_dead, am_dead, am_dead]) r141_23 rfl rfl (by subst e7; rfl) rfl ?_
      refine x_goto r141_26 ?_
      exact x_forget (lc0 := [.ref 106, .int x6, am_dead, am_dead, am_dead, am_dead]) ⟨Or.inl rfl, Or.inl rfl, Or.inl rfl, Or.inl rfl, Or.inl rfl, Or.inl rfl, trivial⟩ (ih D3 x6 h k0)
theorem m141_L311_w {d : Nat} {N : Nat} {mc ms : Nat} {Q : am_O → am_AH → Prop} (hd : 5 ≤ d) : ∀ (n : Nat) (D : am_D) (v1 : Int32) (v3 : Int32) (v4 : Int32) {q : Nat × Int32 × Int32 × am_D} (h : m141_L311 N  n D v1 v3 v4 = some q) (k0 : q.1 = 0 → am_X xs L 141 d mc ms 369 [.ref 106, .int q.2.1, am_dead, am_dead, am_dead, am_dead] [] (am_mk q.2.2.2) 0 0 Q) (k1 : q.1 = 1 → am_X xs L 141 d mc ms 320 [.ref 106, am_dead, am_dead, .int q.2.2.1, am_dead, am_dead] [] (am_mk q.2.2.2) 0 0 Q), am_X xs L 141 d mc ms 311 [.ref 106, .int v1, am_dead, .int v3, .int v4, am_dead] [] (am_mk D) 0 0 Q := by
  intro n
  induction n with
  | zero =>
    intro D v1 v3 v4 q h k0 k1
    exact (nomatch (show none = some q from h))
  | succ n ih =>
    intro D v1 v3 v4 q h k0 k1
    rw [m141_L311] at h
    refine x_ld (v := .int v4) r141_311 rfl rfl rfl ?_
    rcases am_ifE h with ⟨c91, h⟩ | ⟨c91, h⟩
    · refine x_ifeqT r141_313 c91 ?_
      refine x_forget (lc0 := [.ref 106, .int v1, am_dead, am_dead, am_dead, am_dead]) ⟨Or.inl rfl, Or.inl rfl, Or.inl rfl, Or.inr ⟨rfl, rfl⟩, Or.inr ⟨rfl, rfl⟩, Or.inl rfl, trivial⟩ ?_
      cases h
      exact k0 rfl
    · refine x_ifeqF r141_313 c91 rfl ?_
      refine x_ld (v := .int v1) r141_316 rfl rfl rfl ?_
      rcases am_ifE h with ⟨c92, h⟩ | ⟨c92, h⟩
      · refine x_ifneT r141_317 c92 rfl ?_
        refine x_forget (lc0 := [.ref 106, am_dead, am_dead, .int v3, am_dead, am_dead]) ⟨Or.inl rfl, Or.inr ⟨rfl, rfl⟩, Or.inl rfl, Or.inl rfl, Or.inr ⟨rfl, rfl⟩, Or.inl rfl, trivial⟩ ?_
        cases h
        exact k1 rfl
      · refine x_ifneF r141_317 c92 ?_
        obtain ⟨x93, e94, h⟩ := am_ltE h
        refine x_sto (lc' := [.ref 106, .int x93, am_dead, .int v3, .int v4, am_dead]) r141_322 rfl rfl (by subst e94; rfl) rfl ?_
        refine x_ld (v := .int v3) r141_325 rfl rfl rfl ?_
        refine x_ar r141_326 rfl trivial rfl ?_
        obtain ⟨x95, e96, h⟩ := am_ltE h
        refine am_topI e96 ?_
        refine x_sto (lc' := [.ref 106, .int x93, am_dead, .int x95, .int v4, am_dead]) r141_327 rfl rfl rfl rfl ?_
        refine x_ld (v := .ref 106) r141_328 rfl rfl rfl ?_
        refine y_gf (cd := 120) (v := .ref 118) r141_329 rfl rfl rfl ?_
        refine x_ld (v := .int x93) r141_332 rfl rfl rfl ?_
        obtain ⟨g97, h⟩ := am_gdE h
        refine y_ial (n := 64) r141_333 rfl (by decide) g97 rfl rfl ?_
        refine x_ic (v := -1) r141_334 rfl rfl ?_
        obtain ⟨q98, h100, h⟩ := am_ltE h
        replace h100 := h100.symm
        have kj99 : am_X xs L 141 d mc ms 343 [.ref 106, .int x93, am_dead, .int x95, .int v4, am_dead] [.int q98] (am_mk D) 0 0 Q := by
          refine x_sto (lc' := [.ref 106, .int x93, am_dead, .int x95, .int q98, am_dead]) r141_343 rfl rfl rfl rfl ?_
          refine x_ld (v := .int q98) r141_345 rfl rfl rfl ?_
          rcases am_ifE h with ⟨c102, h⟩ | ⟨c102, h⟩
          · refine x_ifneT r141_347 c102 rfl ?_
            refine x_ld (v := .ref 106) r141_350 rfl rfl rfl ?_
            refine x_ld (v := .int x93) r141_351 rfl rfl rfl ?_
            refine x_ld (v := .ref 106) r141_352 rfl rfl rfl ?_
            refine y_gf (cd := 109) (v := .ref 107) r141_353 rfl rfl rfl ?_
            refine x_ic (v := 1) r141_356 rfl rfl ?_
            refine y_ial (n := 1320) r141_357 rfl (by decide) (by decide) (e := 1) (by decide) rfl ?_
            refine x_ld (v := .int x93) r141_358 rfl rfl rfl ?_
            refine x_ar r141_359 rfl trivial rfl ?_
            refine x_ic (v := 4) r141_360 rfl rfl ?_
            refine x_ar r141_361 rfl (by decide) rfl ?_
            refine x_ld (v := .int x95) r141_362 rfl rfl rfl ?_
            obtain ⟨q103, h104, h⟩ := Option.bind_eq_some_iff.mp h
            refine x_call0 (as := [.ref 106, .int x93, .int (((D.1 107 1) + x93) - ((D.1 107 1) + x93) / (4 : Int32) * (4 : Int32)), .int x95]) (rest := []) r141_363 rfl rfl rfl (by decide) (Nat.le_of_ble_eq_true rfl) (m140_ok h104) (Nat.le_trans (by decide) hd) (Nat.zero_le _) (Nat.zero_le _) rfl ?_
            refine x_goto r141_366 ?_
            exact x_forget (lc0 := [.ref 106, .int x93, am_dead, .int x95, .int q98, am_dead]) ⟨Or.inl rfl, Or.inl rfl, Or.inl rfl, Or.inl rfl, Or.inl rfl, Or.inl rfl, trivial⟩ (ih q103 x93 x95 q98 h k0 k1)
          · refine x_ifneF r141_347 c102 ?_
            exact x_forget (lc0 := [.ref 106, .int x93, am_dead, .int x95, .int q98, am_dead]) ⟨Or.inl rfl, Or.inl rfl, Or.inl rfl, Or.inl rfl, Or.inl rfl, Or.inl rfl, trivial⟩ (ih D x93 x95 q98 h k0 k1)
        rcases am_ifE h100 with ⟨c101, h100⟩ | ⟨c101, h100⟩
        · refine x_icneT r141_335 c101 rfl ?_
          refine x_ic (v := 1) r141_338 rfl rfl ?_
          refine x_goto r141_339 ?_
          subst h100
          exact kj99
        · refine x_icneF r141_335 c101 ?_
          refine x_ic (v := 0) r141_342 rfl rfl ?_
          subst h100
          exact kj99
theorem m141_L75_w {d : Nat} {N : Nat} {mc ms : Nat} {Q : am_O → am_AH → Prop} (hd : 5 ≤ d) : ∀ (n : Nat) (D : am_D) (v1 : Int32) {q : Int32 × am_D} (h : m141_L75 N  n D v1 = some q) (k0 : am_X xs L 141 d mc ms 320 [.ref 106, am_dead, am_dead, .int q.1, am_dead, am_dead] [] (am_mk q.2) 0 0 Q), am_X xs L 141 d mc ms 75 [.ref 106, .int v1, am_dead, am_dead, am_dead, am_dead] [] (am_mk D) 0 0 Q := by
  intro n
  induction n with
  | zero =>
    intro D v1 q h k0
    exact (nomatch (show none = some q from h))
  | succ n ih =>
    intro D v1 q h k0
    rw [m141_L75] at h
    refine x_ld (v := .ref 106) r141_75 rfl rfl rfl ?_
    refine y_gf (cd := 109) (v := .ref 107) r141_76 rfl rfl rfl ?_
    refine x_ic (v := 1) r141_79 rfl rfl ?_
    refine y_ial (n := 1320) r141_80 rfl (by decide) (by decide) (e := 1) (by decide) rfl ?_
    refine x_ld (v := .int v1) r141_81 rfl rfl rfl ?_
    refine x_ar r141_82 rfl trivial rfl ?_
    refine x_ic (v := 4) r141_83 rfl rfl ?_
    refine x_ar r141_84 rfl (by decide) rfl ?_
    obtain ⟨x24, e25, h⟩ := am_ltE h
    refine am_topI e25 ?_
    refine x_sto (lc' := [.ref 106, .int v1, .int x24, am_dead, am_dead, am_dead]) r141_85 rfl rfl rfl rfl ?_
    refine x_ic (v := 0) r141_86 rfl rfl ?_
    refine x_sto (lc' := [.ref 106, .int v1, .int x24, .int (0 : Int32), am_dead, am_dead]) r141_87 rfl rfl rfl rfl ?_
    refine x_ic (v := 0) r141_88 rfl rfl ?_
    refine x_sto (lc' := [.ref 106, .int v1, .int x24, .int (0 : Int32), .int (0 : Int32), am_dead]) r141_89 rfl rfl rfl rfl ?_
    refine x_ld (v := .ref 106) r141_91 rfl rfl rfl ?_
    refine x_ld (v := .int v1) r141_92 rfl rfl rfl ?_
    refine x_ld (v := .int x24) r141_93 rfl rfl rfl ?_
    obtain ⟨q26, h27, h⟩ := Option.bind_eq_some_iff.mp h
    refine x_call1 (as := [.ref 106, .int v1, .int x24]) (rest := []) r141_94 rfl rfl rfl (by decide) (Nat.le_of_ble_eq_true rfl) (m138_ok h27) (Nat.le_trans (by decide) hd) (Nat.zero_le _) (Nat.zero_le _) rfl ?_
    obtain ⟨q28, h30, h⟩ := Option.bind_eq_some_iff.mp h
    have kj29 : am_X xs L 141 d mc ms 311 [.ref 106, .int q28.1, .int x24, .int q28.2.1, .int q28.2.2.1, am_dead] [] (am_mk q28.2.2.2) 0 0 Q := by
      obtain ⟨q105, h106, h⟩ := Option.bind_eq_some_iff.mp h
      refine x_forget (lc0 := [.ref 106, .int q28.1, am_dead, .int q28.2.1, .int q28.2.2.1, am_dead]) ⟨Or.inl rfl, Or.inl rfl, Or.inr ⟨rfl, rfl⟩, Or.inl rfl, Or.inl rfl, Or.inl rfl, trivial⟩ (m141_L311_w hd N q28.2.2.2 q28.1 q28.2.1 q28.2.2.1 h106 (fun e107 => ?_) (fun e108 => ?_))
      · rw [if_pos e107] at h
        refine x_goto r141_369 ?_
        exact x_forget (lc0 := [.ref 106, .int q105.2.1, am_dead, am_dead, am_dead, am_dead]) ⟨Or.inl rfl, Or.inl rfl, Or.inl rfl, Or.inl rfl, Or.inl rfl, Or.inl rfl, trivial⟩ (ih q105.2.2.2 q105.2.1 h k0)
      · rw [if_neg (by rw [e108]; decide)] at h
        refine x_forget (lc0 := [.ref 106, am_dead, am_dead, .int q105.2.2.1, am_dead, am_dead]) ⟨Or.inl rfl, Or.inl rfl, Or.inl rfl, Or.inl rfl, Or.inl rfl, Or.inl rfl, trivial⟩ ?_
        cases h
        exact k0
    rcases am_ifE h30 with ⟨c31, h30⟩ | ⟨c31, h30⟩
    · refine x_ifeqT r141_97 c31 ?_
      refine x_ld (v := .ref 106) r141_157 rfl rfl rfl ?_
      refine y_gf (cd := 124) (v := .ref 122) r141_158 rfl rfl rfl ?_
      refine x_ld (v := .int v1) r141_161 rfl rfl rfl ?_
      obtain ⟨g32, h30⟩ := am_gdE h30
      refine y_ial (n := 64) r141_162 rfl (by decide) g32 rfl rfl ?_
      refine x_ic (v := 1) r141_163 rfl rfl ?_
      rcases am_ifE h30 with ⟨c33, h30⟩ | ⟨c33, h30⟩
      · refine x_icneT r141_164 c33 rfl ?_
        refine x_ld (v := .ref 106) r141_167 rfl rfl rfl ?_
        refine y_gf (cd := 119) (v := .ref 117) r141_168 rfl rfl rfl ?_
        refine x_ld (v := .int v1) r141_171 rfl rfl rfl ?_
        obtain ⟨g34, h30⟩ := am_gdE h30
        refine y_ial (n := 64) r141_172 rfl (by decide) g34 rfl rfl ?_
        obtain ⟨x35, e36, h30⟩ := am_ltE h30
        refine am_topI e36 ?_
        refine x_sto (lc' := [.ref 106, .int v1, .int x24, .int x35, .int (0 : Int32), am_dead]) r141_173 rfl rfl rfl rfl ?_
        refine x_ic (v := 1) r141_174 rfl rfl ?_
        refine x_sto (lc' := [.ref 106, .int v1, .int x24, .int x35, .int (1 : Int32), am_dead]) r141_175 rfl rfl rfl rfl ?_
        refine x_goto r141_177 ?_
        cases h30
        exact kj29
      · refine x_icneF r141_164 c33 ?_
        refine x_ld (v := .ref 106) r141_180 rfl rfl rfl ?_
        refine y_gf (cd := 125) (v := .ref 123) r141_181 rfl rfl rfl ?_
        refine x_ld (v := .int v1) r141_184 rfl rfl rfl ?_
        obtain ⟨g37, h30⟩ := am_gdE h30
        refine y_ial (n := 64) r141_185 rfl (by decide) g37 rfl rfl ?_
        refine x_ic (v := 3) r141_186 rfl rfl ?_
        rcases am_ifE h30 with ⟨c38, h30⟩ | ⟨c38, h30⟩
        · refine x_icneT r141_187 c38 rfl ?_
          refine x_ld (v := .ref 106) r141_190 rfl rfl rfl ?_
          refine x_ld (v := .int x24) r141_191 rfl rfl rfl ?_
          refine x_ic (v := 1) r141_192 rfl rfl ?_
          refine x_ar r141_193 rfl trivial rfl ?_
          refine x_ic (v := 4) r141_194 rfl rfl ?_
          refine x_ar r141_195 rfl (by decide) rfl ?_
          obtain ⟨q39, h40, h30⟩ := Option.bind_eq_some_iff.mp h30
          refine x_call1 (as := [.ref 106, .int ((x24 + (1 : Int32)) - (x24 + (1 : Int32)) / (4 : Int32) * (4 : Int32))]) (rest := []) r141_196 rfl rfl rfl (by decide) (Nat.le_of_ble_eq_true rfl) (m136_ok h40) (Nat.le_trans (by decide) hd) (Nat.zero_le _) (Nat.zero_le _) rfl ?_
          refine x_ld (v := .ref 106) r141_199 rfl rfl rfl ?_
          refine x_ld (v := .int x24) r141_200 rfl rfl rfl ?_
          refine x_ic (v := 3) r141_201 rfl rfl ?_
          refine x_ar r141_202 rfl trivial rfl ?_
          refine x_ic (v := 4) r141_203 rfl rfl ?_
          refine x_ar r141_204 rfl (by decide) rfl ?_
          obtain ⟨q41, h42, h30⟩ := Option.bind_eq_some_iff.mp h30
          refine x_call1 (as := [.ref 106, .int ((x24 + (3 : Int32)) - (x24 + (3 : Int32)) / (4 : Int32) * (4 : Int32))]) (rest := [.int q39]) r141_205 rfl rfl rfl (by decide) (Nat.le_of_ble_eq_true rfl) (m136_ok h42) (Nat.le_trans (by decide) hd) (Nat.zero_le _) (Nat.zero_le _) rfl ?_
          refine x_ar r141_208 rfl trivial rfl ?_
          refine x_ld (v := .ref 106) r141_209 rfl rfl rfl ?_
          refine x_ld (v := .int x24) r141_210 rfl rfl rfl ?_
          obtain ⟨q43, h44, h30⟩ := Option.bind_eq_some_iff.mp h30
          refine x_call1 (as := [.ref 106, .int x24]) (rest := [.int (q39 + q41)]) r141_211 rfl rfl rfl (by decide) (Nat.le_of_ble_eq_true rfl) (m136_ok h44) (Nat.le_trans (by decide) hd) (Nat.zero_le _) (Nat.zero_le _) rfl ?_
          refine x_ar r141_214 rfl trivial rfl ?_
          refine x_ld (v := .ref 106) r141_215 rfl rfl rfl ?_
          refine x_ld (v := .int x24) r141_216 rfl rfl rfl ?_
          refine x_ic (v := 2) r141_217 rfl rfl ?_
          refine x_ar r141_218 rfl trivial rfl ?_
          refine x_ic (v := 4) r141_219 rfl rfl ?_
          refine x_ar r141_220 rfl (by decide) rfl ?_
          obtain ⟨q45, h46, h30⟩ := Option.bind_eq_some_iff.mp h30
          refine x_call1 (as := [.ref 106, .int ((x24 + (2 : Int32)) - (x24 + (2 : Int32)) / (4 : Int32) * (4 : Int32))]) (rest := [.int ((q39 + q41) - q43)]) r141_221 rfl rfl rfl (by decide) (Nat.le_of_ble_eq_true rfl) (m136_ok h46) (Nat.le_trans (by decide) hd) (Nat.zero_le _) (Nat.zero_le _) rfl ?_
          refine x_ar r141_224 rfl trivial rfl ?_
          obtain ⟨x47, e48, h30⟩ := am_ltE h30
          refine am_topI e48 ?_
          refine x_sto (lc' := [.ref 106, .int v1, .int x24, .int (0 : Int32), .int (0 : Int32), .int x47]) r141_225 rfl rfl rfl rfl ?_
          refine x_ld (v := .int x47) r141_227 rfl rfl rfl ?_
          obtain ⟨q49, h51, h30⟩ := am_ltE h30
          replace h51 := h51.symm
          have kj50 : am_X xs L 141 d mc ms 245 [.ref 106, .int v1, .int x24, .int (0 : Int32), .int (0 : Int32), .int x47] [.int q49] (am_mk q26.2) 0 0 Q := by
            refine x_sto (lc' := [.ref 106, .int v1, .int x24, .int q49, .int (0 : Int32), .int x47]) r141_245 rfl rfl rfl rfl ?_
            refine x_ic (v := 1) r141_246 rfl rfl ?_
            refine x_sto (lc' := [.ref 106, .int v1, .int x24, .int q49, .int (1 : Int32), .int x47]) r141_247 rfl rfl rfl rfl ?_
            refine x_goto r141_249 ?_
            refine x_forget (lc0 := [.ref 106, .int v1, .int x24, .int q49, .int (1 : Int32), am_dead]) ⟨Or.inl rfl, Or.inl rfl, Or.inl rfl, Or.inl rfl, Or.inl rfl, Or.inr ⟨rfl, rfl⟩, trivial⟩ ?_
            cases h30
            exact kj29
          rcases am_ifE h51 with ⟨c52, h51⟩ | ⟨c52, h51⟩
          · refine x_ifgeT r141_229 c52 ?_
            refine x_ld (v := .int x47) r141_241 rfl rfl rfl ?_
            refine x_ic (v := 5) r141_243 rfl rfl ?_
            refine x_ar r141_244 rfl (by decide) rfl ?_
            subst h51
            exact kj50
          · refine x_ifgeF r141_229 c52 rfl ?_
            refine x_ld (v := .int x47) r141_232 rfl rfl rfl ?_
            refine x_ar r141_234 rfl trivial rfl ?_
            refine x_ic (v := 5) r141_235 rfl rfl ?_
            refine x_ar r141_236 rfl (by decide) rfl ?_
            refine x_ar r141_237 rfl trivial rfl ?_
            refine x_goto r141_238 ?_
            subst h51
            exact kj50
        · refine x_icneF r141_187 c38 ?_
          refine x_ld (v := .ref 106) r141_252 rfl rfl rfl ?_
          refine y_gf (cd := 120) (v := .ref 118) r141_253 rfl rfl rfl ?_
          refine x_ld (v := .int v1) r141_256 rfl rfl rfl ?_
          refine x_ic (v := -1) r141_257 rfl rfl ?_
          obtain ⟨g55, h30⟩ := am_gdE h30
          obtain ⟨D53, e54, h30⟩ := am_ltE h30
          refine y_ias (n := 64) r141_258 rfl (by decide) g55 rfl e54 rfl ?_
          refine x_ld (v := .ref 106) r141_259 rfl rfl rfl ?_
          refine y_gf (cd := 122) (v := .ref 120) r141_260 rfl rfl rfl ?_
          refine x_ld (v := .int v1) r141_263 rfl rfl rfl ?_
          refine x_ic (v := 1) r141_264 rfl rfl ?_
          refine x_ar r141_265 rfl trivial rfl ?_
          refine x_ld (v := .ref 106) r141_266 rfl rfl rfl ?_
          refine y_gf (cd := 122) (v := .ref 120) r141_267 rfl rfl rfl ?_
          refine x_ld (v := .int v1) r141_270 rfl rfl rfl ?_
          obtain ⟨g56, h30⟩ := am_gdE h30
          refine y_ial (n := 64) r141_271 rfl (by decide) g56 rfl rfl ?_
          obtain ⟨g59, h30⟩ := am_gdE h30
          obtain ⟨D57, e58, h30⟩ := am_ltE h30
          refine y_ias (n := 64) r141_272 rfl (by decide) g59 rfl e58 rfl ?_
          refine x_ld (v := .ref 106) r141_273 rfl rfl rfl ?_
          refine y_gf (cd := 123) (v := .ref 121) r141_274 rfl rfl rfl ?_
          refine x_ld (v := .int v1) r141_277 rfl rfl rfl ?_
          refine x_ic (v := 1) r141_278 rfl rfl ?_
          refine x_ar r141_279 rfl trivial rfl ?_
          refine x_ld (v := .ref 106) r141_280 rfl rfl rfl ?_
          refine y_gf (cd := 123) (v := .ref 121) r141_281 rfl rfl rfl ?_
          refine x_ld (v := .int v1) r141_284 rfl rfl rfl ?_
          obtain ⟨g60, h30⟩ := am_gdE h30
          refine y_ial (n := 64) r141_285 rfl (by decide) g60 rfl rfl ?_
          obtain ⟨g63, h30⟩ := am_gdE h30
          obtain ⟨D61, e62, h30⟩ := am_ltE h30
          refine y_ias (n := 64) r141_286 rfl (by decide) g63 rfl e62 rfl ?_
          refine x_ld (v := .ref 106) r141_287 rfl rfl rfl ?_
          refine y_gf (cd := 125) (v := .ref 123) r141_288 rfl rfl rfl ?_
          refine x_ld (v := .int v1) r141_291 rfl rfl rfl ?_
          refine x_ic (v := 1) r141_292 rfl rfl ?_
          refine x_ar r141_293 rfl trivial rfl ?_
          refine x_ld (v := .ref 106) r141_294 rfl rfl rfl ?_
          refine y_gf (cd := 125) (v := .ref 123) r141_295 rfl rfl rfl ?_
          refine x_ld (v := .int v1) r141_298 rfl rfl rfl ?_
          obtain ⟨g64, h30⟩ := am_gdE h30
          refine y_ial (n := 64) r141_299 rfl (by decide) g64 rfl rfl ?_
          refine x_ic (v := 1) r141_300 rfl rfl ?_
          refine x_ar r141_301 rfl trivial rfl ?_
          obtain ⟨g67, h30⟩ := am_gdE h30
          obtain ⟨D65, e66, h30⟩ := am_ltE h30
          refine y_ias (n := 64) r141_302 rfl (by decide) g67 rfl e66 rfl ?_
          obtain ⟨x68, e69, h30⟩ := am_ltE h30
          refine x_sto (lc' := [.ref 106, .int x68, .int x24, .int (0 : Int32), .int (0 : Int32), am_dead]) r141_303 rfl rfl (by subst e69; rfl) rfl ?_
          refine x_ld (v := .ref 106) r141_306 rfl rfl rfl ?_
          refine x_ld (v := .int x68) r141_307 rfl rfl rfl ?_
          obtain ⟨q70, h71, h30⟩ := Option.bind_eq_some_iff.mp h30
          refine x_call0 (as := [.ref 106, .int x68]) (rest := []) r141_308 rfl rfl rfl (by decide) (Nat.le_of_ble_eq_true rfl) (m139_ok h71) (Nat.le_trans (by decide) hd) (Nat.zero_le _) (Nat.zero_le _) rfl ?_
          cases h30
          exact kj29
    · refine x_ifeqF r141_97 c31 rfl ?_
      refine x_ld (v := .ref 106) r141_100 rfl rfl rfl ?_
      refine x_ld (v := .int x24) r141_101 rfl rfl rfl ?_
      obtain ⟨q72, h73, h30⟩ := Option.bind_eq_some_iff.mp h30
      refine x_call1 (as := [.ref 106, .int x24]) (rest := []) r141_102 rfl rfl rfl (by decide) (Nat.le_of_ble_eq_true rfl) (m137_ok h73) (Nat.le_trans (by decide) hd) (Nat.zero_le _) (Nat.zero_le _) rfl ?_
      rcases am_ifE h30 with ⟨c74, h30⟩ | ⟨c74, h30⟩
      · refine x_ifeqT r141_105 c74 ?_
        obtain ⟨x75, e76, h30⟩ := am_ltE h30
        refine x_sto (lc' := [.ref 106, .int x75, .int x24, .int (0 : Int32), .int (0 : Int32), am_dead]) r141_146 rfl rfl (by subst e76; rfl) rfl ?_
        refine x_ld (v := .ref 106) r141_149 rfl rfl rfl ?_
        refine x_ld (v := .int x75) r141_150 rfl rfl rfl ?_
        obtain ⟨q77, h78, h30⟩ := Option.bind_eq_some_iff.mp h30
        refine x_call0 (as := [.ref 106, .int x75]) (rest := []) r141_151 rfl rfl rfl (by decide) (Nat.le_of_ble_eq_true rfl) (m139_ok h78) (Nat.le_trans (by decide) hd) (Nat.zero_le _) (Nat.zero_le _) rfl ?_
        refine x_goto r141_154 ?_
        cases h30
        exact kj29
      · refine x_ifeqF r141_105 c74 rfl ?_
        refine x_ld (v := .ref 106) r141_108 rfl rfl rfl ?_
        refine x_ic (v := 0) r141_109 rfl rfl ?_
        obtain ⟨q79, h80, h30⟩ := Option.bind_eq_some_iff.mp h30
        refine x_call1 (as := [.ref 106, .int (0 : Int32)]) (rest := []) r141_110 rfl rfl rfl (by decide) (Nat.le_of_ble_eq_true rfl) (m136_ok h80) (Nat.le_trans (by decide) hd) (Nat.zero_le _) (Nat.zero_le _) rfl ?_
        refine x_ld (v := .ref 106) r141_113 rfl rfl rfl ?_
        refine x_ic (v := 1) r141_114 rfl rfl ?_
        obtain ⟨q81, h82, h30⟩ := Option.bind_eq_some_iff.mp h30
        refine x_call1 (as := [.ref 106, .int (1 : Int32)]) (rest := [.int q79]) r141_115 rfl rfl rfl (by decide) (Nat.le_of_ble_eq_true rfl) (m136_ok h82) (Nat.le_trans (by decide) hd) (Nat.zero_le _) (Nat.zero_le _) rfl ?_
        refine x_ar r141_118 rfl trivial rfl ?_
        refine x_ld (v := .ref 106) r141_119 rfl rfl rfl ?_
        refine x_ic (v := 2) r141_120 rfl rfl ?_
        obtain ⟨q83, h84, h30⟩ := Option.bind_eq_some_iff.mp h30
        refine x_call1 (as := [.ref 106, .int (2 : Int32)]) (rest := [.int (q79 + q81)]) r141_121 rfl rfl rfl (by decide) (Nat.le_of_ble_eq_true rfl) (m136_ok h84) (Nat.le_trans (by decide) hd) (Nat.zero_le _) (Nat.zero_le _) rfl ?_
        refine x_ar r141_124 rfl trivial rfl ?_
        refine x_ld (v := .ref 106) r141_125 rfl rfl rfl ?_
        refine x_ic (v := 3) r141_126 rfl rfl ?_
        obtain ⟨q85, h86, h30⟩ := Option.bind_eq_some_iff.mp h30
        refine x_call1 (as := [.ref 106, .int (3 : Int32)]) (rest := [.int ((q79 + q81) + q83)]) r141_127 rfl rfl rfl (by decide) (Nat.le_of_ble_eq_true rfl) (m136_ok h86) (Nat.le_trans (by decide) hd) (Nat.zero_le _) (Nat.zero_le _) rfl ?_
        refine x_ar r141_130 rfl trivial rfl ?_
        obtain ⟨x87, e88, h30⟩ := am_ltE h30
        refine am_topI e88 ?_
        refine x_sto (lc' := [.ref 106, .int v1, .int x24, .int (0 : Int32), .int (0 : Int32), .int x87]) r141_131 rfl rfl rfl rfl ?_
        refine x_ld (v := .ref 106) r141_133 rfl rfl rfl ?_
        refine x_ld (v := .int v1) r141_134 rfl rfl rfl ?_
        refine x_ld (v := .int x24) r141_135 rfl rfl rfl ?_
        refine x_ld (v := .int x87) r141_136 rfl rfl rfl ?_
        refine x_ic (v := 5) r141_138 rfl rfl ?_
        refine x_ar r141_139 rfl (by decide) rfl ?_
        obtain ⟨q89, h90, h30⟩ := Option.bind_eq_some_iff.mp h30
        refine x_call0 (as := [.ref 106, .int v1, .int x24, .int (x87 / (5 : Int32))]) (rest := []) r141_140 rfl rfl rfl (by decide) (Nat.le_of_ble_eq_true rfl) (m140_ok h90) (Nat.le_trans (by decide) hd) (Nat.zero_le _) (Nat.zero_le _) rfl ?_
        refine x_goto r141_143 ?_
        refine x_forget (lc0 := [.ref 106, .int v1, .int x24, .int (0 : Int32), .int (0 : Int32), am_dead]) ⟨Or.inl rfl, Or.inl rfl, Or.inl rfl, Or.inl rfl, Or.inl rfl, Or.inr ⟨rfl, rfl⟩, trivial⟩ ?_
        cases h30
        exact kj29
theorem m141_w {d mc ms : Nat} {N : Nat} {D : am_D} {Q : am_O → am_AH → Prop} (hd : 5 ≤ d) {r : Int32 × am_D} (h : m141 N D = some r) (hQ : Q (.inl (some (.int r.1))) (am_mk r.2)) : am_X xs L 141 d mc ms 0 [.ref 106, am_dead, am_dead, am_dead, am_dead, am_dead] [] (am_mk D) 0 0 Q := by
  unfold m141 at h
  refine x_ic (v := 0) r141_0 rfl rfl ?_
  refine x_sto (lc' := [.ref 106, .int (0 : Int32), am_dead, am_dead, am_dead, am_dead]) r141_1 rfl rfl rfl rfl ?_
  obtain ⟨q8, h9, h⟩ := Option.bind_eq_some_iff.mp h
  refine x_forget (lc0 := [.ref 106, .int (0 : Int32), am_dead, am_dead, am_dead, am_dead]) ⟨Or.inl rfl, Or.inl rfl, Or.inl rfl, Or.inl rfl, Or.inl rfl, Or.inl rfl, trivial⟩ (m141_L2_w hd N D (0 : Int32) h9 ?_)
  refine x_ld (v := .ref 106) r141_29 rfl rfl rfl ?_
  refine y_gf (cd := 122) (v := .ref 120) r141_30 rfl rfl rfl ?_
  refine x_ic (v := 0) r141_33 rfl rfl ?_
  refine x_ld (v := .ref 106) r141_34 rfl rfl rfl ?_
  refine x_ic (v := 0) r141_35 rfl rfl ?_
  obtain ⟨q10, h11, h⟩ := Option.bind_eq_some_iff.mp h
  refine x_call1 (as := [.ref 106, .int (0 : Int32)]) (rest := [.int (0 : Int32), .ref 120]) r141_36 rfl rfl rfl (by decide) (Nat.le_of_ble_eq_true rfl) (m132_ok h11) (Nat.le_trans (by decide) hd) (Nat.zero_le _) (Nat.zero_le _) rfl ?_
  obtain ⟨D12, e13, h⟩ := am_ltE h
  refine y_ias (n := 64) r141_39 rfl (by decide) (by decide) (e := 0) (by decide) e13 rfl ?_
  refine x_ld (v := .ref 106) r141_40 rfl rfl rfl ?_
  refine y_gf (cd := 123) (v := .ref 121) r141_41 rfl rfl rfl ?_
  refine x_ic (v := 0) r141_44 rfl rfl ?_
  refine x_ld (v := .ref 106) r141_45 rfl rfl rfl ?_
  refine x_ic (v := 1) r141_46 rfl rfl ?_
  obtain ⟨q14, h15, h⟩ := Option.bind_eq_some_iff.mp h
  refine x_call1 (as := [.ref 106, .int (1 : Int32)]) (rest := [.int (0 : Int32), .ref 121]) r141_47 rfl rfl rfl (by decide) (Nat.le_of_ble_eq_true rfl) (m132_ok h15) (Nat.le_trans (by decide) hd) (Nat.zero_le _) (Nat.zero_le _) rfl ?_
  obtain ⟨D16, e17, h⟩ := am_ltE h
  refine y_ias (n := 64) r141_50 rfl (by decide) (by decide) (e := 0) (by decide) e17 rfl ?_
  refine x_ld (v := .ref 106) r141_51 rfl rfl rfl ?_
  refine y_gf (cd := 125) (v := .ref 123) r141_52 rfl rfl rfl ?_
  refine x_ic (v := 0) r141_55 rfl rfl ?_
  refine x_ld (v := .ref 106) r141_56 rfl rfl rfl ?_
  refine y_gf (cd := 109) (v := .ref 107) r141_57 rfl rfl rfl ?_
  refine x_ic (v := 4) r141_60 rfl rfl ?_
  refine y_ial (n := 1320) r141_61 rfl (by decide) (by decide) (e := 4) (by decide) rfl ?_
  obtain ⟨D18, e19, h⟩ := am_ltE h
  refine y_ias (n := 64) r141_62 rfl (by decide) (by decide) (e := 0) (by decide) e19 rfl ?_
  refine x_ld (v := .ref 106) r141_63 rfl rfl rfl ?_
  refine x_ic (v := -1) r141_64 rfl rfl ?_
  obtain ⟨D20, e21, h⟩ := am_ltE h
  refine y_pf0 r141_65 rfl e21 rfl ?_
  refine x_ic (v := 0) r141_68 rfl rfl ?_
  refine x_sto (lc' := [.ref 106, .int (0 : Int32), am_dead, am_dead, am_dead, am_dead]) r141_69 rfl rfl rfl rfl ?_
  refine x_ld (v := .ref 106) r141_70 rfl rfl rfl ?_
  refine x_ic (v := 0) r141_71 rfl rfl ?_
  obtain ⟨q22, h23, h⟩ := Option.bind_eq_some_iff.mp h
  refine x_call0 (as := [.ref 106, .int (0 : Int32)]) (rest := []) r141_72 rfl rfl rfl (by decide) (Nat.le_of_ble_eq_true rfl) (m139_ok h23) (Nat.le_trans (by decide) hd) (Nat.zero_le _) (Nat.zero_le _) rfl ?_
  obtain ⟨q109, h110, h⟩ := Option.bind_eq_some_iff.mp h
  refine x_forget (lc0 := [.ref 106, .int (0 : Int32), am_dead, am_dead, am_dead, am_dead]) ⟨Or.inl rfl, Or.inl rfl, Or.inl rfl, Or.inl rfl, Or.inl rfl, Or.inl rfl, trivial⟩ (m141_L75_w hd N q22 (0 : Int32) h110 ?_)
  refine x_ld (v := .int q109.1) r141_320 rfl rfl rfl ?_
  cases h
  exact x_ret (ret := some .int) (C := True) (v := some (.int _)) r141_321 rt141 rfl rfl rfl rfl rfl rfl rfl rfl trivial hQ
theorem m141_ok {N : Nat} {D : am_D} {r : Int32 × am_D} (h : m141 N D = some r) : am_Y xs L 141 5 0 0 [.ref 106] D (.inl (some (.int r.1))) r.2 := am_Yof (mi := am_m141) (lc := [.ref 106, am_dead, am_dead, am_dead, am_dead, am_dead]) pg141 (Nat.le_of_ble_eq_true rfl) (am_rc1 (ci := 8) rfl rfl rfl rfl rfl) rfl (fun Q hQ => m141_w (Nat.le_refl _) h hQ)
theorem r142_0 : am_at 142 0 = some (.aload_n 0, 1, [0]) := by decide +kernel
theorem r142_1 : am_at 142 1 = some (.getfield 7, 3, [8, 1, 3, 1216]) := by decide +kernel
theorem r142_4 : am_at 142 4 = some (.iconst (0), 1, []) := by decide +kernel
theorem r142_5 : am_at 142 5 = some (.iaload, 1, []) := by decide +kernel
theorem r142_6 : am_at 142 6 = some (.iconst (1), 1, []) := by decide +kernel
theorem r142_7 : am_at 142 7 = some (.if_icmp .ne (12), 3, [19]) := by decide +kernel
theorem r142_10 : am_at 142 10 = some (.aload_n 0, 1, [0]) := by decide +kernel
theorem r142_11 : am_at 142 11 = some (.invokevirtual 299, 3, [135, 1, 1655, 0]) := by decide +kernel
theorem r142_14 : am_at 142 14 = some (.bipush (9), 2, []) := by decide +kernel
theorem r142_16 : am_at 142 16 = some (.if_icmp .le (5), 3, [21]) := by decide +kernel
theorem r142_19 : am_at 142 19 = some (.iconst (-1), 1, []) := by decide +kernel
theorem r142_20 : am_at 142 20 = some (.ireturn, 1, []) := by decide +kernel
theorem r142_21 : am_at 142 21 = some (.aload_n 0, 1, [0]) := by decide +kernel
theorem r142_22 : am_at 142 22 = some (.invokevirtual 302, 3, [141, 1, 1659, 0]) := by decide +kernel
theorem r142_25 : am_at 142 25 = some (.istore_n 2, 1, [2]) := by decide +kernel
theorem r142_26 : am_at 142 26 = some (.iload_n 1, 1, [1]) := by decide +kernel
theorem r142_27 : am_at 142 27 = some (.ifCond .ne (7), 3, [34]) := by decide +kernel
theorem r142_30 : am_at 142 30 = some (.iload_n 2, 1, [2]) := by decide +kernel
theorem r142_31 : am_at 142 31 = some (.goto (35), 3, [66]) := by decide +kernel
theorem r142_34 : am_at 142 34 = some (.aload_n 0, 1, [0]) := by decide +kernel
theorem r142_35 : am_at 142 35 = some (.getfield 279, 3, [8, 24, 0, 1239]) := by decide +kernel
theorem r142_38 : am_at 142 38 = some (.iconst (-1), 1, []) := by decide +kernel
theorem r142_39 : am_at 142 39 = some (.if_icmp .ne (7), 3, [46]) := by decide +kernel
theorem r142_42 : am_at 142 42 = some (.iconst (-1), 1, []) := by decide +kernel
theorem r142_43 : am_at 142 43 = some (.goto (23), 3, [66]) := by decide +kernel
theorem r142_46 : am_at 142 46 = some (.iload_n 1, 1, [1]) := by decide +kernel
theorem r142_47 : am_at 142 47 = some (.iconst (1), 1, []) := by decide +kernel
theorem r142_48 : am_at 142 48 = some (.if_icmp .ne (12), 3, [60]) := by decide +kernel
theorem r142_51 : am_at 142 51 = some (.aload_n 0, 1, [0]) := by decide +kernel
theorem r142_52 : am_at 142 52 = some (.getfield 279, 3, [8, 24, 0, 1239]) := by decide +kernel
theorem r142_55 : am_at 142 55 = some (.iconst (2), 1, []) := by decide +kernel
theorem r142_56 : am_at 142 56 = some (.idiv, 1, []) := by decide +kernel
theorem r142_57 : am_at 142 57 = some (.goto (9), 3, [66]) := by decide +kernel
theorem r142_60 : am_at 142 60 = some (.aload_n 0, 1, [0]) := by decide +kernel
theorem r142_61 : am_at 142 61 = some (.getfield 279, 3, [8, 24, 0, 1239]) := by decide +kernel
theorem r142_64 : am_at 142 64 = some (.iconst (2), 1, []) := by decide +kernel
theorem r142_65 : am_at 142 65 = some (.irem, 1, []) := by decide +kernel
theorem r142_66 : am_at 142 66 = some (.ireturn, 1, []) := by decide +kernel
theorem rt142 : am_rtt 142 = some (some .int) := by decide +kernel
set_option maxRecDepth 100000 in
theorem pg142 : am_pg[142]? = some am_m142 := rfl
theorem m142_w {d mc ms : Nat} {N : Nat} {D : am_D} {v1 : Int32} {Q : am_O → am_AH → Prop} (hd : 6 ≤ d) {r : Int32 × am_D} (h : m142 N D v1 = some r) (hQ : Q (.inl (some (.int r.1))) (am_mk r.2)) : am_X xs L 142 d mc ms 0 [.ref 106, .int v1, am_dead] [] (am_mk D) 0 0 Q := by
  unfold m142 at h
  refine x_ld (v := .ref 106) r142_0 rfl rfl rfl ?_
  refine y_gf (cd := 109) (v := .ref 107) r142_1 rfl rfl rfl ?_
  refine x_ic (v := 0) r142_4 rfl rfl ?_
  refine y_ial (n := 1320) r142_5 rfl (by decide) (by decide) (e := 0) (by decide) rfl ?_
  refine x_ic (v := 1) r142_6 rfl rfl ?_
  rcases am_ifE h with ⟨c1, h⟩ | ⟨c1, h⟩
  · refine x_icneT r142_7 c1 rfl ?_
    refine x_ld (v := .ref 106) r142_10 rfl rfl rfl ?_
    obtain ⟨q2, h3, h⟩ := Option.bind_eq_some_iff.mp h
    refine x_call1 (as := [.ref 106]) (rest := []) r142_11 rfl rfl rfl (by decide) (Nat.le_of_ble_eq_true rfl) (m135_ok h3) (Nat.le_trans (by decide) hd) (Nat.zero_le _) (Nat.zero_le _) rfl ?_
    refine x_bi (v := 9) r142_14 rfl rfl ?_
    rcases am_ifE h with ⟨c4, h⟩ | ⟨c4, h⟩
    · refine x_icleT r142_16 c4 ?_
      refine x_ld (v := .ref 106) r142_21 rfl rfl rfl ?_
      obtain ⟨q5, h6, h⟩ := Option.bind_eq_some_iff.mp h
      refine x_call1 (as := [.ref 106]) (rest := []) r142_22 rfl rfl rfl (by decide) (Nat.le_of_ble_eq_true rfl) (m141_ok h6) (Nat.le_trans (by decide) hd) (Nat.zero_le _) (Nat.zero_le _) rfl ?_
      refine x_sto (lc' := [.ref 106, .int v1, .int q5.1]) r142_25 rfl rfl rfl rfl ?_
      refine x_ld (v := .int v1) r142_26 rfl rfl rfl ?_
      rcases am_ifE h with ⟨c7, h⟩ | ⟨c7, h⟩
      · refine x_ifneT r142_27 c7 rfl ?_
        refine x_ld (v := .int q5.1) r142_30 rfl rfl rfl ?_
        refine x_goto r142_31 ?_
        cases h
        exact x_ret (ret := some .int) (C := True) (v := some (.int _)) r142_66 rt142 rfl rfl rfl rfl rfl rfl rfl rfl trivial hQ
      · refine x_ifneF r142_27 c7 ?_
        refine x_ld (v := .ref 106) r142_34 rfl rfl rfl ?_
        refine y_gf (cd := 0) (v := .int (q5.2.1 106 24)) r142_35 rfl rfl rfl ?_
        refine x_ic (v := -1) r142_38 rfl rfl ?_
        rcases am_ifE h with ⟨c8, h⟩ | ⟨c8, h⟩
        · refine x_icneT r142_39 c8 rfl ?_
          refine x_ic (v := -1) r142_42 rfl rfl ?_
          refine x_goto r142_43 ?_
          cases h
          exact x_ret (ret := some .int) (C := True) (v := some (.int _)) r142_66 rt142 rfl rfl rfl rfl rfl rfl rfl rfl trivial hQ
        · refine x_icneF r142_39 c8 ?_
          refine x_ld (v := .int v1) r142_46 rfl rfl rfl ?_
          refine x_ic (v := 1) r142_47 rfl rfl ?_
          rcases am_ifE h with ⟨c9, h⟩ | ⟨c9, h⟩
          · refine x_icneT r142_48 c9 rfl ?_
            refine x_ld (v := .ref 106) r142_51 rfl rfl rfl ?_
            refine y_gf (cd := 0) (v := .int (q5.2.1 106 24)) r142_52 rfl rfl rfl ?_
            refine x_ic (v := 2) r142_55 rfl rfl ?_
            refine x_ar r142_56 rfl (by decide) rfl ?_
            refine x_goto r142_57 ?_
            cases h
            exact x_ret (ret := some .int) (C := True) (v := some (.int _)) r142_66 rt142 rfl rfl rfl rfl rfl rfl rfl rfl trivial hQ
          · refine x_icneF r142_48 c9 ?_
            refine x_ld (v := .ref 106) r142_60 rfl rfl rfl ?_
            refine y_gf (cd := 0) (v := .int (q5.2.1 106 24)) r142_61 rfl rfl rfl ?_
            refine x_ic (v := 2) r142_64 rfl rfl ?_
            refine x_ar r142_65 rfl (by decide) rfl ?_
            cases h
            exact x_ret (ret := some .int) (C := True) (v := some (.int _)) r142_66 rt142 rfl rfl rfl rfl rfl rfl rfl rfl trivial hQ
    · refine x_icleF r142_16 c4 rfl ?_
      refine x_ic (v := -1) r142_19 rfl rfl ?_
      cases h
      exact x_ret (ret := some .int) (C := True) (v := some (.int _)) r142_20 rt142 rfl rfl rfl rfl rfl rfl rfl rfl trivial hQ
  · refine x_icneF r142_7 c1 ?_
    refine x_ic (v := -1) r142_19 rfl rfl ?_
    cases h
    exact x_ret (ret := some .int) (C := True) (v := some (.int _)) r142_20 rt142 rfl rfl rfl rfl rfl rfl rfl rfl trivial hQ
theorem m142_ok {N : Nat} {D : am_D} {v1 : Int32} {r : Int32 × am_D} (h : m142 N D v1 = some r) : am_Y xs L 142 6 0 0 [.ref 106, .int v1] D (.inl (some (.int r.1))) r.2 := am_Yof (mi := am_m142) (lc := [.ref 106, .int v1, am_dead]) pg142 (Nat.le_of_ble_eq_true rfl) (am_rc1 (ci := 8) rfl rfl rfl rfl rfl) rfl (fun Q hQ => m142_w (Nat.le_refl _) h hQ)
theorem r143_0 : am_at 143 0 = some (.aload_n 0, 1, [0]) := by decide +kernel
theorem r143_1 : am_at 143 1 = some (.iload_n 1, 1, [1]) := by decide +kernel
theorem r143_2 : am_at 143 2 = some (.iconst (0), 1, []) := by decide +kernel
theorem r143_3 : am_at 143 3 = some (.iconst (2), 1, []) := by decide +kernel
theorem r143_4 : am_at 143 4 = some (.invokestatic 65, 3, [46, 3, 1305, 0]) := by decide +kernel
theorem r143_7 : am_at 143 7 = some (.ifCond .eq (7), 3, [14]) := by decide +kernel
theorem r143_10 : am_at 143 10 = some (.iconst (0), 1, []) := by decide +kernel
theorem r143_11 : am_at 143 11 = some (.goto (4), 3, [15]) := by decide +kernel
theorem r143_14 : am_at 143 14 = some (.iconst (1), 1, []) := by decide +kernel
theorem r143_15 : am_at 143 15 = some (.invokevirtual 142, 3, [47, 2, 1323, 0]) := by decide +kernel
theorem r143_18 : am_at 143 18 = some (.ifCond .eq (11), 3, [29]) := by decide +kernel
theorem r143_21 : am_at 143 21 = some (.aload_n 0, 1, [0]) := by decide +kernel
theorem r143_22 : am_at 143 22 = some (.iload_n 1, 1, [1]) := by decide +kernel
theorem r143_23 : am_at 143 23 = some (.invokevirtual 305, 3, [142, 2, 1651, 0]) := by decide +kernel
theorem r143_26 : am_at 143 26 = some (.goto (4), 3, [30]) := by decide +kernel
theorem r143_29 : am_at 143 29 = some (.iconst (0), 1, []) := by decide +kernel
theorem r143_30 : am_at 143 30 = some (.ireturn, 1, []) := by decide +kernel
theorem rt143 : am_rtt 143 = some (some .int) := by decide +kernel
set_option maxRecDepth 100000 in
theorem pg143 : am_pg[143]? = some am_m143 := rfl
theorem m143_w {d mc ms : Nat} {N : Nat} {D : am_D} {v1 : Int32} {Q : am_O → am_AH → Prop} (hd : 7 ≤ d) {r : Int32 × am_D} (h : m143 N D v1 = some r) (hQ : Q (.inl (some (.int r.1))) (am_mk r.2)) : am_X xs L 143 d mc ms 0 [.ref 106, .int v1] [] (am_mk D) 0 0 Q := by
  unfold m143 at h
  refine x_ld (v := .ref 106) r143_0 rfl rfl rfl ?_
  refine x_ld (v := .int v1) r143_1 rfl rfl rfl ?_
  refine x_ic (v := 0) r143_2 rfl rfl ?_
  refine x_ic (v := 2) r143_3 rfl rfl ?_
  refine x_call1 (as := [.int v1, .int (0 : Int32), .int (2 : Int32)]) (rest := [.ref 106]) r143_4 rfl rfl rfl (by decide) (Nat.le_of_ble_eq_true rfl) (m46_ok rfl) (Nat.le_trans (by decide) hd) (Nat.zero_le _) (Nat.zero_le _) rfl ?_
  obtain ⟨q1, h3, h⟩ := am_ltE h
  replace h3 := h3.symm
  have kj2 : am_X xs L 143 d mc ms 15 [.ref 106, .int v1] [.int q1, .ref 106] (am_mk D) 0 0 Q := by
    obtain ⟨q5, h6, h⟩ := am_ltE h
    replace h6 := h6.symm
    refine x_call1 (as := [.ref 106, .int q1]) (rest := []) r143_15 rfl rfl rfl (by decide) (Nat.le_of_ble_eq_true rfl) (m47_ok h6) (Nat.le_trans (by decide) hd) (Nat.zero_le _) (Nat.zero_le _) rfl ?_
    rcases am_ifE h with ⟨c7, h⟩ | ⟨c7, h⟩
    · refine x_ifeqT r143_18 c7 ?_
      refine x_ic (v := 0) r143_29 rfl rfl ?_
      cases h
      exact x_ret (ret := some .int) (C := True) (v := some (.int _)) r143_30 rt143 rfl rfl rfl rfl rfl rfl rfl rfl trivial hQ
    · refine x_ifeqF r143_18 c7 rfl ?_
      refine x_ld (v := .ref 106) r143_21 rfl rfl rfl ?_
      refine x_ld (v := .int v1) r143_22 rfl rfl rfl ?_
      obtain ⟨q8, h9, h⟩ := Option.bind_eq_some_iff.mp h
      refine x_call1 (as := [.ref 106, .int v1]) (rest := []) r143_23 rfl rfl rfl (by decide) (Nat.le_of_ble_eq_true rfl) (m142_ok h9) (Nat.le_trans (by decide) hd) (Nat.zero_le _) (Nat.zero_le _) rfl ?_
      refine x_goto r143_26 ?_
      cases h
      exact x_ret (ret := some .int) (C := True) (v := some (.int _)) r143_30 rt143 rfl rfl rfl rfl rfl rfl rfl rfl trivial hQ
  rcases am_ifE h3 with ⟨c4, h3⟩ | ⟨c4, h3⟩
  · refine x_ifeqT r143_7 c4 ?_
    refine x_ic (v := 1) r143_14 rfl rfl ?_
    subst h3
    exact kj2
  · refine x_ifeqF r143_7 c4 rfl ?_
    refine x_ic (v := 0) r143_10 rfl rfl ?_
    refine x_goto r143_11 ?_
    subst h3
    exact kj2
theorem m143_ok {N : Nat} {D : am_D} {v1 : Int32} {r : Int32 × am_D} (h : m143 N D v1 = some r) : am_Y xs L 143 7 0 0 [.ref 106, .int v1] D (.inl (some (.int r.1))) r.2 := am_Yof (mi := am_m143) (lc := [.ref 106, .int v1]) pg143 (Nat.le_of_ble_eq_true rfl) (am_rc1 (ci := 8) rfl rfl rfl rfl rfl) rfl (fun Q hQ => m143_w (Nat.le_refl _) h hQ)
theorem r144_0 : am_at 144 0 = some (.aload_n 0, 1, [0]) := by decide +kernel
theorem r144_1 : am_at 144 1 = some (.iconst (0), 1, []) := by decide +kernel
theorem r144_2 : am_at 144 2 = some (.invokevirtual 124, 3, [58, 2, 1417, 0]) := by decide +kernel
theorem r144_5 : am_at 144 5 = some (.aload_n 0, 1, [0]) := by decide +kernel
theorem r144_6 : am_at 144 6 = some (.iconst (1), 1, []) := by decide +kernel
theorem r144_7 : am_at 144 7 = some (.invokevirtual 124, 3, [58, 2, 1417, 0]) := by decide +kernel
theorem r144_10 : am_at 144 10 = some (.iadd, 1, []) := by decide +kernel
theorem r144_11 : am_at 144 11 = some (.aload_n 0, 1, [0]) := by decide +kernel
theorem r144_12 : am_at 144 12 = some (.iconst (2), 1, []) := by decide +kernel
theorem r144_13 : am_at 144 13 = some (.invokevirtual 124, 3, [58, 2, 1417, 0]) := by decide +kernel
theorem r144_16 : am_at 144 16 = some (.iadd, 1, []) := by decide +kernel
theorem r144_17 : am_at 144 17 = some (.aload_n 0, 1, [0]) := by decide +kernel
theorem r144_18 : am_at 144 18 = some (.iconst (3), 1, []) := by decide +kernel
theorem r144_19 : am_at 144 19 = some (.invokevirtual 124, 3, [58, 2, 1417, 0]) := by decide +kernel
theorem r144_22 : am_at 144 22 = some (.iadd, 1, []) := by decide +kernel
theorem r144_23 : am_at 144 23 = some (.istore_n 1, 1, [1]) := by decide +kernel
theorem r144_24 : am_at 144 24 = some (.aload_n 0, 1, [0]) := by decide +kernel
theorem r144_25 : am_at 144 25 = some (.invokevirtual 299, 3, [135, 1, 1655, 0]) := by decide +kernel
theorem r144_28 : am_at 144 28 = some (.ifCond .ne (7), 3, [35]) := by decide +kernel
theorem r144_31 : am_at 144 31 = some (.fconst 0, 1, []) := by decide +kernel
theorem r144_32 : am_at 144 32 = some (.goto (11), 3, [43]) := by decide +kernel
theorem r144_35 : am_at 144 35 = some (.iload_n 1, 1, [1]) := by decide +kernel
theorem r144_36 : am_at 144 36 = some (.i2f, 1, []) := by decide +kernel
theorem r144_37 : am_at 144 37 = some (.aload_n 0, 1, [0]) := by decide +kernel
theorem r144_38 : am_at 144 38 = some (.invokevirtual 299, 3, [135, 1, 1655, 0]) := by decide +kernel
theorem r144_41 : am_at 144 41 = some (.i2f, 1, []) := by decide +kernel
theorem r144_42 : am_at 144 42 = some (.fdiv, 1, []) := by decide +kernel
theorem r144_43 : am_at 144 43 = some (.freturn, 1, []) := by decide +kernel
theorem rt144 : am_rtt 144 = some (some .float) := by decide +kernel
set_option maxRecDepth 100000 in
theorem pg144 : am_pg[144]? = some am_m144 := rfl
theorem m144_w {d mc ms : Nat} {N : Nat} {D : am_D} {Q : am_O → am_AH → Prop} (hd : 3 ≤ d) {r : UInt32} (h : m144 N D = some r) (hQ : Q (.inl (some (.float r))) (am_mk D)) : am_X xs L 144 d mc ms 0 [.ref 106, am_dead] [] (am_mk D) 0 0 Q := by
  unfold m144 at h
  refine x_ld (v := .ref 106) r144_0 rfl rfl rfl ?_
  refine x_ic (v := 0) r144_1 rfl rfl ?_
  obtain ⟨q1, h2, h⟩ := Option.bind_eq_some_iff.mp h
  refine x_call1 (as := [.ref 106, .int (0 : Int32)]) (rest := []) r144_2 rfl rfl rfl (by decide) (Nat.le_of_ble_eq_true rfl) (m58_ok h2) (Nat.le_trans (by decide) hd) (Nat.zero_le _) (Nat.zero_le _) rfl ?_
  refine x_ld (v := .ref 106) r144_5 rfl rfl rfl ?_
  refine x_ic (v := 1) r144_6 rfl rfl ?_
  obtain ⟨q3, h4, h⟩ := Option.bind_eq_some_iff.mp h
  refine x_call1 (as := [.ref 106, .int (1 : Int32)]) (rest := [.int q1]) r144_7 rfl rfl rfl (by decide) (Nat.le_of_ble_eq_true rfl) (m58_ok h4) (Nat.le_trans (by decide) hd) (Nat.zero_le _) (Nat.zero_le _) rfl ?_
  refine x_ar r144_10 rfl trivial rfl ?_
  refine x_ld (v := .ref 106) r144_11 rfl rfl rfl ?_
  refine x_ic (v := 2) r144_12 rfl rfl ?_
  obtain ⟨q5, h6, h⟩ := Option.bind_eq_some_iff.mp h
  refine x_call1 (as := [.ref 106, .int (2 : Int32)]) (rest := [.int (q1 + q3)]) r144_13 rfl rfl rfl (by decide) (Nat.le_of_ble_eq_true rfl) (m58_ok h6) (Nat.le_trans (by decide) hd) (Nat.zero_le _) (Nat.zero_le _) rfl ?_
  refine x_ar r144_16 rfl trivial rfl ?_
  refine x_ld (v := .ref 106) r144_17 rfl rfl rfl ?_
  refine x_ic (v := 3) r144_18 rfl rfl ?_
  obtain ⟨q7, h8, h⟩ := Option.bind_eq_some_iff.mp h
  refine x_call1 (as := [.ref 106, .int (3 : Int32)]) (rest := [.int ((q1 + q3) + q5)]) r144_19 rfl rfl rfl (by decide) (Nat.le_of_ble_eq_true rfl) (m58_ok h8) (Nat.le_trans (by decide) hd) (Nat.zero_le _) (Nat.zero_le _) rfl ?_
  refine x_ar r144_22 rfl trivial rfl ?_
  obtain ⟨x9, e10, h⟩ := am_ltE h
  refine am_topI e10 ?_
  refine x_sto (lc' := [.ref 106, .int x9]) r144_23 rfl rfl rfl rfl ?_
  refine x_ld (v := .ref 106) r144_24 rfl rfl rfl ?_
  obtain ⟨q11, h12, h⟩ := Option.bind_eq_some_iff.mp h
  refine x_call1 (as := [.ref 106]) (rest := []) r144_25 rfl rfl rfl (by decide) (Nat.le_of_ble_eq_true rfl) (m135_ok h12) (Nat.le_trans (by decide) hd) (Nat.zero_le _) (Nat.zero_le _) rfl ?_
  obtain ⟨q13, h15, h⟩ := Option.bind_eq_some_iff.mp h
  have kj14 : am_X xs L 144 d mc ms 43 [.ref 106, .int x9] [.float q13] (am_mk D) 0 0 Q := by
    cases h
    exact x_ret (ret := some .float) (C := True) (v := some (.float _)) r144_43 rt144 rfl rfl rfl rfl rfl rfl rfl rfl trivial hQ
  rcases am_ifE h15 with ⟨c16, h15⟩ | ⟨c16, h15⟩
  · refine x_ifneT r144_28 c16 rfl ?_
    refine x_ar r144_31 rfl trivial rfl ?_
    refine x_goto r144_32 ?_
    cases h15
    exact kj14
  · refine x_ifneF r144_28 c16 ?_
    refine x_ld (v := .int x9) r144_35 rfl rfl rfl ?_
    refine x_ar r144_36 rfl trivial rfl ?_
    refine x_ld (v := .ref 106) r144_37 rfl rfl rfl ?_
    obtain ⟨q17, h18, h15⟩ := Option.bind_eq_some_iff.mp h15
    refine x_call1 (as := [.ref 106]) (rest := [.float ((FP.i2f x9))]) r144_38 rfl rfl rfl (by decide) (Nat.le_of_ble_eq_true rfl) (m135_ok h18) (Nat.le_trans (by decide) hd) (Nat.zero_le _) (Nat.zero_le _) rfl ?_
    refine x_ar r144_41 rfl trivial rfl ?_
    obtain ⟨g19, h15⟩ := am_gdE h15
    refine x_ar r144_42 rfl g19 rfl ?_
    cases h15
    exact kj14
theorem m144_ok {N : Nat} {D : am_D} {r : UInt32} (h : m144 N D = some r) : am_Y xs L 144 3 0 0 [.ref 106] D (.inl (some (.float r))) D := am_Yof (mi := am_m144) (lc := [.ref 106, am_dead]) pg144 (Nat.le_of_ble_eq_true rfl) (am_rc1 (ci := 8) rfl rfl rfl rfl rfl) rfl (fun Q hQ => m144_w (Nat.le_refl _) h hQ)
theorem r145_0 : am_at 145 0 = some (.aload_n 0, 1, [0]) := by decide +kernel
theorem r145_1 : am_at 145 1 = some (.iconst (0), 1, []) := by decide +kernel
theorem r145_2 : am_at 145 2 = some (.putfield 61, 3, [8, 0, 0, 1215]) := by decide +kernel
theorem r145_5 : am_at 145 5 = some (.aload_n 0, 1, [0]) := by decide +kernel
theorem r145_6 : am_at 145 6 = some (.invokevirtual 308, 3, [144, 1, 1687, 0]) := by decide +kernel
theorem r145_9 : am_at 145 9 = some (.freturn, 1, []) := by decide +kernel
theorem rt145 : am_rtt 145 = some (some .float) := by decide +kernel
set_option maxRecDepth 100000 in
theorem pg145 : am_pg[145]? = some am_m145 := rfl
theorem m145_w {d mc ms : Nat} {N : Nat} {D : am_D} {Q : am_O → am_AH → Prop} (hd : 4 ≤ d) {r : UInt32 × am_D} (h : m145 N D = some r) (hQ : Q (.inl (some (.float r.1))) (am_mk r.2)) : am_X xs L 145 d mc ms 0 [.ref 106] [] (am_mk D) 0 0 Q := by
  unfold m145 at h
  refine x_ld (v := .ref 106) r145_0 rfl rfl rfl ?_
  refine x_ic (v := 0) r145_1 rfl rfl ?_
  obtain ⟨D1, e2, h⟩ := am_ltE h
  refine y_pf0 r145_2 rfl e2 rfl ?_
  refine x_ld (v := .ref 106) r145_5 rfl rfl rfl ?_
  obtain ⟨q3, h4, h⟩ := Option.bind_eq_some_iff.mp h
  refine x_call1 (as := [.ref 106]) (rest := []) r145_6 rfl rfl rfl (by decide) (Nat.le_of_ble_eq_true rfl) (m144_ok h4) (Nat.le_trans (by decide) hd) (Nat.zero_le _) (Nat.zero_le _) rfl ?_
  cases h
  exact x_ret (ret := some .float) (C := True) (v := some (.float _)) r145_9 rt145 rfl rfl rfl rfl rfl rfl rfl rfl trivial hQ
theorem m145_ok {N : Nat} {D : am_D} {r : UInt32 × am_D} (h : m145 N D = some r) : am_Y xs L 145 4 0 0 [.ref 106] D (.inl (some (.float r.1))) r.2 := am_Yof (mi := am_m145) (lc := [.ref 106]) pg145 (Nat.le_of_ble_eq_true rfl) (am_rc1 (ci := 8) rfl rfl rfl rfl rfl) rfl (fun Q hQ => m145_w (Nat.le_refl _) h hQ)
theorem r146_0 : am_at 146 0 = some (.aload_n 0, 1, [0]) := by decide +kernel
theorem r146_1 : am_at 146 1 = some (.ldc2_w 312, 3, [1, 1700, 31]) := by decide +kernel
theorem r146_4 : am_at 146 4 = some (.aload_n 0, 1, [0]) := by decide +kernel
theorem r146_5 : am_at 146 5 = some (.getfield 314, 3, [8, 25, 1, 1240]) := by decide +kernel
theorem r146_8 : am_at 146 8 = some (.lmul, 1, []) := by decide +kernel
theorem r146_9 : am_at 146 9 = some (.lload_n 1, 1, [1]) := by decide +kernel
theorem r146_10 : am_at 146 10 = some (.ladd, 1, []) := by decide +kernel
theorem r146_11 : am_at 146 11 = some (.putfield 314, 3, [8, 25, 1, 1240]) := by decide +kernel
theorem r146_14 : am_at 146 14 = some (.return_, 1, []) := by decide +kernel
theorem rt146 : am_rtt 146 = some (none) := by decide +kernel
set_option maxRecDepth 100000 in
theorem pg146 : am_pg[146]? = some am_m146 := rfl
theorem m146_w {d mc ms : Nat} {D : am_D} {v1 : Int64} {Q : am_O → am_AH → Prop} (hd : 1 ≤ d) {r : am_D} (h : m146 D v1 = r) (hQ : Q (.inl none) (am_mk r)) : am_X xs L 146 d mc ms 0 [.ref 106, .long v1, am_dead] [] (am_mk D) 0 0 Q := by
  unfold m146 at h
  refine x_ld (v := .ref 106) r146_0 rfl rfl rfl ?_
  refine x_sp r146_1 rfl rfl rfl rfl rfl rfl trivial rfl ?_
  refine x_ld (v := .ref 106) r146_4 rfl rfl rfl ?_
  refine y_gf (cd := 1) (v := .long (D.2.1 106 25)) r146_5 rfl rfl rfl ?_
  refine x_ar r146_8 rfl trivial rfl ?_
  refine x_ld (v := .long v1) r146_9 rfl rfl rfl ?_
  refine x_ar r146_10 rfl trivial rfl ?_
  obtain ⟨D1, e2, h⟩ := am_ltE h
  refine y_pf1 r146_11 rfl e2 rfl ?_
  subst h
  exact x_ret (ret := none) (C := True) (v := none) r146_14 rt146 rfl rfl rfl rfl rfl rfl rfl rfl trivial hQ
theorem m146_ok {D : am_D} {v1 : Int64} {r : am_D} (h : m146 D v1 = r) : am_Y xs L 146 1 0 0 [.ref 106, .long v1] D (.inl none) r := am_Yof (mi := am_m146) (lc := [.ref 106, .long v1, am_dead]) pg146 (Nat.le_of_ble_eq_true rfl) (am_rc1 (ci := 8) rfl rfl rfl rfl rfl) rfl (fun Q hQ => m146_w (Nat.le_refl _) h hQ)
theorem r147_0 : am_at 147 0 = some (.dload_n 0, 1, [0]) := by decide +kernel
theorem r147_1 : am_at 147 1 = some (.dconst 0, 1, []) := by decide +kernel
theorem r147_2 : am_at 147 2 = some (.dcmp .l, 1, []) := by decide +kernel
theorem r147_3 : am_at 147 3 = some (.ifCond .ne (5), 3, [8]) := by decide +kernel
theorem r147_6 : am_at 147 6 = some (.lconst 0, 1, []) := by decide +kernel
theorem r147_7 : am_at 147 7 = some (.lreturn, 1, []) := by decide +kernel
theorem r147_8 : am_at 147 8 = some (.dload_n 0, 1, [0]) := by decide +kernel
theorem r147_9 : am_at 147 9 = some (.dstore_n 2, 1, [2]) := by decide +kernel
theorem r147_10 : am_at 147 10 = some (.ldc2_w 318, 3, [1, 1708, 1023]) := by decide +kernel
theorem r147_13 : am_at 147 13 = some (.lstore 4, 2, [4]) := by decide +kernel
theorem r147_15 : am_at 147 15 = some (.dload_n 2, 1, [2]) := by decide +kernel
theorem r147_16 : am_at 147 16 = some (.dconst 1, 1, []) := by decide +kernel
theorem r147_17 : am_at 147 17 = some (.dcmp .g, 1, []) := by decide +kernel
theorem r147_18 : am_at 147 18 = some (.ifCond .ge (18), 3, [36]) := by decide +kernel
theorem r147_21 : am_at 147 21 = some (.dload_n 2, 1, [2]) := by decide +kernel
theorem r147_22 : am_at 147 22 = some (.ldc2_w 320, 3, [2, 1709, 4611686018427387904]) := by decide +kernel
theorem r147_25 : am_at 147 25 = some (.dmul, 1, []) := by decide +kernel
theorem r147_26 : am_at 147 26 = some (.dstore_n 2, 1, [2]) := by decide +kernel
theorem r147_27 : am_at 147 27 = some (.lload 4, 2, [4]) := by decide +kernel
theorem r147_29 : am_at 147 29 = some (.lconst 1, 1, []) := by decide +kernel
theorem r147_30 : am_at 147 30 = some (.lsub, 1, []) := by decide +kernel
theorem r147_31 : am_at 147 31 = some (.lstore 4, 2, [4]) := by decide +kernel
theorem r147_33 : am_at 147 33 = some (.goto (-18), 3, [15]) := by decide +kernel
theorem r147_36 : am_at 147 36 = some (.lload 4, 2, [4]) := by decide +kernel
theorem r147_38 : am_at 147 38 = some (.ldc2_w 322, 3, [1, 1710, 4503599627370496]) := by decide +kernel
theorem r147_41 : am_at 147 41 = some (.lmul, 1, []) := by decide +kernel
theorem r147_42 : am_at 147 42 = some (.dload_n 2, 1, [2]) := by decide +kernel
theorem r147_43 : am_at 147 43 = some (.dconst 1, 1, []) := by decide +kernel
theorem r147_44 : am_at 147 44 = some (.dsub, 1, []) := by decide +kernel
theorem r147_45 : am_at 147 45 = some (.ldc2_w 324, 3, [2, 1711, 4841369599423283200]) := by decide +kernel
theorem r147_48 : am_at 147 48 = some (.dmul, 1, []) := by decide +kernel
theorem r147_49 : am_at 147 49 = some (.d2l, 1, []) := by decide +kernel
theorem r147_50 : am_at 147 50 = some (.ladd, 1, []) := by decide +kernel
theorem r147_51 : am_at 147 51 = some (.lreturn, 1, []) := by decide +kernel
theorem rt147 : am_rtt 147 = some (some .long) := by decide +kernel
set_option maxRecDepth 100000 in
theorem pg147 : am_pg[147]? = some am_m147 := rfl
theorem m147_L15_w {d : Nat} {N : Nat} {D : am_D} {mc ms : Nat} {Q : am_O → am_AH → Prop} (hd : 1 ≤ d) : ∀ (n : Nat) (v2 : UInt64) (v4 : Int64) {q : UInt64 × Int64} (h : m147_L15 N D  n v2 v4 = some q) (k0 : am_X xs L 147 d mc ms 36 [am_dead, am_dead, .double q.1, am_dead, .long q.2, am_dead] [] (am_mk D) 0 0 Q), am_X xs L 147 d mc ms 15 [am_dead, am_dead, .double v2, am_dead, .long v4, am_dead] [] (am_mk D) 0 0 Q := by
  intro n
  induction n with
  | zero =>
    intro v2 v4 q h k0
    exact (nomatch (show none = some q from h))
  | succ n ih =>
    intro v2 v4 q h k0
    rw [m147_L15] at h
    refine x_ld (v := .double v2) r147_15 rfl rfl rfl ?_
    refine x_ar r147_16 rfl trivial rfl ?_
    refine x_ar r147_17 rfl trivial rfl ?_
    rcases am_ifE h with ⟨c4, h⟩ | ⟨c4, h⟩
    · refine x_ifgeT r147_18 c4 ?_
      refine x_forget (lc0 := [am_dead, am_dead, .double v2, am_dead, .long v4, am_dead]) ⟨Or.inl rfl, Or.inl rfl, Or.inl rfl, Or.inl rfl, Or.inl rfl, Or.inl rfl, trivial⟩ ?_
      cases h
      exact k0
    · refine x_ifgeF r147_18 c4 rfl ?_
      refine x_ld (v := .double v2) r147_21 rfl rfl rfl ?_
      refine x_sp r147_22 rfl rfl rfl rfl rfl rfl trivial rfl ?_
      obtain ⟨g5, h⟩ := am_gdE h
      refine x_ar r147_25 rfl g5 rfl ?_
      obtain ⟨x6, e7, h⟩ := am_ltE h
      refine am_topD e7 ?_
      refine x_sto (lc' := [am_dead, am_dead, .double x6, am_dead, .long v4, am_dead]) r147_26 rfl rfl rfl rfl ?_
      refine x_ld (v := .long v4) r147_27 rfl rfl rfl ?_
      refine x_ar r147_29 rfl trivial rfl ?_
      refine x_ar r147_30 rfl trivial rfl ?_
      obtain ⟨x8, e9, h⟩ := am_ltE h
      refine am_topJ e9 ?_
      refine x_sto (lc' := [am_dead, am_dead, .double x6, am_dead, .long x8, am_dead]) r147_31 rfl rfl rfl rfl ?_
      refine x_goto r147_33 ?_
      exact x_forget (lc0 := [am_dead, am_dead, .double x6, am_dead, .long x8, am_dead]) ⟨Or.inl rfl, Or.inl rfl, Or.inl rfl, Or.inl rfl, Or.inl rfl, Or.inl rfl, trivial⟩ (ih x6 x8 h k0)
theorem m147_w {d mc ms : Nat} {N : Nat} {D : am_D} {v0 : UInt64} {Q : am_O → am_AH → Prop} (hd : 1 ≤ d) {r : Int64} (h : m147 N D v0 = some r) (hQ : Q (.inl (some (.long r))) (am_mk D)) : am_X xs L 147 d mc ms 0 [.double v0, am_dead, am_dead, am_dead, am_dead, am_dead] [] (am_mk D) 0 0 Q := by
  unfold m147 at h
  refine x_ld (v := .double v0) r147_0 rfl rfl rfl ?_
  refine x_ar r147_1 rfl trivial rfl ?_
  refine x_ar r147_2 rfl trivial rfl ?_
  rcases am_ifE h with ⟨c1, h⟩ | ⟨c1, h⟩
  · refine x_ifneT r147_3 c1 rfl ?_
    refine x_ar r147_6 rfl trivial rfl ?_
    cases h
    exact x_ret (ret := some .long) (C := True) (v := some (.long _)) r147_7 rt147 rfl rfl rfl rfl rfl rfl rfl rfl trivial hQ
  · refine x_ifneF r147_3 c1 ?_
    refine x_ld (v := .double v0) r147_8 rfl rfl rfl ?_
    refine x_sto (lc' := [.double v0, am_dead, .double v0, am_dead, am_dead, am_dead]) r147_9 rfl rfl rfl rfl ?_
    refine x_sp r147_10 rfl rfl rfl rfl rfl rfl trivial rfl ?_
    obtain ⟨x2, e3, h⟩ := am_ltE h
    refine am_topJ e3 ?_
    refine x_sto (lc' := [.double v0, am_dead, .double v0, am_dead, .long x2, am_dead]) r147_13 rfl rfl rfl rfl ?_
    obtain ⟨q10, h11, h⟩ := Option.bind_eq_some_iff.mp h
    refine x_forget (lc0 := [am_dead, am_dead, .double v0, am_dead, .long x2, am_dead]) ⟨Or.inr ⟨rfl, rfl⟩, Or.inl rfl, Or.inl rfl, Or.inl rfl, Or.inl rfl, Or.inl rfl, trivial⟩ (m147_L15_w hd N v0 x2 h11 ?_)
    refine x_ld (v := .long q10.2) r147_36 rfl rfl rfl ?_
    refine x_sp r147_38 rfl rfl rfl rfl rfl rfl trivial rfl ?_
    refine x_ar r147_41 rfl trivial rfl ?_
    refine x_ld (v := .double q10.1) r147_42 rfl rfl rfl ?_
    refine x_ar r147_43 rfl trivial rfl ?_
    obtain ⟨g12, h⟩ := am_gdE h
    refine x_ar r147_44 rfl g12 rfl ?_
    refine x_sp r147_45 rfl rfl rfl rfl rfl rfl trivial rfl ?_
    obtain ⟨g13, h⟩ := am_gdE h
    refine x_ar r147_48 rfl g13 rfl ?_
    refine x_ar r147_49 rfl trivial rfl ?_
    refine x_ar r147_50 rfl trivial rfl ?_
    cases h
    exact x_ret (ret := some .long) (C := True) (v := some (.long _)) r147_51 rt147 rfl rfl rfl rfl rfl rfl rfl rfl trivial hQ
theorem m147_ok {N : Nat} {D : am_D} {v0 : UInt64} {r : Int64} (h : m147 N D v0 = some r) : am_Y xs L 147 1 0 0 [.double v0] D (.inl (some (.long r))) D := am_Yof (mi := am_m147) (lc := [.double v0, am_dead, am_dead, am_dead, am_dead, am_dead]) pg147 (Nat.le_of_ble_eq_true rfl) (am_rc0 rfl) rfl (fun Q hQ => m147_w (Nat.le_refl _) h hQ)
end XE
