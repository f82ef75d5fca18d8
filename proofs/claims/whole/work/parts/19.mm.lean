/-! methods as functions, with their walks (by wip/tools/decomp.py): 191 193 197 205 206 208 209 211 214 220 221 226 -/
section XE
variable {xs : Nat → Int32} {L : Nat}
theorem r191_0 : am_at 191 0 = some (.iconst (1), 1, []) := by decide +kernel
theorem r191_1 : am_at 191 1 = some (.iload_n 2, 1, [2]) := by decide +kernel
theorem r191_2 : am_at 191 2 = some (.invokestatic 62, 3, [249, 1, 655, 0]) := by decide +kernel
theorem r191_5 : am_at 191 5 = some (.ishl, 1, []) := by decide +kernel
theorem r191_6 : am_at 191 6 = some (.iconst (1), 1, []) := by decide +kernel
theorem r191_7 : am_at 191 7 = some (.iload_n 2, 1, [2]) := by decide +kernel
theorem r191_8 : am_at 191 8 = some (.invokestatic 67, 3, [250, 1, 656, 0]) := by decide +kernel
theorem r191_11 : am_at 191 11 = some (.ishl, 1, []) := by decide +kernel
theorem r191_12 : am_at 191 12 = some (.ior, 1, []) := by decide +kernel
theorem r191_13 : am_at 191 13 = some (.istore_n 3, 1, [3]) := by decide +kernel
theorem r191_14 : am_at 191 14 = some (.iconst (0), 1, []) := by decide +kernel
theorem r191_15 : am_at 191 15 = some (.istore 4, 2, [4]) := by decide +kernel
theorem r191_17 : am_at 191 17 = some (.iconst (0), 1, []) := by decide +kernel
theorem r191_18 : am_at 191 18 = some (.istore 5, 2, [5]) := by decide +kernel
theorem r191_20 : am_at 191 20 = some (.iload 5, 2, [5]) := by decide +kernel
theorem r191_22 : am_at 191 22 = some (.iconst (3), 1, []) := by decide +kernel
theorem r191_23 : am_at 191 23 = some (.if_icmp .ge (49), 3, [72]) := by decide +kernel
theorem r191_26 : am_at 191 26 = some (.aload_n 1, 1, [1]) := by decide +kernel
theorem r191_27 : am_at 191 27 = some (.getfield 70, 3, [4, 3, 3, 167]) := by decide +kernel
theorem r191_30 : am_at 191 30 = some (.aload_n 0, 1, [0]) := by decide +kernel
theorem r191_31 : am_at 191 31 = some (.getfield 28, 3, [3, 5, 0, 273]) := by decide +kernel
theorem r191_34 : am_at 191 34 = some (.iconst (1), 1, []) := by decide +kernel
theorem r191_35 : am_at 191 35 = some (.iadd, 1, []) := by decide +kernel
theorem r191_36 : am_at 191 36 = some (.iload 5, 2, [5]) := by decide +kernel
theorem r191_38 : am_at 191 38 = some (.iadd, 1, []) := by decide +kernel
theorem r191_39 : am_at 191 39 = some (.iconst (4), 1, []) := by decide +kernel
theorem r191_40 : am_at 191 40 = some (.irem, 1, []) := by decide +kernel
theorem r191_41 : am_at 191 41 = some (.invokestatic 58, 3, [180, 2, 657, 0]) := by decide +kernel
theorem r191_44 : am_at 191 44 = some (.istore 6, 2, [6]) := by decide +kernel
theorem r191_46 : am_at 191 46 = some (.iload 4, 2, [4]) := by decide +kernel
theorem r191_48 : am_at 191 48 = some (.iload 6, 2, [6]) := by decide +kernel
theorem r191_50 : am_at 191 50 = some (.iload_n 3, 1, [3]) := by decide +kernel
theorem r191_51 : am_at 191 51 = some (.iand, 1, []) := by decide +kernel
theorem r191_52 : am_at 191 52 = some (.ifCond .ne (10), 3, [62]) := by decide +kernel
theorem r191_55 : am_at 191 55 = some (.iconst (1), 1, []) := by decide +kernel
theorem r191_56 : am_at 191 56 = some (.iload 5, 2, [5]) := by decide +kernel
theorem r191_58 : am_at 191 58 = some (.ishl, 1, []) := by decide +kernel
theorem r191_59 : am_at 191 59 = some (.goto (4), 3, [63]) := by decide +kernel
theorem r191_62 : am_at 191 62 = some (.iconst (0), 1, []) := by decide +kernel
theorem r191_63 : am_at 191 63 = some (.ior, 1, []) := by decide +kernel
theorem r191_64 : am_at 191 64 = some (.istore 4, 2, [4]) := by decide +kernel
theorem r191_66 : am_at 191 66 = some (.iinc 5 (1), 3, [5]) := by decide +kernel
theorem r191_69 : am_at 191 69 = some (.goto (-49), 3, [20]) := by decide +kernel
theorem r191_72 : am_at 191 72 = some (.iload 4, 2, [4]) := by decide +kernel
theorem r191_74 : am_at 191 74 = some (.ireturn, 1, []) := by decide +kernel
theorem rt191 : am_rtt 191 = some (some .int) := by decide +kernel
set_option maxRecDepth 100000 in
theorem pg191 : am_pg[191]? = some am_m191 := rfl
theorem m191_L20_w {d : Nat} {N : Nat} {D : am_D} {v3 : Int32} {mc ms : Nat} {Q : am_O → am_AH → Prop} (hd : 2 ≤ d) : ∀ (n : Nat) (v4 : Int32) (v5 : Int32) {q : Int32} (h : m191_L20 N D v3  n v4 v5 = some q) (k0 : am_X xs L 191 d mc ms 72 [.ref 93, .ref 1, am_dead, am_dead, .int q, am_dead, am_dead] [] (am_mk D) 0 0 Q), am_X xs L 191 d mc ms 20 [.ref 93, .ref 1, am_dead, .int v3, .int v4, .int v5, am_dead] [] (am_mk D) 0 0 Q := by
  intro n
  induction n with
  | zero =>
    intro v4 v5 q h k0
    exact (nomatch (show none = some q from h))
  | succ n ih =>
    intro v4 v5 q h k0
    rw [m191_L20] at h
    refine x_ld (v := .int v5) r191_20 rfl rfl rfl ?_
    refine x_ic (v := 3) r191_22 rfl rfl ?_
    rcases am_ifE h with ⟨c3, h⟩ | ⟨c3, h⟩
    · refine x_icgeT r191_23 c3 ?_
      refine x_forget (lc0 := [.ref 93, .ref 1, am_dead, am_dead, .int v4, am_dead, am_dead]) ⟨Or.inl rfl, Or.inl rfl, Or.inl rfl, Or.inr ⟨rfl, rfl⟩, Or.inl rfl, Or.inr ⟨rfl, rfl⟩, Or.inl rfl, trivial⟩ ?_
      cases h
      exact k0
    · refine x_icgeF r191_23 c3 rfl ?_
      refine x_ld (v := .ref 1) r191_26 rfl rfl rfl ?_
      refine y_gf (cd := 11) (v := .ref 9) r191_27 rfl rfl rfl ?_
      refine x_ld (v := .ref 93) r191_30 rfl rfl rfl ?_
      refine y_gf (cd := 0) (v := .int (D.1 93 5)) r191_31 rfl rfl rfl ?_
      refine x_ic (v := 1) r191_34 rfl rfl ?_
      refine x_ar r191_35 rfl trivial rfl ?_
      refine x_ld (v := .int v5) r191_36 rfl rfl rfl ?_
      refine x_ar r191_38 rfl trivial rfl ?_
      refine x_ic (v := 4) r191_39 rfl rfl ?_
      refine x_ar r191_40 rfl (by decide) rfl ?_
      refine x_call1 (as := [.ref 9, .int ((((D.1 93 5) + (1 : Int32)) + v5) - (((D.1 93 5) + (1 : Int32)) + v5) / (4 : Int32) * (4 : Int32))]) (rest := []) r191_41 rfl rfl rfl (by decide) (Nat.le_of_ble_eq_true rfl) (am_rows_at (n := 4) rfl (by decide)) (Nat.le_trans (by decide) hd) (Nat.zero_le _) (Nat.zero_le _) rfl ?_
      obtain ⟨x4, e5, h⟩ := am_ltE h
      refine am_topI e5 ?_
      refine x_sto (lc' := [.ref 93, .ref 1, am_dead, .int v3, .int v4, .int v5, .int x4]) r191_44 rfl rfl rfl rfl ?_
      refine x_ld (v := .int v4) r191_46 rfl rfl rfl ?_
      refine x_ld (v := .int x4) r191_48 rfl rfl rfl ?_
      refine x_ld (v := .int v3) r191_50 rfl rfl rfl ?_
      refine x_ar r191_51 rfl trivial rfl ?_
      obtain ⟨q6, h8, h⟩ := am_ltE h
      replace h8 := h8.symm
      have kj7 : am_X xs L 191 d mc ms 63 [.ref 93, .ref 1, am_dead, .int v3, .int v4, .int v5, .int x4] [.int q6, .int v4] (am_mk D) 0 0 Q := by
        refine x_ar r191_63 rfl trivial rfl ?_
        obtain ⟨x10, e11, h⟩ := am_ltE h
        refine am_topI e11 ?_
        refine x_sto (lc' := [.ref 93, .ref 1, am_dead, .int v3, .int x10, .int v5, .int x4]) r191_64 rfl rfl rfl rfl ?_
        obtain ⟨x12, e13, h⟩ := am_ltE h
        refine x_sto (lc' := [.ref 93, .ref 1, am_dead, .int v3, .int x10, .int x12, .int x4]) r191_66 rfl rfl (by subst e13; rfl) rfl ?_
        refine x_goto r191_69 ?_
        exact x_forget (lc0 := [.ref 93, .ref 1, am_dead, .int v3, .int x10, .int x12, am_dead]) ⟨Or.inl rfl, Or.inl rfl, Or.inl rfl, Or.inl rfl, Or.inl rfl, Or.inl rfl, Or.inr ⟨rfl, rfl⟩, trivial⟩ (ih x10 x12 h k0)
      rcases am_ifE h8 with ⟨c9, h8⟩ | ⟨c9, h8⟩
      · refine x_ifneT r191_52 c9 rfl ?_
        refine x_ic (v := 1) r191_55 rfl rfl ?_
        refine x_ld (v := .int v5) r191_56 rfl rfl rfl ?_
        refine x_ar r191_58 rfl trivial rfl ?_
        refine x_goto r191_59 ?_
        subst h8
        exact kj7
      · refine x_ifneF r191_52 c9 ?_
        refine x_ic (v := 0) r191_62 rfl rfl ?_
        subst h8
        exact kj7
theorem m191_w {d mc ms : Nat} {N : Nat} {D : am_D} {v2 : Int32} {Q : am_O → am_AH → Prop} (hd : 2 ≤ d) {r : Int32} (h : m191 N D v2 = some r) (hQ : Q (.inl (some (.int r))) (am_mk D)) : am_X xs L 191 d mc ms 0 [.ref 93, .ref 1, .int v2, am_dead, am_dead, am_dead, am_dead] [] (am_mk D) 0 0 Q := by
  unfold m191 at h
  refine x_ic (v := 1) r191_0 rfl rfl ?_
  refine x_ld (v := .int v2) r191_1 rfl rfl rfl ?_
  refine x_call1 (as := [.int v2]) (rest := [.int (1 : Int32)]) r191_2 rfl rfl rfl (by decide) (Nat.le_of_ble_eq_true rfl) (m249_ok rfl) (Nat.le_trans (by decide) hd) (Nat.zero_le _) (Nat.zero_le _) rfl ?_
  refine x_ar r191_5 rfl trivial rfl ?_
  refine x_ic (v := 1) r191_6 rfl rfl ?_
  refine x_ld (v := .int v2) r191_7 rfl rfl rfl ?_
  refine x_call1 (as := [.int v2]) (rest := [.int (1 : Int32), .int ((1 : Int32) <<< ((m249 v2) &&& 31))]) r191_8 rfl rfl rfl (by decide) (Nat.le_of_ble_eq_true rfl) (m250_ok rfl) (Nat.le_trans (by decide) hd) (Nat.zero_le _) (Nat.zero_le _) rfl ?_
  refine x_ar r191_11 rfl trivial rfl ?_
  refine x_ar r191_12 rfl trivial rfl ?_
  obtain ⟨x1, e2, h⟩ := am_ltE h
  refine am_topI e2 ?_
  refine x_sto (lc' := [.ref 93, .ref 1, .int v2, .int x1, am_dead, am_dead, am_dead]) r191_13 rfl rfl rfl rfl ?_
  refine x_ic (v := 0) r191_14 rfl rfl ?_
  refine x_sto (lc' := [.ref 93, .ref 1, .int v2, .int x1, .int (0 : Int32), am_dead, am_dead]) r191_15 rfl rfl rfl rfl ?_
  refine x_ic (v := 0) r191_17 rfl rfl ?_
  refine x_sto (lc' := [.ref 93, .ref 1, .int v2, .int x1, .int (0 : Int32), .int (0 : Int32), am_dead]) r191_18 rfl rfl rfl rfl ?_
  obtain ⟨q14, h15, h⟩ := Option.bind_eq_some_iff.mp h
  refine x_forget (lc0 := [.ref 93, .ref 1, am_dead, .int x1, .int (0 : Int32), .int (0 : Int32), am_dead]) ⟨Or.inl rfl, Or.inl rfl, Or.inr ⟨rfl, rfl⟩, Or.inl rfl, Or.inl rfl, Or.inl rfl, Or.inl rfl, trivial⟩ (m191_L20_w hd N (0 : Int32) (0 : Int32) h15 ?_)
  refine x_ld (v := .int q14) r191_72 rfl rfl rfl ?_
  cases h
  exact x_ret (ret := some .int) (C := True) (v := some (.int _)) r191_74 rt191 rfl rfl rfl rfl rfl rfl rfl rfl trivial hQ
theorem m191_ok {N : Nat} {D : am_D} {v2 : Int32} {r : Int32} (h : m191 N D v2 = some r) : am_Y xs L 191 2 0 0 [.ref 93, .ref 1, .int v2] D (.inl (some (.int r))) D := am_Yof (mi := am_m191) (lc := [.ref 93, .ref 1, .int v2, am_dead, am_dead, am_dead, am_dead]) pg191 (Nat.le_of_ble_eq_true rfl) (am_rc1 (ci := 3) rfl rfl rfl rfl rfl) rfl (fun Q hQ => m191_w (Nat.le_refl _) h hQ)
theorem r193_0 : am_at 193 0 = some (.aload_n 0, 1, [0]) := by decide +kernel
theorem r193_1 : am_at 193 1 = some (.getfield 11, 3, [3, 0, 3, 268]) := by decide +kernel
theorem r193_4 : am_at 193 4 = some (.iconst (0), 1, []) := by decide +kernel
theorem r193_5 : am_at 193 5 = some (.invokestatic 58, 3, [180, 2, 657, 0]) := by decide +kernel
theorem r193_8 : am_at 193 8 = some (.iload_n 2, 1, [2]) := by decide +kernel
theorem r193_9 : am_at 193 9 = some (.invokestatic 85, 3, [1001, 0, 673]) := by decide +kernel
theorem r193_12 : am_at 193 12 = some (.istore_n 3, 1, [3]) := by decide +kernel
theorem r193_13 : am_at 193 13 = some (.iload_n 3, 1, [3]) := by decide +kernel
theorem r193_14 : am_at 193 14 = some (.ifCond .lt (141), 3, [155]) := by decide +kernel
theorem r193_17 : am_at 193 17 = some (.iload_n 2, 1, [2]) := by decide +kernel
theorem r193_18 : am_at 193 18 = some (.iload_n 3, 1, [3]) := by decide +kernel
theorem r193_19 : am_at 193 19 = some (.isub, 1, []) := by decide +kernel
theorem r193_20 : am_at 193 20 = some (.istore 4, 2, [4]) := by decide +kernel
theorem r193_22 : am_at 193 22 = some (.iconst (0), 1, []) := by decide +kernel
theorem r193_23 : am_at 193 23 = some (.iload 4, 2, [4]) := by decide +kernel
theorem r193_25 : am_at 193 25 = some (.aload_n 0, 1, [0]) := by decide +kernel
theorem r193_26 : am_at 193 26 = some (.getfield 11, 3, [3, 0, 3, 268]) := by decide +kernel
theorem r193_29 : am_at 193 29 = some (.iconst (2), 1, []) := by decide +kernel
theorem r193_30 : am_at 193 30 = some (.invokestatic 58, 3, [180, 2, 657, 0]) := by decide +kernel
theorem r193_33 : am_at 193 33 = some (.isub, 1, []) := by decide +kernel
theorem r193_34 : am_at 193 34 = some (.invokestatic 91, 3, [1000, 0, 674]) := by decide +kernel
theorem r193_37 : am_at 193 37 = some (.istore 5, 2, [5]) := by decide +kernel
theorem r193_39 : am_at 193 39 = some (.aload_n 0, 1, [0]) := by decide +kernel
theorem r193_40 : am_at 193 40 = some (.getfield 11, 3, [3, 0, 3, 268]) := by decide +kernel
theorem r193_43 : am_at 193 43 = some (.iconst (1), 1, []) := by decide +kernel
theorem r193_44 : am_at 193 44 = some (.invokestatic 58, 3, [180, 2, 657, 0]) := by decide +kernel
theorem r193_47 : am_at 193 47 = some (.iload 4, 2, [4]) := by decide +kernel
theorem r193_49 : am_at 193 49 = some (.invokestatic 85, 3, [1001, 0, 673]) := by decide +kernel
theorem r193_52 : am_at 193 52 = some (.istore 6, 2, [6]) := by decide +kernel
theorem r193_54 : am_at 193 54 = some (.iload 6, 2, [6]) := by decide +kernel
theorem r193_56 : am_at 193 56 = some (.iload 5, 2, [5]) := by decide +kernel
theorem r193_58 : am_at 193 58 = some (.if_icmp .lt (91), 3, [149]) := by decide +kernel
theorem r193_61 : am_at 193 61 = some (.lconst 0, 1, []) := by decide +kernel
theorem r193_62 : am_at 193 62 = some (.lstore 7, 2, [7]) := by decide +kernel
theorem r193_64 : am_at 193 64 = some (.lload 7, 2, [7]) := by decide +kernel
theorem r193_66 : am_at 193 66 = some (.iload_n 1, 1, [1]) := by decide +kernel
theorem r193_67 : am_at 193 67 = some (.iconst (1), 1, []) := by decide +kernel
theorem r193_68 : am_at 193 68 = some (.iand, 1, []) := by decide +kernel
theorem r193_69 : am_at 193 69 = some (.ifCond .eq (15), 3, [84]) := by decide +kernel
theorem r193_72 : am_at 193 72 = some (.aload_n 0, 1, [0]) := by decide +kernel
theorem r193_73 : am_at 193 73 = some (.iload_n 3, 1, [3]) := by decide +kernel
theorem r193_74 : am_at 193 74 = some (.iconst (1), 1, []) := by decide +kernel
theorem r193_75 : am_at 193 75 = some (.isub, 1, []) := by decide +kernel
theorem r193_76 : am_at 193 76 = some (.iload 6, 2, [6]) := by decide +kernel
theorem r193_78 : am_at 193 78 = some (.invokevirtual 81, 3, [194, 3, 675, 0]) := by decide +kernel
theorem r193_81 : am_at 193 81 = some (.goto (4), 3, [85]) := by decide +kernel
theorem r193_84 : am_at 193 84 = some (.lconst 0, 1, []) := by decide +kernel
theorem r193_85 : am_at 193 85 = some (.ladd, 1, []) := by decide +kernel
theorem r193_86 : am_at 193 86 = some (.lstore 7, 2, [7]) := by decide +kernel
theorem r193_88 : am_at 193 88 = some (.lload 7, 2, [7]) := by decide +kernel
theorem r193_90 : am_at 193 90 = some (.iload_n 1, 1, [1]) := by decide +kernel
theorem r193_91 : am_at 193 91 = some (.iconst (2), 1, []) := by decide +kernel
theorem r193_92 : am_at 193 92 = some (.iand, 1, []) := by decide +kernel
theorem r193_93 : am_at 193 93 = some (.ifCond .eq (15), 3, [108]) := by decide +kernel
theorem r193_96 : am_at 193 96 = some (.aload_n 0, 1, [0]) := by decide +kernel
theorem r193_97 : am_at 193 97 = some (.iload_n 3, 1, [3]) := by decide +kernel
theorem r193_98 : am_at 193 98 = some (.iload 6, 2, [6]) := by decide +kernel
theorem r193_100 : am_at 193 100 = some (.iconst (1), 1, []) := by decide +kernel
theorem r193_101 : am_at 193 101 = some (.isub, 1, []) := by decide +kernel
theorem r193_102 : am_at 193 102 = some (.invokevirtual 81, 3, [194, 3, 675, 0]) := by decide +kernel
theorem r193_105 : am_at 193 105 = some (.goto (4), 3, [109]) := by decide +kernel
theorem r193_108 : am_at 193 108 = some (.lconst 0, 1, []) := by decide +kernel
theorem r193_109 : am_at 193 109 = some (.ladd, 1, []) := by decide +kernel
theorem r193_110 : am_at 193 110 = some (.lstore 7, 2, [7]) := by decide +kernel
theorem r193_112 : am_at 193 112 = some (.lload 7, 2, [7]) := by decide +kernel
theorem r193_114 : am_at 193 114 = some (.iload_n 1, 1, [1]) := by decide +kernel
theorem r193_115 : am_at 193 115 = some (.iconst (4), 1, []) := by decide +kernel
theorem r193_116 : am_at 193 116 = some (.iand, 1, []) := by decide +kernel
theorem r193_117 : am_at 193 117 = some (.ifCond .eq (13), 3, [130]) := by decide +kernel
theorem r193_120 : am_at 193 120 = some (.aload_n 0, 1, [0]) := by decide +kernel
theorem r193_121 : am_at 193 121 = some (.iload_n 3, 1, [3]) := by decide +kernel
theorem r193_122 : am_at 193 122 = some (.iload 6, 2, [6]) := by decide +kernel
theorem r193_124 : am_at 193 124 = some (.invokevirtual 81, 3, [194, 3, 675, 0]) := by decide +kernel
theorem r193_127 : am_at 193 127 = some (.goto (4), 3, [131]) := by decide +kernel
theorem r193_130 : am_at 193 130 = some (.lconst 0, 1, []) := by decide +kernel
theorem r193_131 : am_at 193 131 = some (.ladd, 1, []) := by decide +kernel
theorem r193_132 : am_at 193 132 = some (.lstore 7, 2, [7]) := by decide +kernel
theorem r193_134 : am_at 193 134 = some (.aload_n 0, 1, [0]) := by decide +kernel
theorem r193_135 : am_at 193 135 = some (.iload_n 3, 1, [3]) := by decide +kernel
theorem r193_136 : am_at 193 136 = some (.iload 6, 2, [6]) := by decide +kernel
theorem r193_138 : am_at 193 138 = some (.lload 7, 2, [7]) := by decide +kernel
theorem r193_140 : am_at 193 140 = some (.invokevirtual 73, 3, [195, 4, 665, 0]) := by decide +kernel
theorem r193_143 : am_at 193 143 = some (.iinc 6 (-1), 3, [6]) := by decide +kernel
theorem r193_146 : am_at 193 146 = some (.goto (-92), 3, [54]) := by decide +kernel
theorem r193_149 : am_at 193 149 = some (.iinc 3 (-1), 3, [3]) := by decide +kernel
theorem r193_152 : am_at 193 152 = some (.goto (-139), 3, [13]) := by decide +kernel
theorem r193_155 : am_at 193 155 = some (.return_, 1, []) := by decide +kernel
theorem rt193 : am_rtt 193 = some (none) := by decide +kernel
set_option maxRecDepth 100000 in
theorem pg193 : am_pg[193]? = some am_m193 := rfl
theorem m193_L54_w {d : Nat} {N : Nat} {v1 : Int32} {v2 : Int32} {v3 : Int32} {v5 : Int32} {mc ms : Nat} {Q : am_O → am_AH → Prop} (hd : 2 ≤ d) : ∀ (n : Nat) (D : am_D) (v6 : Int32) {q : am_D} (h : m193_L54 N v1 v2 v3 v5  n D v6 = some q) (k0 : am_X xs L 193 d mc ms 149 [.ref 93, .int v1, .int v2, .int v3, am_dead, am_dead, am_dead, am_dead, am_dead] [] (am_mk q) 0 0 Q), am_X xs L 193 d mc ms 54 [.ref 93, .int v1, .int v2, .int v3, am_dead, .int v5, .int v6, am_dead, am_dead] [] (am_mk D) 0 0 Q := by
  intro n
  induction n with
  | zero =>
    intro D v6 q h k0
    exact (nomatch (show none = some q from h))
  | succ n ih =>
    intro D v6 q h k0
    rw [m193_L54] at h
    refine x_ld (v := .int v6) r193_54 rfl rfl rfl ?_
    refine x_ld (v := .int v5) r193_56 rfl rfl rfl ?_
    rcases am_ifE h with ⟨c10, h⟩ | ⟨c10, h⟩
    · refine x_icltT r193_58 c10 ?_
      refine x_forget (lc0 := [.ref 93, .int v1, .int v2, .int v3, am_dead, am_dead, am_dead, am_dead, am_dead]) ⟨Or.inl rfl, Or.inl rfl, Or.inl rfl, Or.inl rfl, Or.inl rfl, Or.inr ⟨rfl, rfl⟩, Or.inr ⟨rfl, rfl⟩, Or.inl rfl, Or.inl rfl, trivial⟩ ?_
      cases h
      exact k0
    · refine x_icltF r193_58 c10 rfl ?_
      refine x_ar r193_61 rfl trivial rfl ?_
      obtain ⟨x11, e12, h⟩ := am_ltE h
      refine am_topJ e12 ?_
      refine x_sto (lc' := [.ref 93, .int v1, .int v2, .int v3, am_dead, .int v5, .int v6, .long x11, am_dead]) r193_62 rfl rfl rfl rfl ?_
      refine x_ld (v := .long x11) r193_64 rfl rfl rfl ?_
      refine x_ld (v := .int v1) r193_66 rfl rfl rfl ?_
      refine x_ic (v := 1) r193_67 rfl rfl ?_
      refine x_ar r193_68 rfl trivial rfl ?_
      obtain ⟨q13, h15, h⟩ := Option.bind_eq_some_iff.mp h
      have kj14 : am_X xs L 193 d mc ms 85 [.ref 93, .int v1, .int v2, .int v3, am_dead, .int v5, .int v6, .long x11, am_dead] [.long q13, .long x11] (am_mk D) 0 0 Q := by
        refine x_ar r193_85 rfl trivial rfl ?_
        obtain ⟨x19, e20, h⟩ := am_ltE h
        refine am_topJ e20 ?_
        refine x_sto (lc' := [.ref 93, .int v1, .int v2, .int v3, am_dead, .int v5, .int v6, .long x19, am_dead]) r193_86 rfl rfl rfl rfl ?_
        refine x_ld (v := .long x19) r193_88 rfl rfl rfl ?_
        refine x_ld (v := .int v1) r193_90 rfl rfl rfl ?_
        refine x_ic (v := 2) r193_91 rfl rfl ?_
        refine x_ar r193_92 rfl trivial rfl ?_
        obtain ⟨q21, h23, h⟩ := Option.bind_eq_some_iff.mp h
        have kj22 : am_X xs L 193 d mc ms 109 [.ref 93, .int v1, .int v2, .int v3, am_dead, .int v5, .int v6, .long x19, am_dead] [.long q21, .long x19] (am_mk D) 0 0 Q := by
          refine x_ar r193_109 rfl trivial rfl ?_
          obtain ⟨x27, e28, h⟩ := am_ltE h
          refine am_topJ e28 ?_
          refine x_sto (lc' := [.ref 93, .int v1, .int v2, .int v3, am_dead, .int v5, .int v6, .long x27, am_dead]) r193_110 rfl rfl rfl rfl ?_
          refine x_ld (v := .long x27) r193_112 rfl rfl rfl ?_
          refine x_ld (v := .int v1) r193_114 rfl rfl rfl ?_
          refine x_ic (v := 4) r193_115 rfl rfl ?_
          refine x_ar r193_116 rfl trivial rfl ?_
          obtain ⟨q29, h31, h⟩ := Option.bind_eq_some_iff.mp h
          have kj30 : am_X xs L 193 d mc ms 131 [.ref 93, .int v1, .int v2, .int v3, am_dead, .int v5, .int v6, .long x27, am_dead] [.long q29, .long x27] (am_mk D) 0 0 Q := by
            refine x_ar r193_131 rfl trivial rfl ?_
            obtain ⟨x35, e36, h⟩ := am_ltE h
            refine am_topJ e36 ?_
            refine x_sto (lc' := [.ref 93, .int v1, .int v2, .int v3, am_dead, .int v5, .int v6, .long x35, am_dead]) r193_132 rfl rfl rfl rfl ?_
            refine x_ld (v := .ref 93) r193_134 rfl rfl rfl ?_
            refine x_ld (v := .int v3) r193_135 rfl rfl rfl ?_
            refine x_ld (v := .int v6) r193_136 rfl rfl rfl ?_
            refine x_ld (v := .long x35) r193_138 rfl rfl rfl ?_
            obtain ⟨q37, h38, h⟩ := am_ltE h
            replace h38 := h38.symm
            refine x_call0 (as := [.ref 93, .int v3, .int v6, .long x35]) (rest := []) r193_140 rfl rfl rfl (by decide) (Nat.le_of_ble_eq_true rfl) (m195_ok h38) (Nat.le_trans (by decide) hd) (Nat.zero_le _) (Nat.zero_le _) rfl ?_
            obtain ⟨x39, e40, h⟩ := am_ltE h
            refine x_sto (lc' := [.ref 93, .int v1, .int v2, .int v3, am_dead, .int v5, .int x39, .long x35, am_dead]) r193_143 rfl rfl (by subst e40; rfl) rfl ?_
            refine x_goto r193_146 ?_
            exact x_forget (lc0 := [.ref 93, .int v1, .int v2, .int v3, am_dead, .int v5, .int x39, am_dead, am_dead]) ⟨Or.inl rfl, Or.inl rfl, Or.inl rfl, Or.inl rfl, Or.inl rfl, Or.inl rfl, Or.inl rfl, Or.inr ⟨rfl, rfl⟩, Or.inl rfl, trivial⟩ (ih q37 x39 h k0)
          rcases am_ifE h31 with ⟨c32, h31⟩ | ⟨c32, h31⟩
          · refine x_ifeqT r193_117 c32 ?_
            refine x_ar r193_130 rfl trivial rfl ?_
            cases h31
            exact kj30
          · refine x_ifeqF r193_117 c32 rfl ?_
            refine x_ld (v := .ref 93) r193_120 rfl rfl rfl ?_
            refine x_ld (v := .int v3) r193_121 rfl rfl rfl ?_
            refine x_ld (v := .int v6) r193_122 rfl rfl rfl ?_
            obtain ⟨q33, h34, h31⟩ := Option.bind_eq_some_iff.mp h31
            refine x_call1 (as := [.ref 93, .int v3, .int v6]) (rest := [.long x27]) r193_124 rfl rfl rfl (by decide) (Nat.le_of_ble_eq_true rfl) (m194_ok h34) (Nat.le_trans (by decide) hd) (Nat.zero_le _) (Nat.zero_le _) rfl ?_
            refine x_goto r193_127 ?_
            cases h31
            exact kj30
        rcases am_ifE h23 with ⟨c24, h23⟩ | ⟨c24, h23⟩
        · refine x_ifeqT r193_93 c24 ?_
          refine x_ar r193_108 rfl trivial rfl ?_
          cases h23
          exact kj22
        · refine x_ifeqF r193_93 c24 rfl ?_
          refine x_ld (v := .ref 93) r193_96 rfl rfl rfl ?_
          refine x_ld (v := .int v3) r193_97 rfl rfl rfl ?_
          refine x_ld (v := .int v6) r193_98 rfl rfl rfl ?_
          refine x_ic (v := 1) r193_100 rfl rfl ?_
          refine x_ar r193_101 rfl trivial rfl ?_
          obtain ⟨q25, h26, h23⟩ := Option.bind_eq_some_iff.mp h23
          refine x_call1 (as := [.ref 93, .int v3, .int (v6 - (1 : Int32))]) (rest := [.long x19]) r193_102 rfl rfl rfl (by decide) (Nat.le_of_ble_eq_true rfl) (m194_ok h26) (Nat.le_trans (by decide) hd) (Nat.zero_le _) (Nat.zero_le _) rfl ?_
          refine x_goto r193_105 ?_
          cases h23
          exact kj22
      rcases am_ifE h15 with ⟨c16, h15⟩ | ⟨c16, h15⟩
      · refine x_ifeqT r193_69 c16 ?_
        refine x_ar r193_84 rfl trivial rfl ?_
        cases h15
        exact kj14
      · refine x_ifeqF r193_69 c16 rfl ?_
        refine x_ld (v := .ref 93) r193_72 rfl rfl rfl ?_
        refine x_ld (v := .int v3) r193_73 rfl rfl rfl ?_
        refine x_ic (v := 1) r193_74 rfl rfl ?_
        refine x_ar r193_75 rfl trivial rfl ?_
        refine x_ld (v := .int v6) r193_76 rfl rfl rfl ?_
        obtain ⟨q17, h18, h15⟩ := Option.bind_eq_some_iff.mp h15
        refine x_call1 (as := [.ref 93, .int (v3 - (1 : Int32)), .int v6]) (rest := [.long x11]) r193_78 rfl rfl rfl (by decide) (Nat.le_of_ble_eq_true rfl) (m194_ok h18) (Nat.le_trans (by decide) hd) (Nat.zero_le _) (Nat.zero_le _) rfl ?_
        refine x_goto r193_81 ?_
        cases h15
        exact kj14
theorem m193_L13_w {d : Nat} {N : Nat} {v1 : Int32} {v2 : Int32} {mc ms : Nat} {Q : am_O → am_AH → Prop} (hd : 2 ≤ d) : ∀ (n : Nat) (D : am_D) (v3 : Int32) {q : am_D} (h : m193_L13 N v1 v2  n D v3 = some q) (k0 : am_X xs L 193 d mc ms 155 [.ref 93, am_dead, am_dead, am_dead, am_dead, am_dead, am_dead, am_dead, am_dead] [] (am_mk q) 0 0 Q), am_X xs L 193 d mc ms 13 [.ref 93, .int v1, .int v2, .int v3, am_dead, am_dead, am_dead, am_dead, am_dead] [] (am_mk D) 0 0 Q := by
  intro n
  induction n with
  | zero =>
    intro D v3 q h k0
    exact (nomatch (show none = some q from h))
  | succ n ih =>
    intro D v3 q h k0
    rw [m193_L13] at h
    refine x_ld (v := .int v3) r193_13 rfl rfl rfl ?_
    rcases am_ifE h with ⟨c3, h⟩ | ⟨c3, h⟩
    · refine x_ifltT r193_14 c3 ?_
      refine x_forget (lc0 := [.ref 93, am_dead, am_dead, am_dead, am_dead, am_dead, am_dead, am_dead, am_dead]) ⟨Or.inl rfl, Or.inr ⟨rfl, rfl⟩, Or.inr ⟨rfl, rfl⟩, Or.inr ⟨rfl, rfl⟩, Or.inl rfl, Or.inl rfl, Or.inl rfl, Or.inl rfl, Or.inl rfl, trivial⟩ ?_
      cases h
      exact k0
    · refine x_ifltF r193_14 c3 rfl ?_
      refine x_ld (v := .int v2) r193_17 rfl rfl rfl ?_
      refine x_ld (v := .int v3) r193_18 rfl rfl rfl ?_
      refine x_ar r193_19 rfl trivial rfl ?_
      obtain ⟨x4, e5, h⟩ := am_ltE h
      refine am_topI e5 ?_
      refine x_sto (lc' := [.ref 93, .int v1, .int v2, .int v3, .int x4, am_dead, am_dead, am_dead, am_dead]) r193_20 rfl rfl rfl rfl ?_
      refine x_ic (v := 0) r193_22 rfl rfl ?_
      refine x_ld (v := .int x4) r193_23 rfl rfl rfl ?_
      refine x_ld (v := .ref 93) r193_25 rfl rfl rfl ?_
      refine y_gf (cd := 96) (v := .ref 94) r193_26 rfl rfl rfl ?_
      refine x_ic (v := 2) r193_29 rfl rfl ?_
      refine x_call1 (as := [.ref 94, .int (2 : Int32)]) (rest := [.int x4, .int (0 : Int32)]) r193_30 rfl rfl rfl (by decide) (Nat.le_of_ble_eq_true rfl) (am_rows_at (n := 3) rfl (by decide)) (Nat.le_trans (by decide) hd) (Nat.zero_le _) (Nat.zero_le _) rfl ?_
      refine x_ar r193_33 rfl trivial rfl ?_
      refine x_sp r193_34 rfl rfl rfl rfl rfl rfl trivial rfl ?_
      obtain ⟨x6, e7, h⟩ := am_ltE h
      refine am_topI e7 ?_
      refine x_sto (lc' := [.ref 93, .int v1, .int v2, .int v3, .int x4, .int x6, am_dead, am_dead, am_dead]) r193_37 rfl rfl rfl rfl ?_
      refine x_ld (v := .ref 93) r193_39 rfl rfl rfl ?_
      refine y_gf (cd := 96) (v := .ref 94) r193_40 rfl rfl rfl ?_
      refine x_ic (v := 1) r193_43 rfl rfl ?_
      refine x_call1 (as := [.ref 94, .int (1 : Int32)]) (rest := []) r193_44 rfl rfl rfl (by decide) (Nat.le_of_ble_eq_true rfl) (am_rows_at (n := 3) rfl (by decide)) (Nat.le_trans (by decide) hd) (Nat.zero_le _) (Nat.zero_le _) rfl ?_
      refine x_ld (v := .int x4) r193_47 rfl rfl rfl ?_
      refine x_sp r193_49 rfl rfl rfl rfl rfl rfl trivial rfl ?_
      obtain ⟨x8, e9, h⟩ := am_ltE h
      refine am_topI e9 ?_
      refine x_sto (lc' := [.ref 93, .int v1, .int v2, .int v3, .int x4, .int x6, .int x8, am_dead, am_dead]) r193_52 rfl rfl rfl rfl ?_
      obtain ⟨q41, h42, h⟩ := Option.bind_eq_some_iff.mp h
      refine x_forget (lc0 := [.ref 93, .int v1, .int v2, .int v3, am_dead, .int x6, .int x8, am_dead, am_dead]) ⟨Or.inl rfl, Or.inl rfl, Or.inl rfl, Or.inl rfl, Or.inr ⟨rfl, rfl⟩, Or.inl rfl, Or.inl rfl, Or.inl rfl, Or.inl rfl, trivial⟩ (m193_L54_w hd N D x8 h42 ?_)
      obtain ⟨x43, e44, h⟩ := am_ltE h
      refine x_sto (lc' := [.ref 93, .int v1, .int v2, .int x43, am_dead, am_dead, am_dead, am_dead, am_dead]) r193_149 rfl rfl (by subst e44; rfl) rfl ?_
      refine x_goto r193_152 ?_
      exact x_forget (lc0 := [.ref 93, .int v1, .int v2, .int x43, am_dead, am_dead, am_dead, am_dead, am_dead]) ⟨Or.inl rfl, Or.inl rfl, Or.inl rfl, Or.inl rfl, Or.inl rfl, Or.inl rfl, Or.inl rfl, Or.inl rfl, Or.inl rfl, trivial⟩ (ih q41 x43 h k0)
theorem m193_w {d mc ms : Nat} {N : Nat} {D : am_D} {v1 : Int32} {v2 : Int32} {Q : am_O → am_AH → Prop} (hd : 2 ≤ d) {r : am_D} (h : m193 N D v1 v2 = some r) (hQ : Q (.inl none) (am_mk r)) : am_X xs L 193 d mc ms 0 [.ref 93, .int v1, .int v2, am_dead, am_dead, am_dead, am_dead, am_dead, am_dead] [] (am_mk D) 0 0 Q := by
  unfold m193 at h
  refine x_ld (v := .ref 93) r193_0 rfl rfl rfl ?_
  refine y_gf (cd := 96) (v := .ref 94) r193_1 rfl rfl rfl ?_
  refine x_ic (v := 0) r193_4 rfl rfl ?_
  refine x_call1 (as := [.ref 94, .int (0 : Int32)]) (rest := []) r193_5 rfl rfl rfl (by decide) (Nat.le_of_ble_eq_true rfl) (am_rows_at (n := 3) rfl (by decide)) (Nat.le_trans (by decide) hd) (Nat.zero_le _) (Nat.zero_le _) rfl ?_
  refine x_ld (v := .int v2) r193_8 rfl rfl rfl ?_
  refine x_sp r193_9 rfl rfl rfl rfl rfl rfl trivial rfl ?_
  obtain ⟨x1, e2, h⟩ := am_ltE h
  refine am_topI e2 ?_
  refine x_sto (lc' := [.ref 93, .int v1, .int v2, .int x1, am_dead, am_dead, am_dead, am_dead, am_dead]) r193_12 rfl rfl rfl rfl ?_
  obtain ⟨q45, h46, h⟩ := Option.bind_eq_some_iff.mp h
  refine x_forget (lc0 := [.ref 93, .int v1, .int v2, .int x1, am_dead, am_dead, am_dead, am_dead, am_dead]) ⟨Or.inl rfl, Or.inl rfl, Or.inl rfl, Or.inl rfl, Or.inl rfl, Or.inl rfl, Or.inl rfl, Or.inl rfl, Or.inl rfl, trivial⟩ (m193_L13_w hd N D x1 h46 ?_)
  cases h
  exact x_ret (ret := none) (C := True) (v := none) r193_155 rt193 rfl rfl rfl rfl rfl rfl rfl rfl trivial hQ
theorem m193_ok {N : Nat} {D : am_D} {v1 : Int32} {v2 : Int32} {r : am_D} (h : m193 N D v1 v2 = some r) : am_Y xs L 193 2 0 0 [.ref 93, .int v1, .int v2] D (.inl none) r := am_Yof (mi := am_m193) (lc := [.ref 93, .int v1, .int v2, am_dead, am_dead, am_dead, am_dead, am_dead, am_dead]) pg193 (Nat.le_of_ble_eq_true rfl) (am_rc1 (ci := 3) rfl rfl rfl rfl rfl) rfl (fun Q hQ => m193_w (Nat.le_refl _) h hQ)
theorem r197_0 : am_at 197 0 = some (.aload_n 0, 1, [0]) := by decide +kernel
theorem r197_1 : am_at 197 1 = some (.getfield 18, 3, [3, 2, 3, 270]) := by decide +kernel
theorem r197_4 : am_at 197 4 = some (.iconst (5), 1, []) := by decide +kernel
theorem r197_5 : am_at 197 5 = some (.invokestatic 58, 3, [180, 2, 657, 0]) := by decide +kernel
theorem r197_8 : am_at 197 8 = some (.istore_n 3, 1, [3]) := by decide +kernel
theorem r197_9 : am_at 197 9 = some (.aload_n 0, 1, [0]) := by decide +kernel
theorem r197_10 : am_at 197 10 = some (.getfield 18, 3, [3, 2, 3, 270]) := by decide +kernel
theorem r197_13 : am_at 197 13 = some (.bipush (6), 2, []) := by decide +kernel
theorem r197_15 : am_at 197 15 = some (.invokestatic 58, 3, [180, 2, 657, 0]) := by decide +kernel
theorem r197_18 : am_at 197 18 = some (.istore 4, 2, [4]) := by decide +kernel
theorem r197_20 : am_at 197 20 = some (.aload_n 0, 1, [0]) := by decide +kernel
theorem r197_21 : am_at 197 21 = some (.getfield 18, 3, [3, 2, 3, 270]) := by decide +kernel
theorem r197_24 : am_at 197 24 = some (.bipush (7), 2, []) := by decide +kernel
theorem r197_26 : am_at 197 26 = some (.invokestatic 58, 3, [180, 2, 657, 0]) := by decide +kernel
theorem r197_29 : am_at 197 29 = some (.istore 5, 2, [5]) := by decide +kernel
theorem r197_31 : am_at 197 31 = some (.lconst 0, 1, []) := by decide +kernel
theorem r197_32 : am_at 197 32 = some (.lstore 6, 2, [6]) := by decide +kernel
theorem r197_34 : am_at 197 34 = some (.iconst (0), 1, []) := by decide +kernel
theorem r197_35 : am_at 197 35 = some (.istore 8, 2, [8]) := by decide +kernel
theorem r197_37 : am_at 197 37 = some (.iload 8, 2, [8]) := by decide +kernel
theorem r197_39 : am_at 197 39 = some (.iload_n 3, 1, [3]) := by decide +kernel
theorem r197_40 : am_at 197 40 = some (.if_icmp .gt (93), 3, [133]) := by decide +kernel
theorem r197_43 : am_at 197 43 = some (.iload 8, 2, [8]) := by decide +kernel
theorem r197_45 : am_at 197 45 = some (.iload_n 1, 1, [1]) := by decide +kernel
theorem r197_46 : am_at 197 46 = some (.if_icmp .gt (87), 3, [133]) := by decide +kernel
theorem r197_49 : am_at 197 49 = some (.iconst (0), 1, []) := by decide +kernel
theorem r197_50 : am_at 197 50 = some (.istore 9, 2, [9]) := by decide +kernel
theorem r197_52 : am_at 197 52 = some (.iload 9, 2, [9]) := by decide +kernel
theorem r197_54 : am_at 197 54 = some (.iload 4, 2, [4]) := by decide +kernel
theorem r197_56 : am_at 197 56 = some (.if_icmp .gt (71), 3, [127]) := by decide +kernel
theorem r197_59 : am_at 197 59 = some (.iload 9, 2, [9]) := by decide +kernel
theorem r197_61 : am_at 197 61 = some (.iload_n 2, 1, [2]) := by decide +kernel
theorem r197_62 : am_at 197 62 = some (.if_icmp .gt (65), 3, [127]) := by decide +kernel
theorem r197_65 : am_at 197 65 = some (.aload_n 0, 1, [0]) := by decide +kernel
theorem r197_66 : am_at 197 66 = some (.iload_n 3, 1, [3]) := by decide +kernel
theorem r197_67 : am_at 197 67 = some (.iload 8, 2, [8]) := by decide +kernel
theorem r197_69 : am_at 197 69 = some (.invokevirtual 94, 3, [198, 3, 683, 0]) := by decide +kernel
theorem r197_72 : am_at 197 72 = some (.aload_n 0, 1, [0]) := by decide +kernel
theorem r197_73 : am_at 197 73 = some (.iload 4, 2, [4]) := by decide +kernel
theorem r197_75 : am_at 197 75 = some (.iload 9, 2, [9]) := by decide +kernel
theorem r197_77 : am_at 197 77 = some (.invokevirtual 94, 3, [198, 3, 683, 0]) := by decide +kernel
theorem r197_80 : am_at 197 80 = some (.lmul, 1, []) := by decide +kernel
theorem r197_81 : am_at 197 81 = some (.lstore 10, 2, [10]) := by decide +kernel
theorem r197_83 : am_at 197 83 = some (.iload 5, 2, [5]) := by decide +kernel
theorem r197_85 : am_at 197 85 = some (.iload_n 1, 1, [1]) := by decide +kernel
theorem r197_86 : am_at 197 86 = some (.isub, 1, []) := by decide +kernel
theorem r197_87 : am_at 197 87 = some (.iload 8, 2, [8]) := by decide +kernel
theorem r197_89 : am_at 197 89 = some (.iadd, 1, []) := by decide +kernel
theorem r197_90 : am_at 197 90 = some (.istore 12, 2, [12]) := by decide +kernel
theorem r197_92 : am_at 197 92 = some (.lload 6, 2, [6]) := by decide +kernel
theorem r197_94 : am_at 197 94 = some (.lload 10, 2, [10]) := by decide +kernel
theorem r197_96 : am_at 197 96 = some (.aload_n 0, 1, [0]) := by decide +kernel
theorem r197_97 : am_at 197 97 = some (.iload 5, 2, [5]) := by decide +kernel
theorem r197_99 : am_at 197 99 = some (.iload_n 1, 1, [1]) := by decide +kernel
theorem r197_100 : am_at 197 100 = some (.iload 8, 2, [8]) := by decide +kernel
theorem r197_102 : am_at 197 102 = some (.isub, 1, []) := by decide +kernel
theorem r197_103 : am_at 197 103 = some (.invokevirtual 94, 3, [198, 3, 683, 0]) := by decide +kernel
theorem r197_106 : am_at 197 106 = some (.lmul, 1, []) := by decide +kernel
theorem r197_107 : am_at 197 107 = some (.aload_n 0, 1, [0]) := by decide +kernel
theorem r197_108 : am_at 197 108 = some (.iload 12, 2, [12]) := by decide +kernel
theorem r197_110 : am_at 197 110 = some (.iload_n 2, 1, [2]) := by decide +kernel
theorem r197_111 : am_at 197 111 = some (.iload 9, 2, [9]) := by decide +kernel
theorem r197_113 : am_at 197 113 = some (.isub, 1, []) := by decide +kernel
theorem r197_114 : am_at 197 114 = some (.invokevirtual 94, 3, [198, 3, 683, 0]) := by decide +kernel
theorem r197_117 : am_at 197 117 = some (.lmul, 1, []) := by decide +kernel
theorem r197_118 : am_at 197 118 = some (.ladd, 1, []) := by decide +kernel
theorem r197_119 : am_at 197 119 = some (.lstore 6, 2, [6]) := by decide +kernel
theorem r197_121 : am_at 197 121 = some (.iinc 9 (1), 3, [9]) := by decide +kernel
theorem r197_124 : am_at 197 124 = some (.goto (-72), 3, [52]) := by decide +kernel
theorem r197_127 : am_at 197 127 = some (.iinc 8 (1), 3, [8]) := by decide +kernel
theorem r197_130 : am_at 197 130 = some (.goto (-93), 3, [37]) := by decide +kernel
theorem r197_133 : am_at 197 133 = some (.lload 6, 2, [6]) := by decide +kernel
theorem r197_135 : am_at 197 135 = some (.lreturn, 1, []) := by decide +kernel
theorem rt197 : am_rtt 197 = some (some .long) := by decide +kernel
set_option maxRecDepth 100000 in
theorem pg197 : am_pg[197]? = some am_m197 := rfl
theorem m197_L52_w {d : Nat} {N : Nat} {D : am_D} {v1 : Int32} {v2 : Int32} {v3 : Int32} {v4 : Int32} {v5 : Int32} {v8 : Int32} {mc ms : Nat} {Q : am_O → am_AH → Prop} (hd : 2 ≤ d) : ∀ (n : Nat) (v6 : Int64) (v9 : Int32) {q : Int64} (h : m197_L52 N D v1 v2 v3 v4 v5 v8  n v6 v9 = some q) (k0 : am_X xs L 197 d mc ms 127 [.ref 93, .int v1, .int v2, .int v3, .int v4, .int v5, .long q, am_dead, .int v8, am_dead, am_dead, am_dead, am_dead] [] (am_mk D) 0 0 Q), am_X xs L 197 d mc ms 52 [.ref 93, .int v1, .int v2, .int v3, .int v4, .int v5, .long v6, am_dead, .int v8, .int v9, am_dead, am_dead, am_dead] [] (am_mk D) 0 0 Q := by
  intro n
  induction n with
  | zero =>
    intro v6 v9 q h k0
    exact (nomatch (show none = some q from h))
  | succ n ih =>
    intro v6 v9 q h k0
    rw [m197_L52] at h
    refine x_ld (v := .int v9) r197_52 rfl rfl rfl ?_
    refine x_ld (v := .int v4) r197_54 rfl rfl rfl ?_
    rcases am_ifE h with ⟨c11, h⟩ | ⟨c11, h⟩
    · refine x_icgtT r197_56 c11 ?_
      refine x_forget (lc0 := [.ref 93, .int v1, .int v2, .int v3, .int v4, .int v5, .long v6, am_dead, .int v8, am_dead, am_dead, am_dead, am_dead]) ⟨Or.inl rfl, Or.inl rfl, Or.inl rfl, Or.inl rfl, Or.inl rfl, Or.inl rfl, Or.inl rfl, Or.inl rfl, Or.inl rfl, Or.inr ⟨rfl, rfl⟩, Or.inl rfl, Or.inl rfl, Or.inl rfl, trivial⟩ ?_
      cases h
      exact k0
    · refine x_icgtF r197_56 c11 rfl ?_
      refine x_ld (v := .int v9) r197_59 rfl rfl rfl ?_
      refine x_ld (v := .int v2) r197_61 rfl rfl rfl ?_
      rcases am_ifE h with ⟨c12, h⟩ | ⟨c12, h⟩
      · refine x_icgtT r197_62 c12 ?_
        refine x_forget (lc0 := [.ref 93, .int v1, .int v2, .int v3, .int v4, .int v5, .long v6, am_dead, .int v8, am_dead, am_dead, am_dead, am_dead]) ⟨Or.inl rfl, Or.inl rfl, Or.inl rfl, Or.inl rfl, Or.inl rfl, Or.inl rfl, Or.inl rfl, Or.inl rfl, Or.inl rfl, Or.inr ⟨rfl, rfl⟩, Or.inl rfl, Or.inl rfl, Or.inl rfl, trivial⟩ ?_
        cases h
        exact k0
      · refine x_icgtF r197_62 c12 rfl ?_
        refine x_ld (v := .ref 93) r197_65 rfl rfl rfl ?_
        refine x_ld (v := .int v3) r197_66 rfl rfl rfl ?_
        refine x_ld (v := .int v8) r197_67 rfl rfl rfl ?_
        obtain ⟨q13, h14, h⟩ := Option.bind_eq_some_iff.mp h
        refine x_call1 (as := [.ref 93, .int v3, .int v8]) (rest := []) r197_69 rfl rfl rfl (by decide) (Nat.le_of_ble_eq_true rfl) (m198_ok h14) (Nat.le_trans (by decide) hd) (Nat.zero_le _) (Nat.zero_le _) rfl ?_
        refine x_ld (v := .ref 93) r197_72 rfl rfl rfl ?_
        refine x_ld (v := .int v4) r197_73 rfl rfl rfl ?_
        refine x_ld (v := .int v9) r197_75 rfl rfl rfl ?_
        obtain ⟨q15, h16, h⟩ := Option.bind_eq_some_iff.mp h
        refine x_call1 (as := [.ref 93, .int v4, .int v9]) (rest := [.long q13]) r197_77 rfl rfl rfl (by decide) (Nat.le_of_ble_eq_true rfl) (m198_ok h16) (Nat.le_trans (by decide) hd) (Nat.zero_le _) (Nat.zero_le _) rfl ?_
        refine x_ar r197_80 rfl trivial rfl ?_
        obtain ⟨x17, e18, h⟩ := am_ltE h
        refine am_topJ e18 ?_
        refine x_sto (lc' := [.ref 93, .int v1, .int v2, .int v3, .int v4, .int v5, .long v6, am_dead, .int v8, .int v9, .long x17, am_dead, am_dead]) r197_81 rfl rfl rfl rfl ?_
        refine x_ld (v := .int v5) r197_83 rfl rfl rfl ?_
        refine x_ld (v := .int v1) r197_85 rfl rfl rfl ?_
        refine x_ar r197_86 rfl trivial rfl ?_
        refine x_ld (v := .int v8) r197_87 rfl rfl rfl ?_
        refine x_ar r197_89 rfl trivial rfl ?_
        obtain ⟨x19, e20, h⟩ := am_ltE h
        refine am_topI e20 ?_
        refine x_sto (lc' := [.ref 93, .int v1, .int v2, .int v3, .int v4, .int v5, .long v6, am_dead, .int v8, .int v9, .long x17, am_dead, .int x19]) r197_90 rfl rfl rfl rfl ?_
        refine x_ld (v := .long v6) r197_92 rfl rfl rfl ?_
        refine x_ld (v := .long x17) r197_94 rfl rfl rfl ?_
        refine x_ld (v := .ref 93) r197_96 rfl rfl rfl ?_
        refine x_ld (v := .int v5) r197_97 rfl rfl rfl ?_
        refine x_ld (v := .int v1) r197_99 rfl rfl rfl ?_
        refine x_ld (v := .int v8) r197_100 rfl rfl rfl ?_
        refine x_ar r197_102 rfl trivial rfl ?_
        obtain ⟨q21, h22, h⟩ := Option.bind_eq_some_iff.mp h
        refine x_call1 (as := [.ref 93, .int v5, .int (v1 - v8)]) (rest := [.long x17, .long v6]) r197_103 rfl rfl rfl (by decide) (Nat.le_of_ble_eq_true rfl) (m198_ok h22) (Nat.le_trans (by decide) hd) (Nat.zero_le _) (Nat.zero_le _) rfl ?_
        refine x_ar r197_106 rfl trivial rfl ?_
        refine x_ld (v := .ref 93) r197_107 rfl rfl rfl ?_
        refine x_ld (v := .int x19) r197_108 rfl rfl rfl ?_
        refine x_ld (v := .int v2) r197_110 rfl rfl rfl ?_
        refine x_ld (v := .int v9) r197_111 rfl rfl rfl ?_
        refine x_ar r197_113 rfl trivial rfl ?_
        obtain ⟨q23, h24, h⟩ := Option.bind_eq_some_iff.mp h
        refine x_call1 (as := [.ref 93, .int x19, .int (v2 - v9)]) (rest := [.long (x17 * q21), .long v6]) r197_114 rfl rfl rfl (by decide) (Nat.le_of_ble_eq_true rfl) (m198_ok h24) (Nat.le_trans (by decide) hd) (Nat.zero_le _) (Nat.zero_le _) rfl ?_
        refine x_ar r197_117 rfl trivial rfl ?_
        refine x_ar r197_118 rfl trivial rfl ?_
        obtain ⟨x25, e26, h⟩ := am_ltE h
        refine am_topJ e26 ?_
        refine x_sto (lc' := [.ref 93, .int v1, .int v2, .int v3, .int v4, .int v5, .long x25, am_dead, .int v8, .int v9, .long x17, am_dead, .int x19]) r197_119 rfl rfl rfl rfl ?_
        obtain ⟨x27, e28, h⟩ := am_ltE h
        refine x_sto (lc' := [.ref 93, .int v1, .int v2, .int v3, .int v4, .int v5, .long x25, am_dead, .int v8, .int x27, .long x17, am_dead, .int x19]) r197_121 rfl rfl (by subst e28; rfl) rfl ?_
        refine x_goto r197_124 ?_
        exact x_forget (lc0 := [.ref 93, .int v1, .int v2, .int v3, .int v4, .int v5, .long x25, am_dead, .int v8, .int x27, am_dead, am_dead, am_dead]) ⟨Or.inl rfl, Or.inl rfl, Or.inl rfl, Or.inl rfl, Or.inl rfl, Or.inl rfl, Or.inl rfl, Or.inl rfl, Or.inl rfl, Or.inl rfl, Or.inr ⟨rfl, rfl⟩, Or.inl rfl, Or.inr ⟨rfl, rfl⟩, trivial⟩ (ih x25 x27 h k0)
theorem m197_L37_w {d : Nat} {N : Nat} {D : am_D} {v1 : Int32} {v2 : Int32} {v3 : Int32} {v4 : Int32} {v5 : Int32} {mc ms : Nat} {Q : am_O → am_AH → Prop} (hd : 2 ≤ d) : ∀ (n : Nat) (v6 : Int64) (v8 : Int32) {q : Int64} (h : m197_L37 N D v1 v2 v3 v4 v5  n v6 v8 = some q) (k0 : am_X xs L 197 d mc ms 133 [.ref 93, am_dead, am_dead, am_dead, am_dead, am_dead, .long q, am_dead, am_dead, am_dead, am_dead, am_dead, am_dead] [] (am_mk D) 0 0 Q), am_X xs L 197 d mc ms 37 [.ref 93, .int v1, .int v2, .int v3, .int v4, .int v5, .long v6, am_dead, .int v8, am_dead, am_dead, am_dead, am_dead] [] (am_mk D) 0 0 Q := by
  intro n
  induction n with
  | zero =>
    intro v6 v8 q h k0
    exact (nomatch (show none = some q from h))
  | succ n ih =>
    intro v6 v8 q h k0
    rw [m197_L37] at h
    refine x_ld (v := .int v8) r197_37 rfl rfl rfl ?_
    refine x_ld (v := .int v3) r197_39 rfl rfl rfl ?_
    rcases am_ifE h with ⟨c9, h⟩ | ⟨c9, h⟩
    · refine x_icgtT r197_40 c9 ?_
      refine x_forget (lc0 := [.ref 93, am_dead, am_dead, am_dead, am_dead, am_dead, .long v6, am_dead, am_dead, am_dead, am_dead, am_dead, am_dead]) ⟨Or.inl rfl, Or.inr ⟨rfl, rfl⟩, Or.inr ⟨rfl, rfl⟩, Or.inr ⟨rfl, rfl⟩, Or.inr ⟨rfl, rfl⟩, Or.inr ⟨rfl, rfl⟩, Or.inl rfl, Or.inl rfl, Or.inr ⟨rfl, rfl⟩, Or.inl rfl, Or.inl rfl, Or.inl rfl, Or.inl rfl, trivial⟩ ?_
      cases h
      exact k0
    · refine x_icgtF r197_40 c9 rfl ?_
      refine x_ld (v := .int v8) r197_43 rfl rfl rfl ?_
      refine x_ld (v := .int v1) r197_45 rfl rfl rfl ?_
      rcases am_ifE h with ⟨c10, h⟩ | ⟨c10, h⟩
      · refine x_icgtT r197_46 c10 ?_
        refine x_forget (lc0 := [.ref 93, am_dead, am_dead, am_dead, am_dead, am_dead, .long v6, am_dead, am_dead, am_dead, am_dead, am_dead, am_dead]) ⟨Or.inl rfl, Or.inr ⟨rfl, rfl⟩, Or.inr ⟨rfl, rfl⟩, Or.inr ⟨rfl, rfl⟩, Or.inr ⟨rfl, rfl⟩, Or.inr ⟨rfl, rfl⟩, Or.inl rfl, Or.inl rfl, Or.inr ⟨rfl, rfl⟩, Or.inl rfl, Or.inl rfl, Or.inl rfl, Or.inl rfl, trivial⟩ ?_
        cases h
        exact k0
      · refine x_icgtF r197_46 c10 rfl ?_
        refine x_ic (v := 0) r197_49 rfl rfl ?_
        refine x_sto (lc' := [.ref 93, .int v1, .int v2, .int v3, .int v4, .int v5, .long v6, am_dead, .int v8, .int (0 : Int32), am_dead, am_dead, am_dead]) r197_50 rfl rfl rfl rfl ?_
        obtain ⟨q29, h30, h⟩ := Option.bind_eq_some_iff.mp h
        refine x_forget (lc0 := [.ref 93, .int v1, .int v2, .int v3, .int v4, .int v5, .long v6, am_dead, .int v8, .int (0 : Int32), am_dead, am_dead, am_dead]) ⟨Or.inl rfl, Or.inl rfl, Or.inl rfl, Or.inl rfl, Or.inl rfl, Or.inl rfl, Or.inl rfl, Or.inl rfl, Or.inl rfl, Or.inl rfl, Or.inl rfl, Or.inl rfl, Or.inl rfl, trivial⟩ (m197_L52_w hd N v6 (0 : Int32) h30 ?_)
        obtain ⟨x31, e32, h⟩ := am_ltE h
        refine x_sto (lc' := [.ref 93, .int v1, .int v2, .int v3, .int v4, .int v5, .long q29, am_dead, .int x31, am_dead, am_dead, am_dead, am_dead]) r197_127 rfl rfl (by subst e32; rfl) rfl ?_
        refine x_goto r197_130 ?_
        exact x_forget (lc0 := [.ref 93, .int v1, .int v2, .int v3, .int v4, .int v5, .long q29, am_dead, .int x31, am_dead, am_dead, am_dead, am_dead]) ⟨Or.inl rfl, Or.inl rfl, Or.inl rfl, Or.inl rfl, Or.inl rfl, Or.inl rfl, Or.inl rfl, Or.inl rfl, Or.inl rfl, Or.inl rfl, Or.inl rfl, Or.inl rfl, Or.inl rfl, trivial⟩ (ih q29 x31 h k0)
theorem m197_w {d mc ms : Nat} {N : Nat} {D : am_D} {v1 : Int32} {v2 : Int32} {Q : am_O → am_AH → Prop} (hd : 2 ≤ d) {r : Int64} (h : m197 N D v1 v2 = some r) (hQ : Q (.inl (some (.long r))) (am_mk D)) : am_X xs L 197 d mc ms 0 [.ref 93, .int v1, .int v2, am_dead, am_dead, am_dead, am_dead, am_dead, am_dead, am_dead, am_dead, am_dead, am_dead] [] (am_mk D) 0 0 Q := by
  unfold m197 at h
  refine x_ld (v := .ref 93) r197_0 rfl rfl rfl ?_
  refine y_gf (cd := 98) (v := .ref 96) r197_1 rfl rfl rfl ?_
  refine x_ic (v := 5) r197_4 rfl rfl ?_
  refine x_call1 (as := [.ref 96, .int (5 : Int32)]) (rest := []) r197_5 rfl rfl rfl (by decide) (Nat.le_of_ble_eq_true rfl) (am_rows_at (n := 8) rfl (by decide)) (Nat.le_trans (by decide) hd) (Nat.zero_le _) (Nat.zero_le _) rfl ?_
  obtain ⟨x1, e2, h⟩ := am_ltE h
  refine am_topI e2 ?_
  refine x_sto (lc' := [.ref 93, .int v1, .int v2, .int x1, am_dead, am_dead, am_dead, am_dead, am_dead, am_dead, am_dead, am_dead, am_dead]) r197_8 rfl rfl rfl rfl ?_
  refine x_ld (v := .ref 93) r197_9 rfl rfl rfl ?_
  refine y_gf (cd := 98) (v := .ref 96) r197_10 rfl rfl rfl ?_
  refine x_bi (v := 6) r197_13 rfl rfl ?_
  refine x_call1 (as := [.ref 96, .int (6 : Int32)]) (rest := []) r197_15 rfl rfl rfl (by decide) (Nat.le_of_ble_eq_true rfl) (am_rows_at (n := 8) rfl (by decide)) (Nat.le_trans (by decide) hd) (Nat.zero_le _) (Nat.zero_le _) rfl ?_
  obtain ⟨x3, e4, h⟩ := am_ltE h
  refine am_topI e4 ?_
  refine x_sto (lc' := [.ref 93, .int v1, .int v2, .int x1, .int x3, am_dead, am_dead, am_dead, am_dead, am_dead, am_dead, am_dead, am_dead]) r197_18 rfl rfl rfl rfl ?_
  refine x_ld (v := .ref 93) r197_20 rfl rfl rfl ?_
  refine y_gf (cd := 98) (v := .ref 96) r197_21 rfl rfl rfl ?_
  refine x_bi (v := 7) r197_24 rfl rfl ?_
  refine x_call1 (as := [.ref 96, .int (7 : Int32)]) (rest := []) r197_26 rfl rfl rfl (by decide) (Nat.le_of_ble_eq_true rfl) (am_rows_at (n := 8) rfl (by decide)) (Nat.le_trans (by decide) hd) (Nat.zero_le _) (Nat.zero_le _) rfl ?_
  obtain ⟨x5, e6, h⟩ := am_ltE h
  refine am_topI e6 ?_
  refine x_sto (lc' := [.ref 93, .int v1, .int v2, .int x1, .int x3, .int x5, am_dead, am_dead, am_dead, am_dead, am_dead, am_dead, am_dead]) r197_29 rfl rfl rfl rfl ?_
  refine x_ar r197_31 rfl trivial rfl ?_
  obtain ⟨x7, e8, h⟩ := am_ltE h
  refine am_topJ e8 ?_
  refine x_sto (lc' := [.ref 93, .int v1, .int v2, .int x1, .int x3, .int x5, .long x7, am_dead, am_dead, am_dead, am_dead, am_dead, am_dead]) r197_32 rfl rfl rfl rfl ?_
  refine x_ic (v := 0) r197_34 rfl rfl ?_
  refine x_sto (lc' := [.ref 93, .int v1, .int v2, .int x1, .int x3, .int x5, .long x7, am_dead, .int (0 : Int32), am_dead, am_dead, am_dead, am_dead]) r197_35 rfl rfl rfl rfl ?_
  obtain ⟨q33, h34, h⟩ := Option.bind_eq_some_iff.mp h
  refine x_forget (lc0 := [.ref 93, .int v1, .int v2, .int x1, .int x3, .int x5, .long x7, am_dead, .int (0 : Int32), am_dead, am_dead, am_dead, am_dead]) ⟨Or.inl rfl, Or.inl rfl, Or.inl rfl, Or.inl rfl, Or.inl rfl, Or.inl rfl, Or.inl rfl, Or.inl rfl, Or.inl rfl, Or.inl rfl, Or.inl rfl, Or.inl rfl, Or.inl rfl, trivial⟩ (m197_L37_w hd N x7 (0 : Int32) h34 ?_)
  refine x_ld (v := .long q33) r197_133 rfl rfl rfl ?_
  cases h
  exact x_ret (ret := some .long) (C := True) (v := some (.long _)) r197_135 rt197 rfl rfl rfl rfl rfl rfl rfl rfl trivial hQ
theorem m197_ok {N : Nat} {D : am_D} {v1 : Int32} {v2 : Int32} {r : Int64} (h : m197 N D v1 v2 = some r) : am_Y xs L 197 2 0 0 [.ref 93, .int v1, .int v2] D (.inl (some (.long r))) D := am_Yof (mi := am_m197) (lc := [.ref 93, .int v1, .int v2, am_dead, am_dead, am_dead, am_dead, am_dead, am_dead, am_dead, am_dead, am_dead, am_dead]) pg197 (Nat.le_of_ble_eq_true rfl) (am_rc1 (ci := 3) rfl rfl rfl rfl rfl) rfl (fun Q hQ => m197_w (Nat.le_refl _) h hQ)
theorem r205_0 : am_at 205 0 = some (.iconst (0), 1, []) := by decide +kernel
theorem r205_1 : am_at 205 1 = some (.istore_n 2, 1, [2]) := by decide +kernel
theorem r205_2 : am_at 205 2 = some (.iconst (0), 1, []) := by decide +kernel
theorem r205_3 : am_at 205 3 = some (.istore_n 3, 1, [3]) := by decide +kernel
theorem r205_4 : am_at 205 4 = some (.iload_n 3, 1, [3]) := by decide +kernel
theorem r205_5 : am_at 205 5 = some (.aload_n 0, 1, [0]) := by decide +kernel
theorem r205_6 : am_at 205 6 = some (.getfield 18, 3, [4, 1, 3, 163]) := by decide +kernel
theorem r205_9 : am_at 205 9 = some (.arraylength, 1, []) := by decide +kernel
theorem r205_10 : am_at 205 10 = some (.if_icmp .ge (30), 3, [40]) := by decide +kernel
theorem r205_13 : am_at 205 13 = some (.iload_n 2, 1, [2]) := by decide +kernel
theorem r205_14 : am_at 205 14 = some (.aload_n 0, 1, [0]) := by decide +kernel
theorem r205_15 : am_at 205 15 = some (.getfield 18, 3, [4, 1, 3, 163]) := by decide +kernel
theorem r205_18 : am_at 205 18 = some (.iload_n 3, 1, [3]) := by decide +kernel
theorem r205_19 : am_at 205 19 = some (.iaload, 1, []) := by decide +kernel
theorem r205_20 : am_at 205 20 = some (.iload_n 1, 1, [1]) := by decide +kernel
theorem r205_21 : am_at 205 21 = some (.if_icmp .ne (10), 3, [31]) := by decide +kernel
theorem r205_24 : am_at 205 24 = some (.iload_n 3, 1, [3]) := by decide +kernel
theorem r205_25 : am_at 205 25 = some (.invokestatic 79, 3, [251, 1, 407, 0]) := by decide +kernel
theorem r205_28 : am_at 205 28 = some (.goto (4), 3, [32]) := by decide +kernel
theorem r205_31 : am_at 205 31 = some (.iconst (0), 1, []) := by decide +kernel
theorem r205_32 : am_at 205 32 = some (.iadd, 1, []) := by decide +kernel
theorem r205_33 : am_at 205 33 = some (.istore_n 2, 1, [2]) := by decide +kernel
theorem r205_34 : am_at 205 34 = some (.iinc 3 (1), 3, [3]) := by decide +kernel
theorem r205_37 : am_at 205 37 = some (.goto (-33), 3, [4]) := by decide +kernel
theorem r205_40 : am_at 205 40 = some (.iload_n 2, 1, [2]) := by decide +kernel
theorem r205_41 : am_at 205 41 = some (.ireturn, 1, []) := by decide +kernel
theorem rt205 : am_rtt 205 = some (some .int) := by decide +kernel
set_option maxRecDepth 100000 in
theorem pg205 : am_pg[205]? = some am_m205 := rfl
theorem m205_L4_w {d : Nat} {N : Nat} {D : am_D} {v1 : Int32} {mc ms : Nat} {Q : am_O → am_AH → Prop} (hd : 2 ≤ d) : ∀ (n : Nat) (v2 : Int32) (v3 : Int32) {q : Int32} (h : m205_L4 N D v1  n v2 v3 = some q) (k0 : am_X xs L 205 d mc ms 40 [.ref 1, am_dead, .int q, am_dead] [] (am_mk D) 0 0 Q), am_X xs L 205 d mc ms 4 [.ref 1, .int v1, .int v2, .int v3] [] (am_mk D) 0 0 Q := by
  intro n
  induction n with
  | zero =>
    intro v2 v3 q h k0
    exact (nomatch (show none = some q from h))
  | succ n ih =>
    intro v2 v3 q h k0
    rw [m205_L4] at h
    refine x_ld (v := .int v3) r205_4 rfl rfl rfl ?_
    refine x_ld (v := .ref 1) r205_5 rfl rfl rfl ?_
    refine y_gf (cd := 9) (v := .ref 7) r205_6 rfl rfl rfl ?_
    refine y_alen (tag := 0) (n := 28) (v := 28) r205_9 rfl rfl rfl ?_
    rcases am_ifE h with ⟨c1, h⟩ | ⟨c1, h⟩
    · refine x_icgeT r205_10 c1 ?_
      refine x_forget (lc0 := [.ref 1, am_dead, .int v2, am_dead]) ⟨Or.inl rfl, Or.inr ⟨rfl, rfl⟩, Or.inl rfl, Or.inr ⟨rfl, rfl⟩, trivial⟩ ?_
      cases h
      exact k0
    · refine x_icgeF r205_10 c1 rfl ?_
      refine x_ld (v := .int v2) r205_13 rfl rfl rfl ?_
      refine x_ld (v := .ref 1) r205_14 rfl rfl rfl ?_
      refine y_gf (cd := 9) (v := .ref 7) r205_15 rfl rfl rfl ?_
      refine x_ld (v := .int v3) r205_18 rfl rfl rfl ?_
      obtain ⟨g2, h⟩ := am_gdE h
      refine y_ial (n := 28) r205_19 rfl (by decide) g2 rfl rfl ?_
      refine x_ld (v := .int v1) r205_20 rfl rfl rfl ?_
      obtain ⟨q3, h5, h⟩ := am_ltE h
      replace h5 := h5.symm
      have kj4 : am_X xs L 205 d mc ms 32 [.ref 1, .int v1, .int v2, .int v3] [.int q3, .int v2] (am_mk D) 0 0 Q := by
        refine x_ar r205_32 rfl trivial rfl ?_
        obtain ⟨x7, e8, h⟩ := am_ltE h
        refine am_topI e8 ?_
        refine x_sto (lc' := [.ref 1, .int v1, .int x7, .int v3]) r205_33 rfl rfl rfl rfl ?_
        obtain ⟨x9, e10, h⟩ := am_ltE h
        refine x_sto (lc' := [.ref 1, .int v1, .int x7, .int x9]) r205_34 rfl rfl (by subst e10; rfl) rfl ?_
        refine x_goto r205_37 ?_
        exact x_forget (lc0 := [.ref 1, .int v1, .int x7, .int x9]) ⟨Or.inl rfl, Or.inl rfl, Or.inl rfl, Or.inl rfl, trivial⟩ (ih x7 x9 h k0)
      rcases am_ifE h5 with ⟨c6, h5⟩ | ⟨c6, h5⟩
      · refine x_icneT r205_21 c6 rfl ?_
        refine x_ld (v := .int v3) r205_24 rfl rfl rfl ?_
        refine x_call1 (as := [.int v3]) (rest := [.int v2]) r205_25 rfl rfl rfl (by decide) (Nat.le_of_ble_eq_true rfl) (m251_ok rfl) (Nat.le_trans (by decide) hd) (Nat.zero_le _) (Nat.zero_le _) rfl ?_
        refine x_goto r205_28 ?_
        subst h5
        exact kj4
      · refine x_icneF r205_21 c6 ?_
        refine x_ic (v := 0) r205_31 rfl rfl ?_
        subst h5
        exact kj4
theorem m205_w {d mc ms : Nat} {N : Nat} {D : am_D} {v1 : Int32} {Q : am_O → am_AH → Prop} (hd : 2 ≤ d) {r : Int32} (h : m205 N D v1 = some r) (hQ : Q (.inl (some (.int r))) (am_mk D)) : am_X xs L 205 d mc ms 0 [.ref 1, .int v1, am_dead, am_dead] [] (am_mk D) 0 0 Q := by
  unfold m205 at h
  refine x_ic (v := 0) r205_0 rfl rfl ?_
  refine x_sto (lc' := [.ref 1, .int v1, .int (0 : Int32), am_dead]) r205_1 rfl rfl rfl rfl ?_
  refine x_ic (v := 0) r205_2 rfl rfl ?_
  refine x_sto (lc' := [.ref 1, .int v1, .int (0 : Int32), .int (0 : Int32)]) r205_3 rfl rfl rfl rfl ?_
  obtain ⟨q11, h12, h⟩ := Option.bind_eq_some_iff.mp h
  refine x_forget (lc0 := [.ref 1, .int v1, .int (0 : Int32), .int (0 : Int32)]) ⟨Or.inl rfl, Or.inl rfl, Or.inl rfl, Or.inl rfl, trivial⟩ (m205_L4_w hd N (0 : Int32) (0 : Int32) h12 ?_)
  refine x_ld (v := .int q11) r205_40 rfl rfl rfl ?_
  cases h
  exact x_ret (ret := some .int) (C := True) (v := some (.int _)) r205_41 rt205 rfl rfl rfl rfl rfl rfl rfl rfl trivial hQ
theorem m205_ok {N : Nat} {D : am_D} {v1 : Int32} {r : Int32} (h : m205 N D v1 = some r) : am_Y xs L 205 2 0 0 [.ref 1, .int v1] D (.inl (some (.int r))) D := am_Yof (mi := am_m205) (lc := [.ref 1, .int v1, am_dead, am_dead]) pg205 (Nat.le_of_ble_eq_true rfl) (am_rc1 (ci := 4) rfl rfl rfl rfl rfl) rfl (fun Q hQ => m205_w (Nat.le_refl _) h hQ)
theorem r206_0 : am_at 206 0 = some (.iconst (0), 1, []) := by decide +kernel
theorem r206_1 : am_at 206 1 = some (.istore_n 2, 1, [2]) := by decide +kernel
theorem r206_2 : am_at 206 2 = some (.iconst (0), 1, []) := by decide +kernel
theorem r206_3 : am_at 206 3 = some (.istore_n 3, 1, [3]) := by decide +kernel
theorem r206_4 : am_at 206 4 = some (.iload_n 3, 1, [3]) := by decide +kernel
theorem r206_5 : am_at 206 5 = some (.aload_n 0, 1, [0]) := by decide +kernel
theorem r206_6 : am_at 206 6 = some (.getfield 18, 3, [4, 1, 3, 163]) := by decide +kernel
theorem r206_9 : am_at 206 9 = some (.arraylength, 1, []) := by decide +kernel
theorem r206_10 : am_at 206 10 = some (.if_icmp .ge (34), 3, [44]) := by decide +kernel
theorem r206_13 : am_at 206 13 = some (.iload_n 2, 1, [2]) := by decide +kernel
theorem r206_14 : am_at 206 14 = some (.aload_n 0, 1, [0]) := by decide +kernel
theorem r206_15 : am_at 206 15 = some (.getfield 18, 3, [4, 1, 3, 163]) := by decide +kernel
theorem r206_18 : am_at 206 18 = some (.iload_n 3, 1, [3]) := by decide +kernel
theorem r206_19 : am_at 206 19 = some (.iaload, 1, []) := by decide +kernel
theorem r206_20 : am_at 206 20 = some (.iload_n 1, 1, [1]) := by decide +kernel
theorem r206_21 : am_at 206 21 = some (.if_icmp .ne (14), 3, [35]) := by decide +kernel
theorem r206_24 : am_at 206 24 = some (.iload_n 3, 1, [3]) := by decide +kernel
theorem r206_25 : am_at 206 25 = some (.invokestatic 85, 3, [252, 1, 603, 0]) := by decide +kernel
theorem r206_28 : am_at 206 28 = some (.ifCond .eq (7), 3, [35]) := by decide +kernel
theorem r206_31 : am_at 206 31 = some (.iconst (1), 1, []) := by decide +kernel
theorem r206_32 : am_at 206 32 = some (.goto (4), 3, [36]) := by decide +kernel
theorem r206_35 : am_at 206 35 = some (.iconst (0), 1, []) := by decide +kernel
theorem r206_36 : am_at 206 36 = some (.iadd, 1, []) := by decide +kernel
theorem r206_37 : am_at 206 37 = some (.istore_n 2, 1, [2]) := by decide +kernel
theorem r206_38 : am_at 206 38 = some (.iinc 3 (1), 3, [3]) := by decide +kernel
theorem r206_41 : am_at 206 41 = some (.goto (-37), 3, [4]) := by decide +kernel
theorem r206_44 : am_at 206 44 = some (.iload_n 2, 1, [2]) := by decide +kernel
theorem r206_45 : am_at 206 45 = some (.ireturn, 1, []) := by decide +kernel
theorem rt206 : am_rtt 206 = some (some .int) := by decide +kernel
set_option maxRecDepth 100000 in
theorem pg206 : am_pg[206]? = some am_m206 := rfl
theorem m206_L4_w {d : Nat} {N : Nat} {D : am_D} {v1 : Int32} {mc ms : Nat} {Q : am_O → am_AH → Prop} (hd : 3 ≤ d) : ∀ (n : Nat) (v2 : Int32) (v3 : Int32) {q : Int32} (h : m206_L4 N D v1  n v2 v3 = some q) (k0 : am_X xs L 206 d mc ms 44 [.ref 1, am_dead, .int q, am_dead] [] (am_mk D) 0 0 Q), am_X xs L 206 d mc ms 4 [.ref 1, .int v1, .int v2, .int v3] [] (am_mk D) 0 0 Q := by
  intro n
  induction n with
  | zero =>
    intro v2 v3 q h k0
    exact (nomatch (show none = some q from h))
  | succ n ih =>
    intro v2 v3 q h k0
    rw [m206_L4] at h
    refine x_ld (v := .int v3) r206_4 rfl rfl rfl ?_
    refine x_ld (v := .ref 1) r206_5 rfl rfl rfl ?_
    refine y_gf (cd := 9) (v := .ref 7) r206_6 rfl rfl rfl ?_
    refine y_alen (tag := 0) (n := 28) (v := 28) r206_9 rfl rfl rfl ?_
    rcases am_ifE h with ⟨c1, h⟩ | ⟨c1, h⟩
    · refine x_icgeT r206_10 c1 ?_
      refine x_forget (lc0 := [.ref 1, am_dead, .int v2, am_dead]) ⟨Or.inl rfl, Or.inr ⟨rfl, rfl⟩, Or.inl rfl, Or.inr ⟨rfl, rfl⟩, trivial⟩ ?_
      cases h
      exact k0
    · refine x_icgeF r206_10 c1 rfl ?_
      refine x_ld (v := .int v2) r206_13 rfl rfl rfl ?_
      refine x_ld (v := .ref 1) r206_14 rfl rfl rfl ?_
      refine y_gf (cd := 9) (v := .ref 7) r206_15 rfl rfl rfl ?_
      refine x_ld (v := .int v3) r206_18 rfl rfl rfl ?_
      obtain ⟨g2, h⟩ := am_gdE h
      refine y_ial (n := 28) r206_19 rfl (by decide) g2 rfl rfl ?_
      refine x_ld (v := .int v1) r206_20 rfl rfl rfl ?_
      obtain ⟨q3, h5, h⟩ := am_ltE h
      replace h5 := h5.symm
      have kj4 : am_X xs L 206 d mc ms 36 [.ref 1, .int v1, .int v2, .int v3] [.int q3, .int v2] (am_mk D) 0 0 Q := by
        refine x_ar r206_36 rfl trivial rfl ?_
        obtain ⟨x8, e9, h⟩ := am_ltE h
        refine am_topI e9 ?_
        refine x_sto (lc' := [.ref 1, .int v1, .int x8, .int v3]) r206_37 rfl rfl rfl rfl ?_
        obtain ⟨x10, e11, h⟩ := am_ltE h
        refine x_sto (lc' := [.ref 1, .int v1, .int x8, .int x10]) r206_38 rfl rfl (by subst e11; rfl) rfl ?_
        refine x_goto r206_41 ?_
        exact x_forget (lc0 := [.ref 1, .int v1, .int x8, .int x10]) ⟨Or.inl rfl, Or.inl rfl, Or.inl rfl, Or.inl rfl, trivial⟩ (ih x8 x10 h k0)
      rcases am_ifE h5 with ⟨c6, h5⟩ | ⟨c6, h5⟩
      · refine x_icneT r206_21 c6 rfl ?_
        refine x_ld (v := .int v3) r206_24 rfl rfl rfl ?_
        refine x_call1 (as := [.int v3]) (rest := [.int v2]) r206_25 rfl rfl rfl (by decide) (Nat.le_of_ble_eq_true rfl) (m252_ok rfl) (Nat.le_trans (by decide) hd) (Nat.zero_le _) (Nat.zero_le _) rfl ?_
        rcases am_ifE h5 with ⟨c7, h5⟩ | ⟨c7, h5⟩
        · refine x_ifeqT r206_28 c7 ?_
          refine x_ic (v := 0) r206_35 rfl rfl ?_
          subst h5
          exact kj4
        · refine x_ifeqF r206_28 c7 rfl ?_
          refine x_ic (v := 1) r206_31 rfl rfl ?_
          refine x_goto r206_32 ?_
          subst h5
          exact kj4
      · refine x_icneF r206_21 c6 ?_
        refine x_ic (v := 0) r206_35 rfl rfl ?_
        subst h5
        exact kj4
theorem m206_w {d mc ms : Nat} {N : Nat} {D : am_D} {v1 : Int32} {Q : am_O → am_AH → Prop} (hd : 3 ≤ d) {r : Int32} (h : m206 N D v1 = some r) (hQ : Q (.inl (some (.int r))) (am_mk D)) : am_X xs L 206 d mc ms 0 [.ref 1, .int v1, am_dead, am_dead] [] (am_mk D) 0 0 Q := by
  unfold m206 at h
  refine x_ic (v := 0) r206_0 rfl rfl ?_
  refine x_sto (lc' := [.ref 1, .int v1, .int (0 : Int32), am_dead]) r206_1 rfl rfl rfl rfl ?_
  refine x_ic (v := 0) r206_2 rfl rfl ?_
  refine x_sto (lc' := [.ref 1, .int v1, .int (0 : Int32), .int (0 : Int32)]) r206_3 rfl rfl rfl rfl ?_
  obtain ⟨q12, h13, h⟩ := Option.bind_eq_some_iff.mp h
  refine x_forget (lc0 := [.ref 1, .int v1, .int (0 : Int32), .int (0 : Int32)]) ⟨Or.inl rfl, Or.inl rfl, Or.inl rfl, Or.inl rfl, trivial⟩ (m206_L4_w hd N (0 : Int32) (0 : Int32) h13 ?_)
  refine x_ld (v := .int q12) r206_44 rfl rfl rfl ?_
  cases h
  exact x_ret (ret := some .int) (C := True) (v := some (.int _)) r206_45 rt206 rfl rfl rfl rfl rfl rfl rfl rfl trivial hQ
theorem m206_ok {N : Nat} {D : am_D} {v1 : Int32} {r : Int32} (h : m206 N D v1 = some r) : am_Y xs L 206 3 0 0 [.ref 1, .int v1] D (.inl (some (.int r))) D := am_Yof (mi := am_m206) (lc := [.ref 1, .int v1, am_dead, am_dead]) pg206 (Nat.le_of_ble_eq_true rfl) (am_rc1 (ci := 4) rfl rfl rfl rfl rfl) rfl (fun Q hQ => m206_w (Nat.le_refl _) h hQ)
theorem r208_0 : am_at 208 0 = some (.iconst (0), 1, []) := by decide +kernel
theorem r208_1 : am_at 208 1 = some (.istore_n 2, 1, [2]) := by decide +kernel
theorem r208_2 : am_at 208 2 = some (.iconst (0), 1, []) := by decide +kernel
theorem r208_3 : am_at 208 3 = some (.istore_n 3, 1, [3]) := by decide +kernel
theorem r208_4 : am_at 208 4 = some (.iload_n 3, 1, [3]) := by decide +kernel
theorem r208_5 : am_at 208 5 = some (.aload_n 0, 1, [0]) := by decide +kernel
theorem r208_6 : am_at 208 6 = some (.getfield 18, 3, [4, 1, 3, 163]) := by decide +kernel
theorem r208_9 : am_at 208 9 = some (.arraylength, 1, []) := by decide +kernel
theorem r208_10 : am_at 208 10 = some (.if_icmp .ge (38), 3, [48]) := by decide +kernel
theorem r208_13 : am_at 208 13 = some (.iload_n 2, 1, [2]) := by decide +kernel
theorem r208_14 : am_at 208 14 = some (.aload_n 0, 1, [0]) := by decide +kernel
theorem r208_15 : am_at 208 15 = some (.getfield 18, 3, [4, 1, 3, 163]) := by decide +kernel
theorem r208_18 : am_at 208 18 = some (.iload_n 3, 1, [3]) := by decide +kernel
theorem r208_19 : am_at 208 19 = some (.iaload, 1, []) := by decide +kernel
theorem r208_20 : am_at 208 20 = some (.iload_n 1, 1, [1]) := by decide +kernel
theorem r208_21 : am_at 208 21 = some (.if_icmp .ne (18), 3, [39]) := by decide +kernel
theorem r208_24 : am_at 208 24 = some (.aload_n 0, 1, [0]) := by decide +kernel
theorem r208_25 : am_at 208 25 = some (.getfield 12, 3, [4, 0, 3, 160]) := by decide +kernel
theorem r208_28 : am_at 208 28 = some (.iload_n 3, 1, [3]) := by decide +kernel
theorem r208_29 : am_at 208 29 = some (.invokevirtual 89, 3, [159, 2, 598, 0]) := by decide +kernel
theorem r208_32 : am_at 208 32 = some (.ifCond .eq (7), 3, [39]) := by decide +kernel
theorem r208_35 : am_at 208 35 = some (.iconst (1), 1, []) := by decide +kernel
theorem r208_36 : am_at 208 36 = some (.goto (4), 3, [40]) := by decide +kernel
theorem r208_39 : am_at 208 39 = some (.iconst (0), 1, []) := by decide +kernel
theorem r208_40 : am_at 208 40 = some (.iadd, 1, []) := by decide +kernel
theorem r208_41 : am_at 208 41 = some (.istore_n 2, 1, [2]) := by decide +kernel
theorem r208_42 : am_at 208 42 = some (.iinc 3 (1), 3, [3]) := by decide +kernel
theorem r208_45 : am_at 208 45 = some (.goto (-41), 3, [4]) := by decide +kernel
theorem r208_48 : am_at 208 48 = some (.iload_n 2, 1, [2]) := by decide +kernel
theorem r208_49 : am_at 208 49 = some (.ireturn, 1, []) := by decide +kernel
theorem rt208 : am_rtt 208 = some (some .int) := by decide +kernel
set_option maxRecDepth 100000 in
theorem pg208 : am_pg[208]? = some am_m208 := rfl
theorem m208_L4_w {d : Nat} {N : Nat} {D : am_D} {v1 : Int32} {mc ms : Nat} {Q : am_O → am_AH → Prop} (hd : 4 ≤ d) : ∀ (n : Nat) (v2 : Int32) (v3 : Int32) {q : Int32} (h : m208_L4 N D v1  n v2 v3 = some q) (k0 : am_X xs L 208 d mc ms 48 [.ref 1, am_dead, .int q, am_dead] [] (am_mk D) 0 0 Q), am_X xs L 208 d mc ms 4 [.ref 1, .int v1, .int v2, .int v3] [] (am_mk D) 0 0 Q := by
  intro n
  induction n with
  | zero =>
    intro v2 v3 q h k0
    exact (nomatch (show none = some q from h))
  | succ n ih =>
    intro v2 v3 q h k0
    rw [m208_L4] at h
    refine x_ld (v := .int v3) r208_4 rfl rfl rfl ?_
    refine x_ld (v := .ref 1) r208_5 rfl rfl rfl ?_
    refine y_gf (cd := 9) (v := .ref 7) r208_6 rfl rfl rfl ?_
    refine y_alen (tag := 0) (n := 28) (v := 28) r208_9 rfl rfl rfl ?_
    rcases am_ifE h with ⟨c1, h⟩ | ⟨c1, h⟩
    · refine x_icgeT r208_10 c1 ?_
      refine x_forget (lc0 := [.ref 1, am_dead, .int v2, am_dead]) ⟨Or.inl rfl, Or.inr ⟨rfl, rfl⟩, Or.inl rfl, Or.inr ⟨rfl, rfl⟩, trivial⟩ ?_
      cases h
      exact k0
    · refine x_icgeF r208_10 c1 rfl ?_
      refine x_ld (v := .int v2) r208_13 rfl rfl rfl ?_
      refine x_ld (v := .ref 1) r208_14 rfl rfl rfl ?_
      refine y_gf (cd := 9) (v := .ref 7) r208_15 rfl rfl rfl ?_
      refine x_ld (v := .int v3) r208_18 rfl rfl rfl ?_
      obtain ⟨g2, h⟩ := am_gdE h
      refine y_ial (n := 28) r208_19 rfl (by decide) g2 rfl rfl ?_
      refine x_ld (v := .int v1) r208_20 rfl rfl rfl ?_
      obtain ⟨q3, h5, h⟩ := am_ltE h
      replace h5 := h5.symm
      have kj4 : am_X xs L 208 d mc ms 40 [.ref 1, .int v1, .int v2, .int v3] [.int q3, .int v2] (am_mk D) 0 0 Q := by
        refine x_ar r208_40 rfl trivial rfl ?_
        obtain ⟨x8, e9, h⟩ := am_ltE h
        refine am_topI e9 ?_
        refine x_sto (lc' := [.ref 1, .int v1, .int x8, .int v3]) r208_41 rfl rfl rfl rfl ?_
        obtain ⟨x10, e11, h⟩ := am_ltE h
        refine x_sto (lc' := [.ref 1, .int v1, .int x8, .int x10]) r208_42 rfl rfl (by subst e11; rfl) rfl ?_
        refine x_goto r208_45 ?_
        exact x_forget (lc0 := [.ref 1, .int v1, .int x8, .int x10]) ⟨Or.inl rfl, Or.inl rfl, Or.inl rfl, Or.inl rfl, trivial⟩ (ih x8 x10 h k0)
      rcases am_ifE h5 with ⟨c6, h5⟩ | ⟨c6, h5⟩
      · refine x_icneT r208_21 c6 rfl ?_
        refine x_ld (v := .ref 1) r208_24 rfl rfl rfl ?_
        refine y_gf (cd := 4) (v := .ref 2) r208_25 rfl rfl rfl ?_
        refine x_ld (v := .int v3) r208_28 rfl rfl rfl ?_
        refine x_call1 (as := [.ref 2, .int v3]) (rest := [.int v2]) r208_29 rfl rfl rfl (by decide) (Nat.le_of_ble_eq_true rfl) (m159_ok rfl) (Nat.le_trans (by decide) hd) (Nat.zero_le _) (Nat.zero_le _) rfl ?_
        rcases am_ifE h5 with ⟨c7, h5⟩ | ⟨c7, h5⟩
        · refine x_ifeqT r208_32 c7 ?_
          refine x_ic (v := 0) r208_39 rfl rfl ?_
          subst h5
          exact kj4
        · refine x_ifeqF r208_32 c7 rfl ?_
          refine x_ic (v := 1) r208_35 rfl rfl ?_
          refine x_goto r208_36 ?_
          subst h5
          exact kj4
      · refine x_icneF r208_21 c6 ?_
        refine x_ic (v := 0) r208_39 rfl rfl ?_
        subst h5
        exact kj4
theorem m208_w {d mc ms : Nat} {N : Nat} {D : am_D} {v1 : Int32} {Q : am_O → am_AH → Prop} (hd : 4 ≤ d) {r : Int32} (h : m208 N D v1 = some r) (hQ : Q (.inl (some (.int r))) (am_mk D)) : am_X xs L 208 d mc ms 0 [.ref 1, .int v1, am_dead, am_dead] [] (am_mk D) 0 0 Q := by
  unfold m208 at h
  refine x_ic (v := 0) r208_0 rfl rfl ?_
  refine x_sto (lc' := [.ref 1, .int v1, .int (0 : Int32), am_dead]) r208_1 rfl rfl rfl rfl ?_
  refine x_ic (v := 0) r208_2 rfl rfl ?_
  refine x_sto (lc' := [.ref 1, .int v1, .int (0 : Int32), .int (0 : Int32)]) r208_3 rfl rfl rfl rfl ?_
  obtain ⟨q12, h13, h⟩ := Option.bind_eq_some_iff.mp h
  refine x_forget (lc0 := [.ref 1, .int v1, .int (0 : Int32), .int (0 : Int32)]) ⟨Or.inl rfl, Or.inl rfl, Or.inl rfl, Or.inl rfl, trivial⟩ (m208_L4_w hd N (0 : Int32) (0 : Int32) h13 ?_)
  refine x_ld (v := .int q12) r208_48 rfl rfl rfl ?_
  cases h
  exact x_ret (ret := some .int) (C := True) (v := some (.int _)) r208_49 rt208 rfl rfl rfl rfl rfl rfl rfl rfl trivial hQ
theorem m208_ok {N : Nat} {D : am_D} {v1 : Int32} {r : Int32} (h : m208 N D v1 = some r) : am_Y xs L 208 4 0 0 [.ref 1, .int v1] D (.inl (some (.int r))) D := am_Yof (mi := am_m208) (lc := [.ref 1, .int v1, am_dead, am_dead]) pg208 (Nat.le_of_ble_eq_true rfl) (am_rc1 (ci := 4) rfl rfl rfl rfl rfl) rfl (fun Q hQ => m208_w (Nat.le_refl _) h hQ)
theorem r209_0 : am_at 209 0 = some (.aload_n 0, 1, [0]) := by decide +kernel
theorem r209_1 : am_at 209 1 = some (.getfield 12, 3, [4, 0, 3, 160]) := by decide +kernel
theorem r209_4 : am_at 209 4 = some (.iload_n 2, 1, [2]) := by decide +kernel
theorem r209_5 : am_at 209 5 = some (.iload_n 3, 1, [3]) := by decide +kernel
theorem r209_6 : am_at 209 6 = some (.invokevirtual 92, 3, [162, 3, 1199, 0]) := by decide +kernel
theorem r209_9 : am_at 209 9 = some (.istore 4, 2, [4]) := by decide +kernel
theorem r209_11 : am_at 209 11 = some (.aload_n 0, 1, [0]) := by decide +kernel
theorem r209_12 : am_at 209 12 = some (.getfield 12, 3, [4, 0, 3, 160]) := by decide +kernel
theorem r209_15 : am_at 209 15 = some (.iload_n 2, 1, [2]) := by decide +kernel
theorem r209_16 : am_at 209 16 = some (.iload_n 3, 1, [3]) := by decide +kernel
theorem r209_17 : am_at 209 17 = some (.invokevirtual 96, 3, [163, 3, 1200, 0]) := by decide +kernel
theorem r209_20 : am_at 209 20 = some (.istore 5, 2, [5]) := by decide +kernel
theorem r209_22 : am_at 209 22 = some (.iconst (0), 1, []) := by decide +kernel
theorem r209_23 : am_at 209 23 = some (.istore 6, 2, [6]) := by decide +kernel
theorem r209_25 : am_at 209 25 = some (.iconst (0), 1, []) := by decide +kernel
theorem r209_26 : am_at 209 26 = some (.istore 7, 2, [7]) := by decide +kernel
theorem r209_28 : am_at 209 28 = some (.iload 7, 2, [7]) := by decide +kernel
theorem r209_30 : am_at 209 30 = some (.aload_n 0, 1, [0]) := by decide +kernel
theorem r209_31 : am_at 209 31 = some (.getfield 18, 3, [4, 1, 3, 163]) := by decide +kernel
theorem r209_34 : am_at 209 34 = some (.arraylength, 1, []) := by decide +kernel
theorem r209_35 : am_at 209 35 = some (.if_icmp .ge (62), 3, [97]) := by decide +kernel
theorem r209_38 : am_at 209 38 = some (.iload 7, 2, [7]) := by decide +kernel
theorem r209_40 : am_at 209 40 = some (.iload 4, 2, [4]) := by decide +kernel
theorem r209_42 : am_at 209 42 = some (.invokestatic 99, 3, [253, 2, 1204, 0]) := by decide +kernel
theorem r209_45 : am_at 209 45 = some (.ifCond .ne (13), 3, [58]) := by decide +kernel
theorem r209_48 : am_at 209 48 = some (.iload 7, 2, [7]) := by decide +kernel
theorem r209_50 : am_at 209 50 = some (.iload 5, 2, [5]) := by decide +kernel
theorem r209_52 : am_at 209 52 = some (.invokestatic 99, 3, [253, 2, 1204, 0]) := by decide +kernel
theorem r209_55 : am_at 209 55 = some (.ifCond .eq (7), 3, [62]) := by decide +kernel
theorem r209_58 : am_at 209 58 = some (.iconst (1), 1, []) := by decide +kernel
theorem r209_59 : am_at 209 59 = some (.goto (4), 3, [63]) := by decide +kernel
theorem r209_62 : am_at 209 62 = some (.iconst (0), 1, []) := by decide +kernel
theorem r209_63 : am_at 209 63 = some (.istore 8, 2, [8]) := by decide +kernel
theorem r209_65 : am_at 209 65 = some (.iload 6, 2, [6]) := by decide +kernel
theorem r209_67 : am_at 209 67 = some (.aload_n 0, 1, [0]) := by decide +kernel
theorem r209_68 : am_at 209 68 = some (.getfield 18, 3, [4, 1, 3, 163]) := by decide +kernel
theorem r209_71 : am_at 209 71 = some (.iload 7, 2, [7]) := by decide +kernel
theorem r209_73 : am_at 209 73 = some (.iaload, 1, []) := by decide +kernel
theorem r209_74 : am_at 209 74 = some (.iload_n 1, 1, [1]) := by decide +kernel
theorem r209_75 : am_at 209 75 = some (.if_icmp .ne (12), 3, [87]) := by decide +kernel
theorem r209_78 : am_at 209 78 = some (.iload 8, 2, [8]) := by decide +kernel
theorem r209_80 : am_at 209 80 = some (.ifCond .eq (7), 3, [87]) := by decide +kernel
theorem r209_83 : am_at 209 83 = some (.iconst (1), 1, []) := by decide +kernel
theorem r209_84 : am_at 209 84 = some (.goto (4), 3, [88]) := by decide +kernel
theorem r209_87 : am_at 209 87 = some (.iconst (0), 1, []) := by decide +kernel
theorem r209_88 : am_at 209 88 = some (.iadd, 1, []) := by decide +kernel
theorem r209_89 : am_at 209 89 = some (.istore 6, 2, [6]) := by decide +kernel
theorem r209_91 : am_at 209 91 = some (.iinc 7 (1), 3, [7]) := by decide +kernel
theorem r209_94 : am_at 209 94 = some (.goto (-66), 3, [28]) := by decide +kernel
theorem r209_97 : am_at 209 97 = some (.iload 6, 2, [6]) := by decide +kernel
theorem r209_99 : am_at 209 99 = some (.ireturn, 1, []) := by decide +kernel
theorem rt209 : am_rtt 209 = some (some .int) := by decide +kernel
set_option maxRecDepth 100000 in
theorem pg209 : am_pg[209]? = some am_m209 := rfl
theorem m209_L28_w {d : Nat} {N : Nat} {D : am_D} {v1 : Int32} {v4 : Int32} {v5 : Int32} {mc ms : Nat} {Q : am_O → am_AH → Prop} (hd : 4 ≤ d) : ∀ (n : Nat) (v6 : Int32) (v7 : Int32) {q : Int32} (h : m209_L28 N D v1 v4 v5  n v6 v7 = some q) (k0 : am_X xs L 209 d mc ms 97 [.ref 1, am_dead, am_dead, am_dead, am_dead, am_dead, .int q, am_dead, am_dead] [] (am_mk D) 0 0 Q), am_X xs L 209 d mc ms 28 [.ref 1, .int v1, am_dead, am_dead, .int v4, .int v5, .int v6, .int v7, am_dead] [] (am_mk D) 0 0 Q := by
  intro n
  induction n with
  | zero =>
    intro v6 v7 q h k0
    exact (nomatch (show none = some q from h))
  | succ n ih =>
    intro v6 v7 q h k0
    rw [m209_L28] at h
    refine x_ld (v := .int v7) r209_28 rfl rfl rfl ?_
    refine x_ld (v := .ref 1) r209_30 rfl rfl rfl ?_
    refine y_gf (cd := 9) (v := .ref 7) r209_31 rfl rfl rfl ?_
    refine y_alen (tag := 0) (n := 28) (v := 28) r209_34 rfl rfl rfl ?_
    rcases am_ifE h with ⟨c5, h⟩ | ⟨c5, h⟩
    · refine x_icgeT r209_35 c5 ?_
      refine x_forget (lc0 := [.ref 1, am_dead, am_dead, am_dead, am_dead, am_dead, .int v6, am_dead, am_dead]) ⟨Or.inl rfl, Or.inr ⟨rfl, rfl⟩, Or.inl rfl, Or.inl rfl, Or.inr ⟨rfl, rfl⟩, Or.inr ⟨rfl, rfl⟩, Or.inl rfl, Or.inr ⟨rfl, rfl⟩, Or.inl rfl, trivial⟩ ?_
      cases h
      exact k0
    · refine x_icgeF r209_35 c5 rfl ?_
      refine x_ld (v := .int v7) r209_38 rfl rfl rfl ?_
      refine x_ld (v := .int v4) r209_40 rfl rfl rfl ?_
      refine x_call1 (as := [.int v7, .int v4]) (rest := []) r209_42 rfl rfl rfl (by decide) (Nat.le_of_ble_eq_true rfl) (m253_ok rfl) (Nat.le_trans (by decide) hd) (Nat.zero_le _) (Nat.zero_le _) rfl ?_
      obtain ⟨q6, h8, h⟩ := am_ltE h
      replace h8 := h8.symm
      have kj7 : am_X xs L 209 d mc ms 63 [.ref 1, .int v1, am_dead, am_dead, .int v4, .int v5, .int v6, .int v7, am_dead] [.int q6] (am_mk D) 0 0 Q := by
        refine x_sto (lc' := [.ref 1, .int v1, am_dead, am_dead, .int v4, .int v5, .int v6, .int v7, .int q6]) r209_63 rfl rfl rfl rfl ?_
        refine x_ld (v := .int v6) r209_65 rfl rfl rfl ?_
        refine x_ld (v := .ref 1) r209_67 rfl rfl rfl ?_
        refine y_gf (cd := 9) (v := .ref 7) r209_68 rfl rfl rfl ?_
        refine x_ld (v := .int v7) r209_71 rfl rfl rfl ?_
        obtain ⟨g11, h⟩ := am_gdE h
        refine y_ial (n := 28) r209_73 rfl (by decide) g11 rfl rfl ?_
        refine x_ld (v := .int v1) r209_74 rfl rfl rfl ?_
        obtain ⟨q12, h14, h⟩ := am_ltE h
        replace h14 := h14.symm
        have kj13 : am_X xs L 209 d mc ms 88 [.ref 1, .int v1, am_dead, am_dead, .int v4, .int v5, .int v6, .int v7, .int q6] [.int q12, .int v6] (am_mk D) 0 0 Q := by
          refine x_ar r209_88 rfl trivial rfl ?_
          obtain ⟨x17, e18, h⟩ := am_ltE h
          refine am_topI e18 ?_
          refine x_sto (lc' := [.ref 1, .int v1, am_dead, am_dead, .int v4, .int v5, .int x17, .int v7, .int q6]) r209_89 rfl rfl rfl rfl ?_
          obtain ⟨x19, e20, h⟩ := am_ltE h
          refine x_sto (lc' := [.ref 1, .int v1, am_dead, am_dead, .int v4, .int v5, .int x17, .int x19, .int q6]) r209_91 rfl rfl (by subst e20; rfl) rfl ?_
          refine x_goto r209_94 ?_
          exact x_forget (lc0 := [.ref 1, .int v1, am_dead, am_dead, .int v4, .int v5, .int x17, .int x19, am_dead]) ⟨Or.inl rfl, Or.inl rfl, Or.inl rfl, Or.inl rfl, Or.inl rfl, Or.inl rfl, Or.inl rfl, Or.inl rfl, Or.inr ⟨rfl, rfl⟩, trivial⟩ (ih x17 x19 h k0)
        rcases am_ifE h14 with ⟨c15, h14⟩ | ⟨c15, h14⟩
        · refine x_icneT r209_75 c15 rfl ?_
          refine x_ld (v := .int q6) r209_78 rfl rfl rfl ?_
          rcases am_ifE h14 with ⟨c16, h14⟩ | ⟨c16, h14⟩
          · refine x_ifeqT r209_80 c16 ?_
            refine x_ic (v := 0) r209_87 rfl rfl ?_
            subst h14
            exact kj13
          · refine x_ifeqF r209_80 c16 rfl ?_
            refine x_ic (v := 1) r209_83 rfl rfl ?_
            refine x_goto r209_84 ?_
            subst h14
            exact kj13
        · refine x_icneF r209_75 c15 ?_
          refine x_ic (v := 0) r209_87 rfl rfl ?_
          subst h14
          exact kj13
      rcases am_ifE h8 with ⟨c9, h8⟩ | ⟨c9, h8⟩
      · refine x_ifneT r209_45 c9 rfl ?_
        refine x_ld (v := .int v7) r209_48 rfl rfl rfl ?_
        refine x_ld (v := .int v5) r209_50 rfl rfl rfl ?_
        refine x_call1 (as := [.int v7, .int v5]) (rest := []) r209_52 rfl rfl rfl (by decide) (Nat.le_of_ble_eq_true rfl) (m253_ok rfl) (Nat.le_trans (by decide) hd) (Nat.zero_le _) (Nat.zero_le _) rfl ?_
        rcases am_ifE h8 with ⟨c10, h8⟩ | ⟨c10, h8⟩
        · refine x_ifeqT r209_55 c10 ?_
          refine x_ic (v := 0) r209_62 rfl rfl ?_
          subst h8
          exact kj7
        · refine x_ifeqF r209_55 c10 rfl ?_
          refine x_ic (v := 1) r209_58 rfl rfl ?_
          refine x_goto r209_59 ?_
          subst h8
          exact kj7
      · refine x_ifneF r209_45 c9 ?_
        refine x_ic (v := 1) r209_58 rfl rfl ?_
        refine x_goto r209_59 ?_
        subst h8
        exact kj7
theorem m209_w {d mc ms : Nat} {N : Nat} {D : am_D} {v1 : Int32} {v2 : Int32} {v3 : Int32} {Q : am_O → am_AH → Prop} (hd : 4 ≤ d) {r : Int32} (h : m209 N D v1 v2 v3 = some r) (hQ : Q (.inl (some (.int r))) (am_mk D)) : am_X xs L 209 d mc ms 0 [.ref 1, .int v1, .int v2, .int v3, am_dead, am_dead, am_dead, am_dead, am_dead] [] (am_mk D) 0 0 Q := by
  unfold m209 at h
  refine x_ld (v := .ref 1) r209_0 rfl rfl rfl ?_
  refine y_gf (cd := 4) (v := .ref 2) r209_1 rfl rfl rfl ?_
  refine x_ld (v := .int v2) r209_4 rfl rfl rfl ?_
  refine x_ld (v := .int v3) r209_5 rfl rfl rfl ?_
  refine x_call1 (as := [.ref 2, .int v2, .int v3]) (rest := []) r209_6 rfl rfl rfl (by decide) (Nat.le_of_ble_eq_true rfl) (m162_ok rfl) (Nat.le_trans (by decide) hd) (Nat.zero_le _) (Nat.zero_le _) rfl ?_
  obtain ⟨x1, e2, h⟩ := am_ltE h
  refine am_topI e2 ?_
  refine x_sto (lc' := [.ref 1, .int v1, .int v2, .int v3, .int x1, am_dead, am_dead, am_dead, am_dead]) r209_9 rfl rfl rfl rfl ?_
  refine x_ld (v := .ref 1) r209_11 rfl rfl rfl ?_
  refine y_gf (cd := 4) (v := .ref 2) r209_12 rfl rfl rfl ?_
  refine x_ld (v := .int v2) r209_15 rfl rfl rfl ?_
  refine x_ld (v := .int v3) r209_16 rfl rfl rfl ?_
  refine x_call1 (as := [.ref 2, .int v2, .int v3]) (rest := []) r209_17 rfl rfl rfl (by decide) (Nat.le_of_ble_eq_true rfl) (m163_ok rfl) (Nat.le_trans (by decide) hd) (Nat.zero_le _) (Nat.zero_le _) rfl ?_
  obtain ⟨x3, e4, h⟩ := am_ltE h
  refine am_topI e4 ?_
  refine x_sto (lc' := [.ref 1, .int v1, .int v2, .int v3, .int x1, .int x3, am_dead, am_dead, am_dead]) r209_20 rfl rfl rfl rfl ?_
  refine x_ic (v := 0) r209_22 rfl rfl ?_
  refine x_sto (lc' := [.ref 1, .int v1, .int v2, .int v3, .int x1, .int x3, .int (0 : Int32), am_dead, am_dead]) r209_23 rfl rfl rfl rfl ?_
  refine x_ic (v := 0) r209_25 rfl rfl ?_
  refine x_sto (lc' := [.ref 1, .int v1, .int v2, .int v3, .int x1, .int x3, .int (0 : Int32), .int (0 : Int32), am_dead]) r209_26 rfl rfl rfl rfl ?_
  obtain ⟨q21, h22, h⟩ := Option.bind_eq_some_iff.mp h
  refine x_forget (lc0 := [.ref 1, .int v1, am_dead, am_dead, .int x1, .int x3, .int (0 : Int32), .int (0 : Int32), am_dead]) ⟨Or.inl rfl, Or.inl rfl, Or.inr ⟨rfl, rfl⟩, Or.inr ⟨rfl, rfl⟩, Or.inl rfl, Or.inl rfl, Or.inl rfl, Or.inl rfl, Or.inl rfl, trivial⟩ (m209_L28_w hd N (0 : Int32) (0 : Int32) h22 ?_)
  refine x_ld (v := .int q21) r209_97 rfl rfl rfl ?_
  cases h
  exact x_ret (ret := some .int) (C := True) (v := some (.int _)) r209_99 rt209 rfl rfl rfl rfl rfl rfl rfl rfl trivial hQ
theorem m209_ok {N : Nat} {D : am_D} {v1 : Int32} {v2 : Int32} {v3 : Int32} {r : Int32} (h : m209 N D v1 v2 v3 = some r) : am_Y xs L 209 4 0 0 [.ref 1, .int v1, .int v2, .int v3] D (.inl (some (.int r))) D := am_Yof (mi := am_m209) (lc := [.ref 1, .int v1, .int v2, .int v3, am_dead, am_dead, am_dead, am_dead, am_dead]) pg209 (Nat.le_of_ble_eq_true rfl) (am_rc1 (ci := 4) rfl rfl rfl rfl rfl) rfl (fun Q hQ => m209_w (Nat.le_refl _) h hQ)
theorem r211_0 : am_at 211 0 = some (.iconst (0), 1, []) := by decide +kernel
theorem r211_1 : am_at 211 1 = some (.istore_n 1, 1, [1]) := by decide +kernel
theorem r211_2 : am_at 211 2 = some (.iconst (0), 1, []) := by decide +kernel
theorem r211_3 : am_at 211 3 = some (.istore_n 2, 1, [2]) := by decide +kernel
theorem r211_4 : am_at 211 4 = some (.iload_n 2, 1, [2]) := by decide +kernel
theorem r211_5 : am_at 211 5 = some (.iconst (4), 1, []) := by decide +kernel
theorem r211_6 : am_at 211 6 = some (.if_icmp .ge (17), 3, [23]) := by decide +kernel
theorem r211_9 : am_at 211 9 = some (.iload_n 1, 1, [1]) := by decide +kernel
theorem r211_10 : am_at 211 10 = some (.aload_n 0, 1, [0]) := by decide +kernel
theorem r211_11 : am_at 211 11 = some (.iload_n 2, 1, [2]) := by decide +kernel
theorem r211_12 : am_at 211 12 = some (.invokevirtual 106, 3, [205, 2, 403, 0]) := by decide +kernel
theorem r211_15 : am_at 211 15 = some (.iadd, 1, []) := by decide +kernel
theorem r211_16 : am_at 211 16 = some (.istore_n 1, 1, [1]) := by decide +kernel
theorem r211_17 : am_at 211 17 = some (.iinc 2 (1), 3, [2]) := by decide +kernel
theorem r211_20 : am_at 211 20 = some (.goto (-16), 3, [4]) := by decide +kernel
theorem r211_23 : am_at 211 23 = some (.iload_n 1, 1, [1]) := by decide +kernel
theorem r211_24 : am_at 211 24 = some (.ireturn, 1, []) := by decide +kernel
theorem rt211 : am_rtt 211 = some (some .int) := by decide +kernel
set_option maxRecDepth 100000 in
theorem pg211 : am_pg[211]? = some am_m211 := rfl
theorem m211_L4_w {d : Nat} {N : Nat} {D : am_D} {mc ms : Nat} {Q : am_O → am_AH → Prop} (hd : 3 ≤ d) : ∀ (n : Nat) (v1 : Int32) (v2 : Int32) {q : Int32} (h : m211_L4 N D  n v1 v2 = some q) (k0 : am_X xs L 211 d mc ms 23 [.ref 1, .int q, am_dead] [] (am_mk D) 0 0 Q), am_X xs L 211 d mc ms 4 [.ref 1, .int v1, .int v2] [] (am_mk D) 0 0 Q := by
  intro n
  induction n with
  | zero =>
    intro v1 v2 q h k0
    exact (nomatch (show none = some q from h))
  | succ n ih =>
    intro v1 v2 q h k0
    rw [m211_L4] at h
    refine x_ld (v := .int v2) r211_4 rfl rfl rfl ?_
    refine x_ic (v := 4) r211_5 rfl rfl ?_
    rcases am_ifE h with ⟨c1, h⟩ | ⟨c1, h⟩
    · refine x_icgeT r211_6 c1 ?_
      refine x_forget (lc0 := [.ref 1, .int v1, am_dead]) ⟨Or.inl rfl, Or.inl rfl, Or.inr ⟨rfl, rfl⟩, trivial⟩ ?_
      cases h
      exact k0
    · refine x_icgeF r211_6 c1 rfl ?_
      refine x_ld (v := .int v1) r211_9 rfl rfl rfl ?_
      refine x_ld (v := .ref 1) r211_10 rfl rfl rfl ?_
      refine x_ld (v := .int v2) r211_11 rfl rfl rfl ?_
      obtain ⟨q2, h3, h⟩ := Option.bind_eq_some_iff.mp h
      refine x_call1 (as := [.ref 1, .int v2]) (rest := [.int v1]) r211_12 rfl rfl rfl (by decide) (Nat.le_of_ble_eq_true rfl) (m205_ok h3) (Nat.le_trans (by decide) hd) (Nat.zero_le _) (Nat.zero_le _) rfl ?_
      refine x_ar r211_15 rfl trivial rfl ?_
      obtain ⟨x4, e5, h⟩ := am_ltE h
      refine am_topI e5 ?_
      refine x_sto (lc' := [.ref 1, .int x4, .int v2]) r211_16 rfl rfl rfl rfl ?_
      obtain ⟨x6, e7, h⟩ := am_ltE h
      refine x_sto (lc' := [.ref 1, .int x4, .int x6]) r211_17 rfl rfl (by subst e7; rfl) rfl ?_
      refine x_goto r211_20 ?_
      exact x_forget (lc0 := [.ref 1, .int x4, .int x6]) ⟨Or.inl rfl, Or.inl rfl, Or.inl rfl, trivial⟩ (ih x4 x6 h k0)
theorem m211_w {d mc ms : Nat} {N : Nat} {D : am_D} {Q : am_O → am_AH → Prop} (hd : 3 ≤ d) {r : Int32} (h : m211 N D = some r) (hQ : Q (.inl (some (.int r))) (am_mk D)) : am_X xs L 211 d mc ms 0 [.ref 1, am_dead, am_dead] [] (am_mk D) 0 0 Q := by
  unfold m211 at h
  refine x_ic (v := 0) r211_0 rfl rfl ?_
  refine x_sto (lc' := [.ref 1, .int (0 : Int32), am_dead]) r211_1 rfl rfl rfl rfl ?_
  refine x_ic (v := 0) r211_2 rfl rfl ?_
  refine x_sto (lc' := [.ref 1, .int (0 : Int32), .int (0 : Int32)]) r211_3 rfl rfl rfl rfl ?_
  obtain ⟨q8, h9, h⟩ := Option.bind_eq_some_iff.mp h
  refine x_forget (lc0 := [.ref 1, .int (0 : Int32), .int (0 : Int32)]) ⟨Or.inl rfl, Or.inl rfl, Or.inl rfl, trivial⟩ (m211_L4_w hd N (0 : Int32) (0 : Int32) h9 ?_)
  refine x_ld (v := .int q8) r211_23 rfl rfl rfl ?_
  cases h
  exact x_ret (ret := some .int) (C := True) (v := some (.int _)) r211_24 rt211 rfl rfl rfl rfl rfl rfl rfl rfl trivial hQ
theorem m211_ok {N : Nat} {D : am_D} {r : Int32} (h : m211 N D = some r) : am_Y xs L 211 3 0 0 [.ref 1] D (.inl (some (.int r))) D := am_Yof (mi := am_m211) (lc := [.ref 1, am_dead, am_dead]) pg211 (Nat.le_of_ble_eq_true rfl) (am_rc1 (ci := 4) rfl rfl rfl rfl rfl) rfl (fun Q hQ => m211_w (Nat.le_refl _) h hQ)
theorem r214_0 : am_at 214 0 = some (.iload_n 1, 1, [1]) := by decide +kernel
theorem r214_1 : am_at 214 1 = some (.istore_n 2, 1, [2]) := by decide +kernel
theorem r214_2 : am_at 214 2 = some (.iconst (0), 1, []) := by decide +kernel
theorem r214_3 : am_at 214 3 = some (.istore_n 3, 1, [3]) := by decide +kernel
theorem r214_4 : am_at 214 4 = some (.iconst (0), 1, []) := by decide +kernel
theorem r214_5 : am_at 214 5 = some (.istore 4, 2, [4]) := by decide +kernel
theorem r214_7 : am_at 214 7 = some (.iload 4, 2, [4]) := by decide +kernel
theorem r214_9 : am_at 214 9 = some (.iconst (4), 1, []) := by decide +kernel
theorem r214_10 : am_at 214 10 = some (.if_icmp .ge (71), 3, [81]) := by decide +kernel
theorem r214_13 : am_at 214 13 = some (.aload_n 0, 1, [0]) := by decide +kernel
theorem r214_14 : am_at 214 14 = some (.iload 4, 2, [4]) := by decide +kernel
theorem r214_16 : am_at 214 16 = some (.invokevirtual 103, 3, [204, 2, 395, 0]) := by decide +kernel
theorem r214_19 : am_at 214 19 = some (.istore 5, 2, [5]) := by decide +kernel
theorem r214_21 : am_at 214 21 = some (.iload 5, 2, [5]) := by decide +kernel
theorem r214_23 : am_at 214 23 = some (.bipush (7), 2, []) := by decide +kernel
theorem r214_25 : am_at 214 25 = some (.if_icmp .ge (50), 3, [75]) := by decide +kernel
theorem r214_28 : am_at 214 28 = some (.bipush (73), 2, []) := by decide +kernel
theorem r214_30 : am_at 214 30 = some (.iload_n 2, 1, [2]) := by decide +kernel
theorem r214_31 : am_at 214 31 = some (.imul, 1, []) := by decide +kernel
theorem r214_32 : am_at 214 32 = some (.bipush (41), 2, []) := by decide +kernel
theorem r214_34 : am_at 214 34 = some (.iadd, 1, []) := by decide +kernel
theorem r214_35 : am_at 214 35 = some (.sipush (4096), 3, []) := by decide +kernel
theorem r214_38 : am_at 214 38 = some (.irem, 1, []) := by decide +kernel
theorem r214_39 : am_at 214 39 = some (.istore_n 2, 1, [2]) := by decide +kernel
theorem r214_40 : am_at 214 40 = some (.aload_n 0, 1, [0]) := by decide +kernel
theorem r214_41 : am_at 214 41 = some (.iconst (5), 1, []) := by decide +kernel
theorem r214_42 : am_at 214 42 = some (.invokevirtual 103, 3, [204, 2, 395, 0]) := by decide +kernel
theorem r214_45 : am_at 214 45 = some (.istore 6, 2, [6]) := by decide +kernel
theorem r214_47 : am_at 214 47 = some (.iload 6, 2, [6]) := by decide +kernel
theorem r214_49 : am_at 214 49 = some (.ifCond .le (20), 3, [69]) := by decide +kernel
theorem r214_52 : am_at 214 52 = some (.aload_n 0, 1, [0]) := by decide +kernel
theorem r214_53 : am_at 214 53 = some (.iload 4, 2, [4]) := by decide +kernel
theorem r214_55 : am_at 214 55 = some (.aload_n 0, 1, [0]) := by decide +kernel
theorem r214_56 : am_at 214 56 = some (.iload_n 2, 1, [2]) := by decide +kernel
theorem r214_57 : am_at 214 57 = some (.iload 6, 2, [6]) := by decide +kernel
theorem r214_59 : am_at 214 59 = some (.irem, 1, []) := by decide +kernel
theorem r214_60 : am_at 214 60 = some (.invokevirtual 116, 3, [215, 2, 848, 0]) := by decide +kernel
theorem r214_63 : am_at 214 63 = some (.invokevirtual 119, 3, [213, 3, 852, 0]) := by decide +kernel
theorem r214_66 : am_at 214 66 = some (.iinc 3 (1), 3, [3]) := by decide +kernel
theorem r214_69 : am_at 214 69 = some (.iinc 5 (1), 3, [5]) := by decide +kernel
theorem r214_72 : am_at 214 72 = some (.goto (-51), 3, [21]) := by decide +kernel
theorem r214_75 : am_at 214 75 = some (.iinc 4 (1), 3, [4]) := by decide +kernel
theorem r214_78 : am_at 214 78 = some (.goto (-71), 3, [7]) := by decide +kernel
theorem r214_81 : am_at 214 81 = some (.iload_n 3, 1, [3]) := by decide +kernel
theorem r214_82 : am_at 214 82 = some (.ireturn, 1, []) := by decide +kernel
theorem rt214 : am_rtt 214 = some (some .int) := by decide +kernel
set_option maxRecDepth 100000 in
theorem pg214 : am_pg[214]? = some am_m214 := rfl
theorem m214_L21_w {d : Nat} {N : Nat} {v4 : Int32} {mc ms : Nat} {Q : am_O → am_AH → Prop} (hd : 3 ≤ d) : ∀ (n : Nat) (D : am_D) (v2 : Int32) (v3 : Int32) (v5 : Int32) {q : Int32 × Int32 × am_D} (h : m214_L21 N v4  n D v2 v3 v5 = some q) (k0 : am_X xs L 214 d mc ms 75 [.ref 1, am_dead, .int q.1, .int q.2.1, .int v4, am_dead, am_dead] [] (am_mk q.2.2) 0 0 Q), am_X xs L 214 d mc ms 21 [.ref 1, am_dead, .int v2, .int v3, .int v4, .int v5, am_dead] [] (am_mk D) 0 0 Q := by
  intro n
  induction n with
  | zero =>
    intro D v2 v3 v5 q h k0
    exact (nomatch (show none = some q from h))
  | succ n ih =>
    intro D v2 v3 v5 q h k0
    rw [m214_L21] at h
    refine x_ld (v := .int v5) r214_21 rfl rfl rfl ?_
    refine x_bi (v := 7) r214_23 rfl rfl ?_
    rcases am_ifE h with ⟨c4, h⟩ | ⟨c4, h⟩
    · refine x_icgeT r214_25 c4 ?_
      refine x_forget (lc0 := [.ref 1, am_dead, .int v2, .int v3, .int v4, am_dead, am_dead]) ⟨Or.inl rfl, Or.inl rfl, Or.inl rfl, Or.inl rfl, Or.inl rfl, Or.inr ⟨rfl, rfl⟩, Or.inl rfl, trivial⟩ ?_
      cases h
      exact k0
    · refine x_icgeF r214_25 c4 rfl ?_
      refine x_bi (v := 73) r214_28 rfl rfl ?_
      refine x_ld (v := .int v2) r214_30 rfl rfl rfl ?_
      refine x_ar r214_31 rfl trivial rfl ?_
      refine x_bi (v := 41) r214_32 rfl rfl ?_
      refine x_ar r214_34 rfl trivial rfl ?_
      refine x_si (v := 4096) r214_35 rfl rfl ?_
      refine x_ar r214_38 rfl (by decide) rfl ?_
      obtain ⟨x5, e6, h⟩ := am_ltE h
      refine am_topI e6 ?_
      refine x_sto (lc' := [.ref 1, am_dead, .int x5, .int v3, .int v4, .int v5, am_dead]) r214_39 rfl rfl rfl rfl ?_
      refine x_ld (v := .ref 1) r214_40 rfl rfl rfl ?_
      refine x_ic (v := 5) r214_41 rfl rfl ?_
      obtain ⟨q7, h8, h⟩ := Option.bind_eq_some_iff.mp h
      refine x_call1 (as := [.ref 1, .int (5 : Int32)]) (rest := []) r214_42 rfl rfl rfl (by decide) (Nat.le_of_ble_eq_true rfl) (m204_ok h8) (Nat.le_trans (by decide) hd) (Nat.zero_le _) (Nat.zero_le _) rfl ?_
      refine x_sto (lc' := [.ref 1, am_dead, .int x5, .int v3, .int v4, .int v5, .int q7]) r214_45 rfl rfl rfl rfl ?_
      refine x_ld (v := .int q7) r214_47 rfl rfl rfl ?_
      obtain ⟨q9, h11, h⟩ := Option.bind_eq_some_iff.mp h
      have kj10 : am_X xs L 214 d mc ms 69 [.ref 1, am_dead, .int x5, .int q9.1, .int v4, .int v5, .int q7] [] (am_mk q9.2) 0 0 Q := by
        obtain ⟨x20, e21, h⟩ := am_ltE h
        refine x_sto (lc' := [.ref 1, am_dead, .int x5, .int q9.1, .int v4, .int x20, .int q7]) r214_69 rfl rfl (by subst e21; rfl) rfl ?_
        refine x_goto r214_72 ?_
        exact x_forget (lc0 := [.ref 1, am_dead, .int x5, .int q9.1, .int v4, .int x20, am_dead]) ⟨Or.inl rfl, Or.inl rfl, Or.inl rfl, Or.inl rfl, Or.inl rfl, Or.inl rfl, Or.inr ⟨rfl, rfl⟩, trivial⟩ (ih q9.2 x5 q9.1 x20 h k0)
      rcases am_ifE h11 with ⟨c12, h11⟩ | ⟨c12, h11⟩
      · refine x_ifleT r214_49 c12 ?_
        cases h11
        exact kj10
      · refine x_ifleF r214_49 c12 rfl ?_
        refine x_ld (v := .ref 1) r214_52 rfl rfl rfl ?_
        refine x_ld (v := .int v4) r214_53 rfl rfl rfl ?_
        refine x_ld (v := .ref 1) r214_55 rfl rfl rfl ?_
        refine x_ld (v := .int x5) r214_56 rfl rfl rfl ?_
        refine x_ld (v := .int q7) r214_57 rfl rfl rfl ?_
        obtain ⟨g13, h11⟩ := am_gdE h11
        refine x_ar r214_59 rfl g13 rfl ?_
        obtain ⟨q14, h15, h11⟩ := Option.bind_eq_some_iff.mp h11
        refine x_call1 (as := [.ref 1, .int (x5 - x5 / q7 * q7)]) (rest := [.int v4, .ref 1]) r214_60 rfl rfl rfl (by decide) (Nat.le_of_ble_eq_true rfl) (m215_ok h15) (Nat.le_trans (by decide) hd) (Nat.zero_le _) (Nat.zero_le _) rfl ?_
        obtain ⟨q16, h17, h11⟩ := am_ltE h11
        replace h17 := h17.symm
        refine x_call0 (as := [.ref 1, .int v4, .int q14]) (rest := []) r214_63 rfl rfl rfl (by decide) (Nat.le_of_ble_eq_true rfl) (m213_ok h17) (Nat.le_trans (by decide) hd) (Nat.zero_le _) (Nat.zero_le _) rfl ?_
        obtain ⟨x18, e19, h11⟩ := am_ltE h11
        refine x_sto (lc' := [.ref 1, am_dead, .int x5, .int x18, .int v4, .int v5, .int q7]) r214_66 rfl rfl (by subst e19; rfl) rfl ?_
        cases h11
        exact kj10
theorem m214_L7_w {d : Nat} {N : Nat} {mc ms : Nat} {Q : am_O → am_AH → Prop} (hd : 3 ≤ d) : ∀ (n : Nat) (D : am_D) (v2 : Int32) (v3 : Int32) (v4 : Int32) {q : Int32 × am_D} (h : m214_L7 N  n D v2 v3 v4 = some q) (k0 : am_X xs L 214 d mc ms 81 [.ref 1, am_dead, am_dead, .int q.1, am_dead, am_dead, am_dead] [] (am_mk q.2) 0 0 Q), am_X xs L 214 d mc ms 7 [.ref 1, am_dead, .int v2, .int v3, .int v4, am_dead, am_dead] [] (am_mk D) 0 0 Q := by
  intro n
  induction n with
  | zero =>
    intro D v2 v3 v4 q h k0
    exact (nomatch (show none = some q from h))
  | succ n ih =>
    intro D v2 v3 v4 q h k0
    rw [m214_L7] at h
    refine x_ld (v := .int v4) r214_7 rfl rfl rfl ?_
    refine x_ic (v := 4) r214_9 rfl rfl ?_
    rcases am_ifE h with ⟨c1, h⟩ | ⟨c1, h⟩
    · refine x_icgeT r214_10 c1 ?_
      refine x_forget (lc0 := [.ref 1, am_dead, am_dead, .int v3, am_dead, am_dead, am_dead]) ⟨Or.inl rfl, Or.inl rfl, Or.inr ⟨rfl, rfl⟩, Or.inl rfl, Or.inr ⟨rfl, rfl⟩, Or.inl rfl, Or.inl rfl, trivial⟩ ?_
      cases h
      exact k0
    · refine x_icgeF r214_10 c1 rfl ?_
      refine x_ld (v := .ref 1) r214_13 rfl rfl rfl ?_
      refine x_ld (v := .int v4) r214_14 rfl rfl rfl ?_
      obtain ⟨q2, h3, h⟩ := Option.bind_eq_some_iff.mp h
      refine x_call1 (as := [.ref 1, .int v4]) (rest := []) r214_16 rfl rfl rfl (by decide) (Nat.le_of_ble_eq_true rfl) (m204_ok h3) (Nat.le_trans (by decide) hd) (Nat.zero_le _) (Nat.zero_le _) rfl ?_
      refine x_sto (lc' := [.ref 1, am_dead, .int v2, .int v3, .int v4, .int q2, am_dead]) r214_19 rfl rfl rfl rfl ?_
      obtain ⟨q22, h23, h⟩ := Option.bind_eq_some_iff.mp h
      refine x_forget (lc0 := [.ref 1, am_dead, .int v2, .int v3, .int v4, .int q2, am_dead]) ⟨Or.inl rfl, Or.inl rfl, Or.inl rfl, Or.inl rfl, Or.inl rfl, Or.inl rfl, Or.inl rfl, trivial⟩ (m214_L21_w hd N D v2 v3 q2 h23 ?_)
      obtain ⟨x24, e25, h⟩ := am_ltE h
      refine x_sto (lc' := [.ref 1, am_dead, .int q22.1, .int q22.2.1, .int x24, am_dead, am_dead]) r214_75 rfl rfl (by subst e25; rfl) rfl ?_
      refine x_goto r214_78 ?_
      exact x_forget (lc0 := [.ref 1, am_dead, .int q22.1, .int q22.2.1, .int x24, am_dead, am_dead]) ⟨Or.inl rfl, Or.inl rfl, Or.inl rfl, Or.inl rfl, Or.inl rfl, Or.inl rfl, Or.inl rfl, trivial⟩ (ih q22.2.2 q22.1 q22.2.1 x24 h k0)
theorem m214_w {d mc ms : Nat} {N : Nat} {D : am_D} {v1 : Int32} {Q : am_O → am_AH → Prop} (hd : 3 ≤ d) {r : Int32 × am_D} (h : m214 N D v1 = some r) (hQ : Q (.inl (some (.int r.1))) (am_mk r.2)) : am_X xs L 214 d mc ms 0 [.ref 1, .int v1, am_dead, am_dead, am_dead, am_dead, am_dead] [] (am_mk D) 0 0 Q := by
  unfold m214 at h
  refine x_ld (v := .int v1) r214_0 rfl rfl rfl ?_
  refine x_sto (lc' := [.ref 1, .int v1, .int v1, am_dead, am_dead, am_dead, am_dead]) r214_1 rfl rfl rfl rfl ?_
  refine x_ic (v := 0) r214_2 rfl rfl ?_
  refine x_sto (lc' := [.ref 1, .int v1, .int v1, .int (0 : Int32), am_dead, am_dead, am_dead]) r214_3 rfl rfl rfl rfl ?_
  refine x_ic (v := 0) r214_4 rfl rfl ?_
  refine x_sto (lc' := [.ref 1, .int v1, .int v1, .int (0 : Int32), .int (0 : Int32), am_dead, am_dead]) r214_5 rfl rfl rfl rfl ?_
  obtain ⟨q26, h27, h⟩ := Option.bind_eq_some_iff.mp h
  refine x_forget (lc0 := [.ref 1, am_dead, .int v1, .int (0 : Int32), .int (0 : Int32), am_dead, am_dead]) ⟨Or.inl rfl, Or.inr ⟨rfl, rfl⟩, Or.inl rfl, Or.inl rfl, Or.inl rfl, Or.inl rfl, Or.inl rfl, trivial⟩ (m214_L7_w hd N D v1 (0 : Int32) (0 : Int32) h27 ?_)
  refine x_ld (v := .int q26.1) r214_81 rfl rfl rfl ?_
  cases h
  exact x_ret (ret := some .int) (C := True) (v := some (.int _)) r214_82 rt214 rfl rfl rfl rfl rfl rfl rfl rfl trivial hQ
theorem m214_ok {N : Nat} {D : am_D} {v1 : Int32} {r : Int32 × am_D} (h : m214 N D v1 = some r) : am_Y xs L 214 3 0 0 [.ref 1, .int v1] D (.inl (some (.int r.1))) r.2 := am_Yof (mi := am_m214) (lc := [.ref 1, .int v1, am_dead, am_dead, am_dead, am_dead, am_dead]) pg214 (Nat.le_of_ble_eq_true rfl) (am_rc1 (ci := 4) rfl rfl rfl rfl rfl) rfl (fun Q hQ => m214_w (Nat.le_refl _) h hQ)
theorem r220_0 : am_at 220 0 = some (.aload_n 0, 1, [0]) := by decide +kernel
theorem r220_1 : am_at 220 1 = some (.getfield 34, 3, [4, 6, 0, 173]) := by decide +kernel
theorem r220_4 : am_at 220 4 = some (.iconst (1), 1, []) := by decide +kernel
theorem r220_5 : am_at 220 5 = some (.if_icmp .eq (5), 3, [10]) := by decide +kernel
theorem r220_8 : am_at 220 8 = some (.iconst (1), 1, []) := by decide +kernel
theorem r220_9 : am_at 220 9 = some (.ireturn, 1, []) := by decide +kernel
theorem r220_10 : am_at 220 10 = some (.iload_n 1, 1, [1]) := by decide +kernel
theorem r220_11 : am_at 220 11 = some (.aload_n 0, 1, [0]) := by decide +kernel
theorem r220_12 : am_at 220 12 = some (.getfield 38, 3, [4, 7, 0, 175]) := by decide +kernel
theorem r220_15 : am_at 220 15 = some (.if_icmp .eq (5), 3, [20]) := by decide +kernel
theorem r220_18 : am_at 220 18 = some (.iconst (2), 1, []) := by decide +kernel
theorem r220_19 : am_at 220 19 = some (.ireturn, 1, []) := by decide +kernel
theorem r220_20 : am_at 220 20 = some (.aload_n 0, 1, [0]) := by decide +kernel
theorem r220_21 : am_at 220 21 = some (.iload_n 2, 1, [2]) := by decide +kernel
theorem r220_22 : am_at 220 22 = some (.invokevirtual 109, 3, [203, 2, 803, 0]) := by decide +kernel
theorem r220_25 : am_at 220 25 = some (.iload_n 1, 1, [1]) := by decide +kernel
theorem r220_26 : am_at 220 26 = some (.if_icmp .eq (5), 3, [31]) := by decide +kernel
theorem r220_29 : am_at 220 29 = some (.iconst (3), 1, []) := by decide +kernel
theorem r220_30 : am_at 220 30 = some (.ireturn, 1, []) := by decide +kernel
theorem r220_31 : am_at 220 31 = some (.aload_n 0, 1, [0]) := by decide +kernel
theorem r220_32 : am_at 220 32 = some (.getfield 12, 3, [4, 0, 3, 160]) := by decide +kernel
theorem r220_35 : am_at 220 35 = some (.iload_n 2, 1, [2]) := by decide +kernel
theorem r220_36 : am_at 220 36 = some (.iload_n 3, 1, [3]) := by decide +kernel
theorem r220_37 : am_at 220 37 = some (.invokevirtual 139, 3, [158, 3, 900, 0]) := by decide +kernel
theorem r220_40 : am_at 220 40 = some (.ifCond .ne (5), 3, [45]) := by decide +kernel
theorem r220_43 : am_at 220 43 = some (.iconst (4), 1, []) := by decide +kernel
theorem r220_44 : am_at 220 44 = some (.ireturn, 1, []) := by decide +kernel
theorem r220_45 : am_at 220 45 = some (.aload_n 0, 1, [0]) := by decide +kernel
theorem r220_46 : am_at 220 46 = some (.invokevirtual 142, 3, [219, 1, 904, 0]) := by decide +kernel
theorem r220_49 : am_at 220 49 = some (.ifCond .ne (5), 3, [54]) := by decide +kernel
theorem r220_52 : am_at 220 52 = some (.iconst (5), 1, []) := by decide +kernel
theorem r220_53 : am_at 220 53 = some (.ireturn, 1, []) := by decide +kernel
theorem r220_54 : am_at 220 54 = some (.aload_n 0, 1, [0]) := by decide +kernel
theorem r220_55 : am_at 220 55 = some (.getfield 22, 3, [4, 2, 3, 164]) := by decide +kernel
theorem r220_58 : am_at 220 58 = some (.iload_n 1, 1, [1]) := by decide +kernel
theorem r220_59 : am_at 220 59 = some (.invokestatic 75, 3, [180, 2, 557, 0]) := by decide +kernel
theorem r220_62 : am_at 220 62 = some (.ifCond .ne (8), 3, [70]) := by decide +kernel
theorem r220_65 : am_at 220 65 = some (.bipush (6), 2, []) := by decide +kernel
theorem r220_67 : am_at 220 67 = some (.goto (4), 3, [71]) := by decide +kernel
theorem r220_70 : am_at 220 70 = some (.iconst (0), 1, []) := by decide +kernel
theorem r220_71 : am_at 220 71 = some (.ireturn, 1, []) := by decide +kernel
theorem rt220 : am_rtt 220 = some (some .int) := by decide +kernel
set_option maxRecDepth 100000 in
theorem pg220 : am_pg[220]? = some am_m220 := rfl
theorem m220_w {d mc ms : Nat} {D : am_D} {v1 : Int32} {v2 : Int32} {v3 : Int32} {Q : am_O → am_AH → Prop} (hd : 4 ≤ d) {r : Int32} (h : m220 D v1 v2 v3 = r) (hQ : Q (.inl (some (.int r))) (am_mk D)) : am_X xs L 220 d mc ms 0 [.ref 1, .int v1, .int v2, .int v3] [] (am_mk D) 0 0 Q := by
  unfold m220 at h
  refine x_ld (v := .ref 1) r220_0 rfl rfl rfl ?_
  refine y_gf (cd := 0) (v := .int (D.1 1 6)) r220_1 rfl rfl rfl ?_
  refine x_ic (v := 1) r220_4 rfl rfl ?_
  rcases am_ifE h with ⟨c1, h⟩ | ⟨c1, h⟩
  · refine x_iceqT r220_5 c1 ?_
    refine x_ld (v := .int v1) r220_10 rfl rfl rfl ?_
    refine x_ld (v := .ref 1) r220_11 rfl rfl rfl ?_
    refine y_gf (cd := 0) (v := .int (D.1 1 7)) r220_12 rfl rfl rfl ?_
    rcases am_ifE h with ⟨c2, h⟩ | ⟨c2, h⟩
    · refine x_iceqT r220_15 c2 ?_
      refine x_ld (v := .ref 1) r220_20 rfl rfl rfl ?_
      refine x_ld (v := .int v2) r220_21 rfl rfl rfl ?_
      refine x_call1 (as := [.ref 1, .int v2]) (rest := []) r220_22 rfl rfl rfl (by decide) (Nat.le_of_ble_eq_true rfl) (m203_ok rfl) (Nat.le_trans (by decide) hd) (Nat.zero_le _) (Nat.zero_le _) rfl ?_
      refine x_ld (v := .int v1) r220_25 rfl rfl rfl ?_
      rcases am_ifE h with ⟨c3, h⟩ | ⟨c3, h⟩
      · refine x_iceqT r220_26 c3 ?_
        refine x_ld (v := .ref 1) r220_31 rfl rfl rfl ?_
        refine y_gf (cd := 4) (v := .ref 2) r220_32 rfl rfl rfl ?_
        refine x_ld (v := .int v2) r220_35 rfl rfl rfl ?_
        refine x_ld (v := .int v3) r220_36 rfl rfl rfl ?_
        refine x_call1 (as := [.ref 2, .int v2, .int v3]) (rest := []) r220_37 rfl rfl rfl (by decide) (Nat.le_of_ble_eq_true rfl) (m158_ok rfl) (Nat.le_trans (by decide) hd) (Nat.zero_le _) (Nat.zero_le _) rfl ?_
        rcases am_ifE h with ⟨c4, h⟩ | ⟨c4, h⟩
        · refine x_ifneT r220_40 c4 rfl ?_
          refine x_ic (v := 4) r220_43 rfl rfl ?_
          subst h
          exact x_ret (ret := some .int) (C := True) (v := some (.int _)) r220_44 rt220 rfl rfl rfl rfl rfl rfl rfl rfl trivial hQ
        · refine x_ifneF r220_40 c4 ?_
          refine x_ld (v := .ref 1) r220_45 rfl rfl rfl ?_
          refine x_call1 (as := [.ref 1]) (rest := []) r220_46 rfl rfl rfl (by decide) (Nat.le_of_ble_eq_true rfl) (m219_ok rfl) (Nat.le_trans (by decide) hd) (Nat.zero_le _) (Nat.zero_le _) rfl ?_
          rcases am_ifE h with ⟨c5, h⟩ | ⟨c5, h⟩
          · refine x_ifneT r220_49 c5 rfl ?_
            refine x_ic (v := 5) r220_52 rfl rfl ?_
            subst h
            exact x_ret (ret := some .int) (C := True) (v := some (.int _)) r220_53 rt220 rfl rfl rfl rfl rfl rfl rfl rfl trivial hQ
          · refine x_ifneF r220_49 c5 ?_
            refine x_ld (v := .ref 1) r220_54 rfl rfl rfl ?_
            refine y_gf (cd := 10) (v := .ref 8) r220_55 rfl rfl rfl ?_
            refine x_ld (v := .int v1) r220_58 rfl rfl rfl ?_
            refine x_call1 (as := [.ref 8, .int v1]) (rest := []) r220_59 rfl rfl rfl (by decide) (Nat.le_of_ble_eq_true rfl) (am_rows_at (n := 4) rfl (by decide)) (Nat.le_trans (by decide) hd) (Nat.zero_le _) (Nat.zero_le _) rfl ?_
            rcases am_ifE h with ⟨c6, h⟩ | ⟨c6, h⟩
            · refine x_ifneT r220_62 c6 rfl ?_
              refine x_bi (v := 6) r220_65 rfl rfl ?_
              refine x_goto r220_67 ?_
              subst h
              exact x_ret (ret := some .int) (C := True) (v := some (.int _)) r220_71 rt220 rfl rfl rfl rfl rfl rfl rfl rfl trivial hQ
            · refine x_ifneF r220_62 c6 ?_
              refine x_ic (v := 0) r220_70 rfl rfl ?_
              subst h
              exact x_ret (ret := some .int) (C := True) (v := some (.int _)) r220_71 rt220 rfl rfl rfl rfl rfl rfl rfl rfl trivial hQ
      · refine x_iceqF r220_26 c3 rfl ?_
        refine x_ic (v := 3) r220_29 rfl rfl ?_
        subst h
        exact x_ret (ret := some .int) (C := True) (v := some (.int _)) r220_30 rt220 rfl rfl rfl rfl rfl rfl rfl rfl trivial hQ
    · refine x_iceqF r220_15 c2 rfl ?_
      refine x_ic (v := 2) r220_18 rfl rfl ?_
      subst h
      exact x_ret (ret := some .int) (C := True) (v := some (.int _)) r220_19 rt220 rfl rfl rfl rfl rfl rfl rfl rfl trivial hQ
  · refine x_iceqF r220_5 c1 rfl ?_
    refine x_ic (v := 1) r220_8 rfl rfl ?_
    subst h
    exact x_ret (ret := some .int) (C := True) (v := some (.int _)) r220_9 rt220 rfl rfl rfl rfl rfl rfl rfl rfl trivial hQ
theorem m220_ok {D : am_D} {v1 : Int32} {v2 : Int32} {v3 : Int32} {r : Int32} (h : m220 D v1 v2 v3 = r) : am_Y xs L 220 4 0 0 [.ref 1, .int v1, .int v2, .int v3] D (.inl (some (.int r))) D := am_Yof (mi := am_m220) (lc := [.ref 1, .int v1, .int v2, .int v3]) pg220 (Nat.le_of_ble_eq_true rfl) (am_rc1 (ci := 4) rfl rfl rfl rfl rfl) rfl (fun Q hQ => m220_w (Nat.le_refl _) h hQ)
theorem r221_0 : am_at 221 0 = some (.aload_n 0, 1, [0]) := by decide +kernel
theorem r221_1 : am_at 221 1 = some (.getfield 34, 3, [4, 6, 0, 173]) := by decide +kernel
theorem r221_4 : am_at 221 4 = some (.iconst (1), 1, []) := by decide +kernel
theorem r221_5 : am_at 221 5 = some (.if_icmp .eq (5), 3, [10]) := by decide +kernel
theorem r221_8 : am_at 221 8 = some (.iconst (1), 1, []) := by decide +kernel
theorem r221_9 : am_at 221 9 = some (.ireturn, 1, []) := by decide +kernel
theorem r221_10 : am_at 221 10 = some (.iload_n 1, 1, [1]) := by decide +kernel
theorem r221_11 : am_at 221 11 = some (.aload_n 0, 1, [0]) := by decide +kernel
theorem r221_12 : am_at 221 12 = some (.getfield 38, 3, [4, 7, 0, 175]) := by decide +kernel
theorem r221_15 : am_at 221 15 = some (.if_icmp .eq (5), 3, [20]) := by decide +kernel
theorem r221_18 : am_at 221 18 = some (.iconst (2), 1, []) := by decide +kernel
theorem r221_19 : am_at 221 19 = some (.ireturn, 1, []) := by decide +kernel
theorem r221_20 : am_at 221 20 = some (.aload_n 0, 1, [0]) := by decide +kernel
theorem r221_21 : am_at 221 21 = some (.getfield 22, 3, [4, 2, 3, 164]) := by decide +kernel
theorem r221_24 : am_at 221 24 = some (.iload_n 1, 1, [1]) := by decide +kernel
theorem r221_25 : am_at 221 25 = some (.invokestatic 75, 3, [180, 2, 557, 0]) := by decide +kernel
theorem r221_28 : am_at 221 28 = some (.ifCond .le (15), 3, [43]) := by decide +kernel
theorem r221_31 : am_at 221 31 = some (.aload_n 0, 1, [0]) := by decide +kernel
theorem r221_32 : am_at 221 32 = some (.iload_n 1, 1, [1]) := by decide +kernel
theorem r221_33 : am_at 221 33 = some (.invokevirtual 146, 3, [208, 2, 614, 0]) := by decide +kernel
theorem r221_36 : am_at 221 36 = some (.ifCond .le (7), 3, [43]) := by decide +kernel
theorem r221_39 : am_at 221 39 = some (.iconst (3), 1, []) := by decide +kernel
theorem r221_40 : am_at 221 40 = some (.goto (4), 3, [44]) := by decide +kernel
theorem r221_43 : am_at 221 43 = some (.iconst (0), 1, []) := by decide +kernel
theorem r221_44 : am_at 221 44 = some (.ireturn, 1, []) := by decide +kernel
theorem rt221 : am_rtt 221 = some (some .int) := by decide +kernel
set_option maxRecDepth 100000 in
theorem pg221 : am_pg[221]? = some am_m221 := rfl
theorem m221_w {d mc ms : Nat} {N : Nat} {D : am_D} {v1 : Int32} {Q : am_O → am_AH → Prop} (hd : 5 ≤ d) {r : Int32} (h : m221 N D v1 = some r) (hQ : Q (.inl (some (.int r))) (am_mk D)) : am_X xs L 221 d mc ms 0 [.ref 1, .int v1] [] (am_mk D) 0 0 Q := by
  unfold m221 at h
  refine x_ld (v := .ref 1) r221_0 rfl rfl rfl ?_
  refine y_gf (cd := 0) (v := .int (D.1 1 6)) r221_1 rfl rfl rfl ?_
  refine x_ic (v := 1) r221_4 rfl rfl ?_
  rcases am_ifE h with ⟨c1, h⟩ | ⟨c1, h⟩
  · refine x_iceqT r221_5 c1 ?_
    refine x_ld (v := .int v1) r221_10 rfl rfl rfl ?_
    refine x_ld (v := .ref 1) r221_11 rfl rfl rfl ?_
    refine y_gf (cd := 0) (v := .int (D.1 1 7)) r221_12 rfl rfl rfl ?_
    rcases am_ifE h with ⟨c2, h⟩ | ⟨c2, h⟩
    · refine x_iceqT r221_15 c2 ?_
      refine x_ld (v := .ref 1) r221_20 rfl rfl rfl ?_
      refine y_gf (cd := 10) (v := .ref 8) r221_21 rfl rfl rfl ?_
      refine x_ld (v := .int v1) r221_24 rfl rfl rfl ?_
      refine x_call1 (as := [.ref 8, .int v1]) (rest := []) r221_25 rfl rfl rfl (by decide) (Nat.le_of_ble_eq_true rfl) (am_rows_at (n := 4) rfl (by decide)) (Nat.le_trans (by decide) hd) (Nat.zero_le _) (Nat.zero_le _) rfl ?_
      rcases am_ifE h with ⟨c3, h⟩ | ⟨c3, h⟩
      · refine x_ifleT r221_28 c3 ?_
        refine x_ic (v := 0) r221_43 rfl rfl ?_
        cases h
        exact x_ret (ret := some .int) (C := True) (v := some (.int _)) r221_44 rt221 rfl rfl rfl rfl rfl rfl rfl rfl trivial hQ
      · refine x_ifleF r221_28 c3 rfl ?_
        refine x_ld (v := .ref 1) r221_31 rfl rfl rfl ?_
        refine x_ld (v := .int v1) r221_32 rfl rfl rfl ?_
        obtain ⟨q4, h5, h⟩ := Option.bind_eq_some_iff.mp h
        refine x_call1 (as := [.ref 1, .int v1]) (rest := []) r221_33 rfl rfl rfl (by decide) (Nat.le_of_ble_eq_true rfl) (m208_ok h5) (Nat.le_trans (by decide) hd) (Nat.zero_le _) (Nat.zero_le _) rfl ?_
        rcases am_ifE h with ⟨c6, h⟩ | ⟨c6, h⟩
        · refine x_ifleT r221_36 c6 ?_
          refine x_ic (v := 0) r221_43 rfl rfl ?_
          cases h
          exact x_ret (ret := some .int) (C := True) (v := some (.int _)) r221_44 rt221 rfl rfl rfl rfl rfl rfl rfl rfl trivial hQ
        · refine x_ifleF r221_36 c6 rfl ?_
          refine x_ic (v := 3) r221_39 rfl rfl ?_
          refine x_goto r221_40 ?_
          cases h
          exact x_ret (ret := some .int) (C := True) (v := some (.int _)) r221_44 rt221 rfl rfl rfl rfl rfl rfl rfl rfl trivial hQ
    · refine x_iceqF r221_15 c2 rfl ?_
      refine x_ic (v := 2) r221_18 rfl rfl ?_
      cases h
      exact x_ret (ret := some .int) (C := True) (v := some (.int _)) r221_19 rt221 rfl rfl rfl rfl rfl rfl rfl rfl trivial hQ
  · refine x_iceqF r221_5 c1 rfl ?_
    refine x_ic (v := 1) r221_8 rfl rfl ?_
    cases h
    exact x_ret (ret := some .int) (C := True) (v := some (.int _)) r221_9 rt221 rfl rfl rfl rfl rfl rfl rfl rfl trivial hQ
theorem m221_ok {N : Nat} {D : am_D} {v1 : Int32} {r : Int32} (h : m221 N D v1 = some r) : am_Y xs L 221 5 0 0 [.ref 1, .int v1] D (.inl (some (.int r))) D := am_Yof (mi := am_m221) (lc := [.ref 1, .int v1]) pg221 (Nat.le_of_ble_eq_true rfl) (am_rc1 (ci := 4) rfl rfl rfl rfl rfl) rfl (fun Q hQ => m221_w (Nat.le_refl _) h hQ)
theorem r226_0 : am_at 226 0 = some (.aload_n 0, 1, [0]) := by decide +kernel
theorem r226_1 : am_at 226 1 = some (.iconst (0), 1, []) := by decide +kernel
theorem r226_2 : am_at 226 2 = some (.invokevirtual 106, 3, [205, 2, 403, 0]) := by decide +kernel
theorem r226_5 : am_at 226 5 = some (.aload_n 0, 1, [0]) := by decide +kernel
theorem r226_6 : am_at 226 6 = some (.iconst (2), 1, []) := by decide +kernel
theorem r226_7 : am_at 226 7 = some (.invokevirtual 106, 3, [205, 2, 403, 0]) := by decide +kernel
theorem r226_10 : am_at 226 10 = some (.iadd, 1, []) := by decide +kernel
theorem r226_11 : am_at 226 11 = some (.istore_n 1, 1, [1]) := by decide +kernel
theorem r226_12 : am_at 226 12 = some (.aload_n 0, 1, [0]) := by decide +kernel
theorem r226_13 : am_at 226 13 = some (.iconst (1), 1, []) := by decide +kernel
theorem r226_14 : am_at 226 14 = some (.invokevirtual 106, 3, [205, 2, 403, 0]) := by decide +kernel
theorem r226_17 : am_at 226 17 = some (.aload_n 0, 1, [0]) := by decide +kernel
theorem r226_18 : am_at 226 18 = some (.iconst (3), 1, []) := by decide +kernel
theorem r226_19 : am_at 226 19 = some (.invokevirtual 106, 3, [205, 2, 403, 0]) := by decide +kernel
theorem r226_22 : am_at 226 22 = some (.iadd, 1, []) := by decide +kernel
theorem r226_23 : am_at 226 23 = some (.istore_n 2, 1, [2]) := by decide +kernel
theorem r226_24 : am_at 226 24 = some (.iload_n 1, 1, [1]) := by decide +kernel
theorem r226_25 : am_at 226 25 = some (.iload_n 2, 1, [2]) := by decide +kernel
theorem r226_26 : am_at 226 26 = some (.if_icmp .ge (19), 3, [45]) := by decide +kernel
theorem r226_29 : am_at 226 29 = some (.aload_n 0, 1, [0]) := by decide +kernel
theorem r226_30 : am_at 226 30 = some (.getfield 31, 3, [4, 5, 3, 171]) := by decide +kernel
theorem r226_33 : am_at 226 33 = some (.iconst (0), 1, []) := by decide +kernel
theorem r226_34 : am_at 226 34 = some (.iload_n 2, 1, [2]) := by decide +kernel
theorem r226_35 : am_at 226 35 = some (.iload_n 1, 1, [1]) := by decide +kernel
theorem r226_36 : am_at 226 36 = some (.isub, 1, []) := by decide +kernel
theorem r226_37 : am_at 226 37 = some (.iconst (5), 1, []) := by decide +kernel
theorem r226_38 : am_at 226 38 = some (.idiv, 1, []) := by decide +kernel
theorem r226_39 : am_at 226 39 = some (.invokestatic 169, 3, [182, 3, 940, 0]) := by decide +kernel
theorem r226_42 : am_at 226 42 = some (.goto (16), 3, [58]) := by decide +kernel
theorem r226_45 : am_at 226 45 = some (.aload_n 0, 1, [0]) := by decide +kernel
theorem r226_46 : am_at 226 46 = some (.getfield 31, 3, [4, 5, 3, 171]) := by decide +kernel
theorem r226_49 : am_at 226 49 = some (.iconst (1), 1, []) := by decide +kernel
theorem r226_50 : am_at 226 50 = some (.iload_n 1, 1, [1]) := by decide +kernel
theorem r226_51 : am_at 226 51 = some (.iload_n 2, 1, [2]) := by decide +kernel
theorem r226_52 : am_at 226 52 = some (.isub, 1, []) := by decide +kernel
theorem r226_53 : am_at 226 53 = some (.iconst (5), 1, []) := by decide +kernel
theorem r226_54 : am_at 226 54 = some (.idiv, 1, []) := by decide +kernel
theorem r226_55 : am_at 226 55 = some (.invokestatic 169, 3, [182, 3, 940, 0]) := by decide +kernel
theorem r226_58 : am_at 226 58 = some (.return_, 1, []) := by decide +kernel
theorem rt226 : am_rtt 226 = some (none) := by decide +kernel
set_option maxRecDepth 100000 in
theorem pg226 : am_pg[226]? = some am_m226 := rfl
theorem m226_w {d mc ms : Nat} {N : Nat} {D : am_D} {Q : am_O → am_AH → Prop} (hd : 3 ≤ d) {r : am_D} (h : m226 N D = some r) (hQ : Q (.inl none) (am_mk r)) : am_X xs L 226 d mc ms 0 [.ref 1, am_dead, am_dead] [] (am_mk D) 0 0 Q := by
  unfold m226 at h
  refine x_ld (v := .ref 1) r226_0 rfl rfl rfl ?_
  refine x_ic (v := 0) r226_1 rfl rfl ?_
  obtain ⟨q1, h2, h⟩ := Option.bind_eq_some_iff.mp h
  refine x_call1 (as := [.ref 1, .int (0 : Int32)]) (rest := []) r226_2 rfl rfl rfl (by decide) (Nat.le_of_ble_eq_true rfl) (m205_ok h2) (Nat.le_trans (by decide) hd) (Nat.zero_le _) (Nat.zero_le _) rfl ?_
  refine x_ld (v := .ref 1) r226_5 rfl rfl rfl ?_
  refine x_ic (v := 2) r226_6 rfl rfl ?_
  obtain ⟨q3, h4, h⟩ := Option.bind_eq_some_iff.mp h
  refine x_call1 (as := [.ref 1, .int (2 : Int32)]) (rest := [.int q1]) r226_7 rfl rfl rfl (by decide) (Nat.le_of_ble_eq_true rfl) (m205_ok h4) (Nat.le_trans (by decide) hd) (Nat.zero_le _) (Nat.zero_le _) rfl ?_
  refine x_ar r226_10 rfl trivial rfl ?_
  obtain ⟨x5, e6, h⟩ := am_ltE h
  refine am_topI e6 ?_
  refine x_sto (lc' := [.ref 1, .int x5, am_dead]) r226_11 rfl rfl rfl rfl ?_
  refine x_ld (v := .ref 1) r226_12 rfl rfl rfl ?_
  refine x_ic (v := 1) r226_13 rfl rfl ?_
  obtain ⟨q7, h8, h⟩ := Option.bind_eq_some_iff.mp h
  refine x_call1 (as := [.ref 1, .int (1 : Int32)]) (rest := []) r226_14 rfl rfl rfl (by decide) (Nat.le_of_ble_eq_true rfl) (m205_ok h8) (Nat.le_trans (by decide) hd) (Nat.zero_le _) (Nat.zero_le _) rfl ?_
  refine x_ld (v := .ref 1) r226_17 rfl rfl rfl ?_
  refine x_ic (v := 3) r226_18 rfl rfl ?_
  obtain ⟨q9, h10, h⟩ := Option.bind_eq_some_iff.mp h
  refine x_call1 (as := [.ref 1, .int (3 : Int32)]) (rest := [.int q7]) r226_19 rfl rfl rfl (by decide) (Nat.le_of_ble_eq_true rfl) (m205_ok h10) (Nat.le_trans (by decide) hd) (Nat.zero_le _) (Nat.zero_le _) rfl ?_
  refine x_ar r226_22 rfl trivial rfl ?_
  obtain ⟨x11, e12, h⟩ := am_ltE h
  refine am_topI e12 ?_
  refine x_sto (lc' := [.ref 1, .int x5, .int x11]) r226_23 rfl rfl rfl rfl ?_
  refine x_ld (v := .int x5) r226_24 rfl rfl rfl ?_
  refine x_ld (v := .int x11) r226_25 rfl rfl rfl ?_
  rcases am_ifE h with ⟨c13, h⟩ | ⟨c13, h⟩
  · refine x_icgeT r226_26 c13 ?_
    refine x_ld (v := .ref 1) r226_45 rfl rfl rfl ?_
    refine y_gf (cd := 13) (v := .ref 11) r226_46 rfl rfl rfl ?_
    refine x_ic (v := 1) r226_49 rfl rfl ?_
    refine x_ld (v := .int x5) r226_50 rfl rfl rfl ?_
    refine x_ld (v := .int x11) r226_51 rfl rfl rfl ?_
    refine x_ar r226_52 rfl trivial rfl ?_
    refine x_ic (v := 5) r226_53 rfl rfl ?_
    refine x_ar r226_54 rfl (by decide) rfl ?_
    obtain ⟨D14, e15, h⟩ := am_ltE h
    refine x_call0 (as := [.ref 11, .int (1 : Int32), .int ((x5 - x11) / (5 : Int32))]) (rest := []) r226_55 rfl rfl rfl (by decide) (Nat.le_of_ble_eq_true rfl) (am_rows_add (n := 2) rfl (by decide) e15) (Nat.le_trans (by decide) hd) (Nat.zero_le _) (Nat.zero_le _) rfl ?_
    cases h
    exact x_ret (ret := none) (C := True) (v := none) r226_58 rt226 rfl rfl rfl rfl rfl rfl rfl rfl trivial hQ
  · refine x_icgeF r226_26 c13 rfl ?_
    refine x_ld (v := .ref 1) r226_29 rfl rfl rfl ?_
    refine y_gf (cd := 13) (v := .ref 11) r226_30 rfl rfl rfl ?_
    refine x_ic (v := 0) r226_33 rfl rfl ?_
    refine x_ld (v := .int x11) r226_34 rfl rfl rfl ?_
    refine x_ld (v := .int x5) r226_35 rfl rfl rfl ?_
    refine x_ar r226_36 rfl trivial rfl ?_
    refine x_ic (v := 5) r226_37 rfl rfl ?_
    refine x_ar r226_38 rfl (by decide) rfl ?_
    obtain ⟨D16, e17, h⟩ := am_ltE h
    refine x_call0 (as := [.ref 11, .int (0 : Int32), .int ((x11 - x5) / (5 : Int32))]) (rest := []) r226_39 rfl rfl rfl (by decide) (Nat.le_of_ble_eq_true rfl) (am_rows_add (n := 2) rfl (by decide) e17) (Nat.le_trans (by decide) hd) (Nat.zero_le _) (Nat.zero_le _) rfl ?_
    refine x_goto r226_42 ?_
    cases h
    exact x_ret (ret := none) (C := True) (v := none) r226_58 rt226 rfl rfl rfl rfl rfl rfl rfl rfl trivial hQ
theorem m226_ok {N : Nat} {D : am_D} {r : am_D} (h : m226 N D = some r) : am_Y xs L 226 3 0 0 [.ref 1] D (.inl none) r := am_Yof (mi := am_m226) (lc := [.ref 1, am_dead, am_dead]) pg226 (Nat.le_of_ble_eq_true rfl) (am_rc1 (ci := 4) rfl rfl rfl rfl rfl) rfl (fun Q hQ => m226_w (Nat.le_refl _) h hQ)
end XE
