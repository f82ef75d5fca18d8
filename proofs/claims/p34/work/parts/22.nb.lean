/-! walks of the law: act, isAhead (by wip/p34/tools/decomp.py) -/
section XE
variable {xs : Nat → Int32} {L : Nat}
theorem r292_0 : am_at 292 0 = some (.aload_n 0, 1, [0]) := by decide +kernel
theorem r292_1 : am_at 292 1 = some (.iconst (0), 1, []) := by decide +kernel
theorem r292_2 : am_at 292 2 = some (.invokevirtual 13, 3, [22, 2, 385, 0]) := by decide +kernel
theorem r292_5 : am_at 292 5 = some (.iconst (2), 1, []) := by decide +kernel
theorem r292_6 : am_at 292 6 = some (.if_icmp .ne (29), 3, [35]) := by decide +kernel
theorem r292_9 : am_at 292 9 = some (.iload_n 1, 1, [1]) := by decide +kernel
theorem r292_10 : am_at 292 10 = some (.iconst (3), 1, []) := by decide +kernel
theorem r292_11 : am_at 292 11 = some (.iand, 1, []) := by decide +kernel
theorem r292_12 : am_at 292 12 = some (.ifCond .ne (18), 3, [30]) := by decide +kernel
theorem r292_15 : am_at 292 15 = some (.aload_n 0, 1, [0]) := by decide +kernel
theorem r292_16 : am_at 292 16 = some (.iconst (1), 1, []) := by decide +kernel
theorem r292_17 : am_at 292 17 = some (.iload_n 2, 1, [2]) := by decide +kernel
theorem r292_18 : am_at 292 18 = some (.bipush (60), 2, []) := by decide +kernel
theorem r292_20 : am_at 292 20 = some (.invokestatic 33, 3, [289, 2, 447, 0]) := by decide +kernel
theorem r292_23 : am_at 292 23 = some (.iadd, 1, []) := by decide +kernel
theorem r292_24 : am_at 292 24 = some (.invokevirtual 38, 3, [9, 2, 567, 0]) := by decide +kernel
theorem r292_27 : am_at 292 27 = some (.goto (7), 3, [34]) := by decide +kernel
theorem r292_30 : am_at 292 30 = some (.aload_n 0, 1, [0]) := by decide +kernel
theorem r292_31 : am_at 292 31 = some (.invokevirtual 41, 3, [4, 1, 576, 0]) := by decide +kernel
theorem r292_34 : am_at 292 34 = some (.ireturn, 1, []) := by decide +kernel
theorem r292_35 : am_at 292 35 = some (.aload_n 0, 1, [0]) := by decide +kernel
theorem r292_36 : am_at 292 36 = some (.iconst (0), 1, []) := by decide +kernel
theorem r292_37 : am_at 292 37 = some (.invokevirtual 13, 3, [22, 2, 385, 0]) := by decide +kernel
theorem r292_40 : am_at 292 40 = some (.ifCond .ne (98), 3, [138]) := by decide +kernel
theorem r292_43 : am_at 292 43 = some (.iload_n 2, 1, [2]) := by decide +kernel
theorem r292_44 : am_at 292 44 = some (.iconst (4), 1, []) := by decide +kernel
theorem r292_45 : am_at 292 45 = some (.invokestatic 33, 3, [289, 2, 447, 0]) := by decide +kernel
theorem r292_48 : am_at 292 48 = some (.istore_n 3, 1, [3]) := by decide +kernel
theorem r292_49 : am_at 292 49 = some (.iload_n 2, 1, [2]) := by decide +kernel
theorem r292_50 : am_at 292 50 = some (.iconst (2), 1, []) := by decide +kernel
theorem r292_51 : am_at 292 51 = some (.ishr, 1, []) := by decide +kernel
theorem r292_52 : am_at 292 52 = some (.bipush (28), 2, []) := by decide +kernel
theorem r292_54 : am_at 292 54 = some (.invokestatic 33, 3, [289, 2, 447, 0]) := by decide +kernel
theorem r292_57 : am_at 292 57 = some (.istore 4, 2, [4]) := by decide +kernel
theorem r292_59 : am_at 292 59 = some (.aload_n 0, 1, [0]) := by decide +kernel
theorem r292_60 : am_at 292 60 = some (.iload 4, 2, [4]) := by decide +kernel
theorem r292_62 : am_at 292 62 = some (.iconst (3), 1, []) := by decide +kernel
theorem r292_63 : am_at 292 63 = some (.invokevirtual 19, 3, [18, 3, 456, 0]) := by decide +kernel
theorem r292_66 : am_at 292 66 = some (.iconst (5), 1, []) := by decide +kernel
theorem r292_67 : am_at 292 67 = some (.if_icmp .ne (18), 3, [85]) := by decide +kernel
theorem r292_70 : am_at 292 70 = some (.aload_n 0, 1, [0]) := by decide +kernel
theorem r292_71 : am_at 292 71 = some (.iload_n 3, 1, [3]) := by decide +kernel
theorem r292_72 : am_at 292 72 = some (.iconst (0), 1, []) := by decide +kernel
theorem r292_73 : am_at 292 73 = some (.invokevirtual 26, 3, [21, 3, 512, 0]) := by decide +kernel
theorem r292_76 : am_at 292 76 = some (.bipush (7), 2, []) := by decide +kernel
theorem r292_78 : am_at 292 78 = some (.if_icmp .ge (7), 3, [85]) := by decide +kernel
theorem r292_81 : am_at 292 81 = some (.iconst (1), 1, []) := by decide +kernel
theorem r292_82 : am_at 292 82 = some (.goto (4), 3, [86]) := by decide +kernel
theorem r292_85 : am_at 292 85 = some (.iconst (0), 1, []) := by decide +kernel
theorem r292_86 : am_at 292 86 = some (.istore 5, 2, [5]) := by decide +kernel
theorem r292_88 : am_at 292 88 = some (.aload_n 0, 1, [0]) := by decide +kernel
theorem r292_89 : am_at 292 89 = some (.bipush (14), 2, []) := by decide +kernel
theorem r292_91 : am_at 292 91 = some (.invokevirtual 13, 3, [22, 2, 385, 0]) := by decide +kernel
theorem r292_94 : am_at 292 94 = some (.ifCond .ne (11), 3, [105]) := by decide +kernel
theorem r292_97 : am_at 292 97 = some (.aload_n 0, 1, [0]) := by decide +kernel
theorem r292_98 : am_at 292 98 = some (.iload_n 3, 1, [3]) := by decide +kernel
theorem r292_99 : am_at 292 99 = some (.invokevirtual 45, 3, [3, 2, 593, 0]) := by decide +kernel
theorem r292_102 : am_at 292 102 = some (.goto (35), 3, [137]) := by decide +kernel
theorem r292_105 : am_at 292 105 = some (.iload_n 1, 1, [1]) := by decide +kernel
theorem r292_106 : am_at 292 106 = some (.iconst (3), 1, []) := by decide +kernel
theorem r292_107 : am_at 292 107 = some (.iand, 1, []) := by decide +kernel
theorem r292_108 : am_at 292 108 = some (.ifCond .le (18), 3, [126]) := by decide +kernel
theorem r292_111 : am_at 292 111 = some (.iload 5, 2, [5]) := by decide +kernel
theorem r292_113 : am_at 292 113 = some (.ifCond .eq (13), 3, [126]) := by decide +kernel
theorem r292_116 : am_at 292 116 = some (.aload_n 0, 1, [0]) := by decide +kernel
theorem r292_117 : am_at 292 117 = some (.iload_n 3, 1, [3]) := by decide +kernel
theorem r292_118 : am_at 292 118 = some (.iload 4, 2, [4]) := by decide +kernel
theorem r292_120 : am_at 292 120 = some (.invokevirtual 48, 3, [1, 3, 613, 0]) := by decide +kernel
theorem r292_123 : am_at 292 123 = some (.goto (14), 3, [137]) := by decide +kernel
theorem r292_126 : am_at 292 126 = some (.aload_n 0, 1, [0]) := by decide +kernel
theorem r292_127 : am_at 292 127 = some (.iload_n 2, 1, [2]) := by decide +kernel
theorem r292_128 : am_at 292 128 = some (.sipush (4096), 3, []) := by decide +kernel
theorem r292_131 : am_at 292 131 = some (.invokestatic 33, 3, [289, 2, 447, 0]) := by decide +kernel
theorem r292_134 : am_at 292 134 = some (.invokevirtual 51, 3, [2, 2, 629, 0]) := by decide +kernel
theorem r292_137 : am_at 292 137 = some (.ireturn, 1, []) := by decide +kernel
theorem r292_138 : am_at 292 138 = some (.aload_n 0, 1, [0]) := by decide +kernel
theorem r292_139 : am_at 292 139 = some (.iconst (1), 1, []) := by decide +kernel
theorem r292_140 : am_at 292 140 = some (.invokevirtual 13, 3, [22, 2, 385, 0]) := by decide +kernel
theorem r292_143 : am_at 292 143 = some (.istore_n 3, 1, [3]) := by decide +kernel
theorem r292_144 : am_at 292 144 = some (.aload_n 0, 1, [0]) := by decide +kernel
theorem r292_145 : am_at 292 145 = some (.iload_n 3, 1, [3]) := by decide +kernel
theorem r292_146 : am_at 292 146 = some (.iload_n 2, 1, [2]) := by decide +kernel
theorem r292_147 : am_at 292 147 = some (.bipush (56), 2, []) := by decide +kernel
theorem r292_149 : am_at 292 149 = some (.invokestatic 33, 3, [289, 2, 447, 0]) := by decide +kernel
theorem r292_152 : am_at 292 152 = some (.invokestatic 54, 3, [291, 3, 644, 0]) := by decide +kernel
theorem r292_155 : am_at 292 155 = some (.istore 4, 2, [4]) := by decide +kernel
theorem r292_157 : am_at 292 157 = some (.aload_n 0, 1, [0]) := by decide +kernel
theorem r292_158 : am_at 292 158 = some (.iload_n 3, 1, [3]) := by decide +kernel
theorem r292_159 : am_at 292 159 = some (.iconst (2), 1, []) := by decide +kernel
theorem r292_160 : am_at 292 160 = some (.invokevirtual 26, 3, [21, 3, 512, 0]) := by decide +kernel
theorem r292_163 : am_at 292 163 = some (.ifCond .le (7), 3, [170]) := by decide +kernel
theorem r292_166 : am_at 292 166 = some (.iconst (1), 1, []) := by decide +kernel
theorem r292_167 : am_at 292 167 = some (.goto (4), 3, [171]) := by decide +kernel
theorem r292_170 : am_at 292 170 = some (.iconst (0), 1, []) := by decide +kernel
theorem r292_171 : am_at 292 171 = some (.istore 5, 2, [5]) := by decide +kernel
theorem r292_173 : am_at 292 173 = some (.iload_n 1, 1, [1]) := by decide +kernel
theorem r292_174 : am_at 292 174 = some (.bipush (16), 2, []) := by decide +kernel
theorem r292_176 : am_at 292 176 = some (.invokestatic 33, 3, [289, 2, 447, 0]) := by decide +kernel
theorem r292_179 : am_at 292 179 = some (.istore 6, 2, [6]) := by decide +kernel
theorem r292_181 : am_at 292 181 = some (.iload 6, 2, [6]) := by decide +kernel
theorem r292_183 : am_at 292 183 = some (.ifCond .ne (16), 3, [199]) := by decide +kernel
theorem r292_186 : am_at 292 186 = some (.aload_n 0, 1, [0]) := by decide +kernel
theorem r292_187 : am_at 292 187 = some (.iconst (1), 1, []) := by decide +kernel
theorem r292_188 : am_at 292 188 = some (.iload_n 2, 1, [2]) := by decide +kernel
theorem r292_189 : am_at 292 189 = some (.bipush (9), 2, []) := by decide +kernel
theorem r292_191 : am_at 292 191 = some (.invokestatic 33, 3, [289, 2, 447, 0]) := by decide +kernel
theorem r292_194 : am_at 292 194 = some (.iadd, 1, []) := by decide +kernel
theorem r292_195 : am_at 292 195 = some (.invokevirtual 58, 3, [8, 2, 696, 0]) := by decide +kernel
theorem r292_198 : am_at 292 198 = some (.ireturn, 1, []) := by decide +kernel
theorem r292_199 : am_at 292 199 = some (.iload 6, 2, [6]) := by decide +kernel
theorem r292_201 : am_at 292 201 = some (.iconst (1), 1, []) := by decide +kernel
theorem r292_202 : am_at 292 202 = some (.if_icmp .ne (27), 3, [229]) := by decide +kernel
theorem r292_205 : am_at 292 205 = some (.iload_n 2, 1, [2]) := by decide +kernel
theorem r292_206 : am_at 292 206 = some (.bipush (7), 2, []) := by decide +kernel
theorem r292_208 : am_at 292 208 = some (.iand, 1, []) := by decide +kernel
theorem r292_209 : am_at 292 209 = some (.ifCond .ne (10), 3, [219]) := by decide +kernel
theorem r292_212 : am_at 292 212 = some (.aload_n 0, 1, [0]) := by decide +kernel
theorem r292_213 : am_at 292 213 = some (.invokevirtual 61, 3, [16, 1, 707, 0]) := by decide +kernel
theorem r292_216 : am_at 292 216 = some (.goto (12), 3, [228]) := by decide +kernel
theorem r292_219 : am_at 292 219 = some (.aload_n 0, 1, [0]) := by decide +kernel
theorem r292_220 : am_at 292 220 = some (.iload_n 2, 1, [2]) := by decide +kernel
theorem r292_221 : am_at 292 221 = some (.iconst (3), 1, []) := by decide +kernel
theorem r292_222 : am_at 292 222 = some (.ishr, 1, []) := by decide +kernel
theorem r292_223 : am_at 292 223 = some (.iconst (1), 1, []) := by decide +kernel
theorem r292_224 : am_at 292 224 = some (.iand, 1, []) := by decide +kernel
theorem r292_225 : am_at 292 225 = some (.invokevirtual 64, 3, [7, 2, 712, 0]) := by decide +kernel
theorem r292_228 : am_at 292 228 = some (.ireturn, 1, []) := by decide +kernel
theorem r292_229 : am_at 292 229 = some (.iload 5, 2, [5]) := by decide +kernel
theorem r292_231 : am_at 292 231 = some (.ifCond .eq (8), 3, [239]) := by decide +kernel
theorem r292_234 : am_at 292 234 = some (.iload 4, 2, [4]) := by decide +kernel
theorem r292_236 : am_at 292 236 = some (.ifCond .ge (9), 3, [245]) := by decide +kernel
theorem r292_239 : am_at 292 239 = some (.aload_n 0, 1, [0]) := by decide +kernel
theorem r292_240 : am_at 292 240 = some (.iload_n 3, 1, [3]) := by decide +kernel
theorem r292_241 : am_at 292 241 = some (.invokevirtual 67, 3, [6, 2, 724, 0]) := by decide +kernel
theorem r292_244 : am_at 292 244 = some (.ireturn, 1, []) := by decide +kernel
theorem r292_245 : am_at 292 245 = some (.aload_n 0, 1, [0]) := by decide +kernel
theorem r292_246 : am_at 292 246 = some (.bipush (15), 2, []) := by decide +kernel
theorem r292_248 : am_at 292 248 = some (.invokevirtual 13, 3, [22, 2, 385, 0]) := by decide +kernel
theorem r292_251 : am_at 292 251 = some (.ifCond .ne (13), 3, [264]) := by decide +kernel
theorem r292_254 : am_at 292 254 = some (.aload_n 0, 1, [0]) := by decide +kernel
theorem r292_255 : am_at 292 255 = some (.iload_n 2, 1, [2]) := by decide +kernel
theorem r292_256 : am_at 292 256 = some (.iconst (1), 1, []) := by decide +kernel
theorem r292_257 : am_at 292 257 = some (.iand, 1, []) := by decide +kernel
theorem r292_258 : am_at 292 258 = some (.invokevirtual 64, 3, [7, 2, 712, 0]) := by decide +kernel
theorem r292_261 : am_at 292 261 = some (.goto (16), 3, [277]) := by decide +kernel
theorem r292_264 : am_at 292 264 = some (.aload_n 0, 1, [0]) := by decide +kernel
theorem r292_265 : am_at 292 265 = some (.iload_n 3, 1, [3]) := by decide +kernel
theorem r292_266 : am_at 292 266 = some (.iload 4, 2, [4]) := by decide +kernel
theorem r292_268 : am_at 292 268 = some (.iconst (2), 1, []) := by decide +kernel
theorem r292_269 : am_at 292 269 = some (.idiv, 1, []) := by decide +kernel
theorem r292_270 : am_at 292 270 = some (.iload 4, 2, [4]) := by decide +kernel
theorem r292_272 : am_at 292 272 = some (.iconst (2), 1, []) := by decide +kernel
theorem r292_273 : am_at 292 273 = some (.irem, 1, []) := by decide +kernel
theorem r292_274 : am_at 292 274 = some (.invokevirtual 70, 3, [5, 4, 748, 0]) := by decide +kernel
theorem r292_277 : am_at 292 277 = some (.ireturn, 1, []) := by decide +kernel
theorem rt292 : am_rtt 292 = some (some .int) := by decide +kernel
set_option maxRecDepth 100000 in
theorem pg292 : am_pg[292]? = some am_m292 := rfl
theorem m292_w {d mc ms : Nat} {N : Nat} {D : am_D} {v1 : Int32} {v2 : Int32} {Q : am_O → am_AH → Prop} (hd : 16 ≤ d) {r : Int32 × am_D} (h : m292 N D v1 v2 = some r) (hQ : Q (.inl (some (.int r.1))) (am_mk r.2)) : am_X xs L 292 d mc ms 0 [.ref 0, .int v1, .int v2, am_dead, am_dead, am_dead, am_dead] [] (am_mk D) 0 0 Q := by
  unfold m292 at h
  refine x_ld (v := .ref 0) r292_0 rfl rfl rfl ?_
  refine x_ic (v := 0) r292_1 rfl rfl ?_
  obtain ⟨q1, h2, h⟩ := Option.bind_eq_some_iff.mp h
  obtain ⟨x3, h4, h⟩ := Option.bind_eq_some_iff.mp h
  refine x_call1 (as := [.ref 0, .int (0 : Int32)]) (rest := []) r292_2 rfl rfl rfl (by decide) (Nat.le_of_ble_eq_true rfl) (m22_okv h2 h4) (Nat.le_trans (by decide) hd) (Nat.zero_le _) (Nat.zero_le _) rfl ?_
  refine x_ic (v := 2) r292_5 rfl rfl ?_
  rcases am_ifE h with ⟨c5, h⟩ | ⟨c5, h⟩
  · refine x_icneT r292_6 c5 rfl ?_
    refine x_ld (v := .int v1) r292_9 rfl rfl rfl ?_
    refine x_ic (v := 3) r292_10 rfl rfl ?_
    refine x_ar r292_11 rfl trivial rfl ?_
    rcases am_ifE h with ⟨c6, h⟩ | ⟨c6, h⟩
    · refine x_ifneT r292_12 c6 rfl ?_
      refine x_ld (v := .ref 0) r292_15 rfl rfl rfl ?_
      refine x_ic (v := 1) r292_16 rfl rfl ?_
      refine x_ld (v := .int v2) r292_17 rfl rfl rfl ?_
      refine x_bi (v := 60) r292_18 rfl rfl ?_
      obtain ⟨q7, h8, h⟩ := Option.bind_eq_some_iff.mp h
      refine x_call1 (as := [.int v2, .int (60 : Int32)]) (rest := [.int (1 : Int32), .ref 0]) r292_20 rfl rfl rfl (by decide) (Nat.le_of_ble_eq_true rfl) (m289_ok h8) (Nat.le_trans (by decide) hd) (Nat.zero_le _) (Nat.zero_le _) rfl ?_
      refine x_ar r292_23 rfl trivial rfl ?_
      obtain ⟨q9, h10, h⟩ := Option.bind_eq_some_iff.mp h
      obtain ⟨x11, h12, h⟩ := Option.bind_eq_some_iff.mp h
      refine x_call1 (as := [.ref 0, .int ((1 : Int32) + q7)]) (rest := []) r292_24 rfl rfl rfl (by decide) (Nat.le_of_ble_eq_true rfl) (n9_okv h10 h12) (Nat.le_trans (by decide) hd) (Nat.zero_le _) (Nat.zero_le _) rfl ?_
      refine x_goto r292_27 ?_
      cases h
      exact x_ret (ret := some .int) (C := True) (v := some (.int _)) r292_34 rt292 rfl rfl rfl rfl rfl rfl rfl rfl trivial hQ
    · refine x_ifneF r292_12 c6 ?_
      refine x_ld (v := .ref 0) r292_30 rfl rfl rfl ?_
      obtain ⟨q13, h14, h⟩ := Option.bind_eq_some_iff.mp h
      obtain ⟨x15, h16, h⟩ := Option.bind_eq_some_iff.mp h
      refine x_call1 (as := [.ref 0]) (rest := []) r292_31 rfl rfl rfl (by decide) (Nat.le_of_ble_eq_true rfl) (n4_okv h14 h16) (Nat.le_trans (by decide) hd) (Nat.zero_le _) (Nat.zero_le _) rfl ?_
      cases h
      exact x_ret (ret := some .int) (C := True) (v := some (.int _)) r292_34 rt292 rfl rfl rfl rfl rfl rfl rfl rfl trivial hQ
  · refine x_icneF r292_6 c5 ?_
    refine x_ld (v := .ref 0) r292_35 rfl rfl rfl ?_
    refine x_ic (v := 0) r292_36 rfl rfl ?_
    obtain ⟨q17, h18, h⟩ := Option.bind_eq_some_iff.mp h
    obtain ⟨x19, h20, h⟩ := Option.bind_eq_some_iff.mp h
    refine x_call1 (as := [.ref 0, .int (0 : Int32)]) (rest := []) r292_37 rfl rfl rfl (by decide) (Nat.le_of_ble_eq_true rfl) (m22_okv h18 h20) (Nat.le_trans (by decide) hd) (Nat.zero_le _) (Nat.zero_le _) rfl ?_
    rcases am_ifE h with ⟨c21, h⟩ | ⟨c21, h⟩
    · refine x_ifneT r292_40 c21 rfl ?_
      refine x_ld (v := .int v2) r292_43 rfl rfl rfl ?_
      refine x_ic (v := 4) r292_44 rfl rfl ?_
      obtain ⟨q22, h23, h⟩ := Option.bind_eq_some_iff.mp h
      refine x_call1 (as := [.int v2, .int (4 : Int32)]) (rest := []) r292_45 rfl rfl rfl (by decide) (Nat.le_of_ble_eq_true rfl) (m289_ok h23) (Nat.le_trans (by decide) hd) (Nat.zero_le _) (Nat.zero_le _) rfl ?_
      refine x_sto (lc' := [.ref 0, .int v1, .int v2, .int q22, am_dead, am_dead, am_dead]) r292_48 rfl rfl rfl rfl ?_
      refine x_ld (v := .int v2) r292_49 rfl rfl rfl ?_
      refine x_ic (v := 2) r292_50 rfl rfl ?_
      refine x_ar r292_51 rfl trivial rfl ?_
      refine x_bi (v := 28) r292_52 rfl rfl ?_
      obtain ⟨q24, h25, h⟩ := Option.bind_eq_some_iff.mp h
      refine x_call1 (as := [.int (v2 >>> ((2 : Int32) &&& 31)), .int (28 : Int32)]) (rest := []) r292_54 rfl rfl rfl (by decide) (Nat.le_of_ble_eq_true rfl) (m289_ok h25) (Nat.le_trans (by decide) hd) (Nat.zero_le _) (Nat.zero_le _) rfl ?_
      refine x_sto (lc' := [.ref 0, .int v1, .int v2, .int q22, .int q24, am_dead, am_dead]) r292_57 rfl rfl rfl rfl ?_
      refine x_ld (v := .ref 0) r292_59 rfl rfl rfl ?_
      refine x_ld (v := .int q24) r292_60 rfl rfl rfl ?_
      refine x_ic (v := 3) r292_62 rfl rfl ?_
      obtain ⟨q26, h27, h⟩ := Option.bind_eq_some_iff.mp h
      obtain ⟨x28, h29, h⟩ := Option.bind_eq_some_iff.mp h
      refine x_call1 (as := [.ref 0, .int q24, .int (3 : Int32)]) (rest := []) r292_63 rfl rfl rfl (by decide) (Nat.le_of_ble_eq_true rfl) (m18_okv h27 h29) (Nat.le_trans (by decide) hd) (Nat.zero_le _) (Nat.zero_le _) rfl ?_
      refine x_ic (v := 5) r292_66 rfl rfl ?_
      obtain ⟨q30, h32, h⟩ := Option.bind_eq_some_iff.mp h
      have kj31 : am_X xs L 292 d mc ms 86 [.ref 0, .int v1, .int v2, .int q22, .int q24, am_dead, am_dead] [.int q30.1] (am_mk q30.2) 0 0 Q := by
        refine x_sto (lc' := [.ref 0, .int v1, .int v2, .int q22, .int q24, .int q30.1, am_dead]) r292_86 rfl rfl rfl rfl ?_
        refine x_ld (v := .ref 0) r292_88 rfl rfl rfl ?_
        refine x_bi (v := 14) r292_89 rfl rfl ?_
        obtain ⟨q39, h40, h⟩ := Option.bind_eq_some_iff.mp h
        obtain ⟨x41, h42, h⟩ := Option.bind_eq_some_iff.mp h
        refine x_call1 (as := [.ref 0, .int (14 : Int32)]) (rest := []) r292_91 rfl rfl rfl (by decide) (Nat.le_of_ble_eq_true rfl) (m22_okv h40 h42) (Nat.le_trans (by decide) hd) (Nat.zero_le _) (Nat.zero_le _) rfl ?_
        rcases am_ifE h with ⟨c43, h⟩ | ⟨c43, h⟩
        · refine x_ifneT r292_94 c43 rfl ?_
          refine x_ld (v := .ref 0) r292_97 rfl rfl rfl ?_
          refine x_ld (v := .int q22) r292_98 rfl rfl rfl ?_
          obtain ⟨q44, h45, h⟩ := Option.bind_eq_some_iff.mp h
          obtain ⟨x46, h47, h⟩ := Option.bind_eq_some_iff.mp h
          refine x_call1 (as := [.ref 0, .int q22]) (rest := []) r292_99 rfl rfl rfl (by decide) (Nat.le_of_ble_eq_true rfl) (n3_okv h45 h47) (Nat.le_trans (by decide) hd) (Nat.zero_le _) (Nat.zero_le _) rfl ?_
          refine x_goto r292_102 ?_
          cases h
          exact x_ret (ret := some .int) (C := True) (v := some (.int _)) r292_137 rt292 rfl rfl rfl rfl rfl rfl rfl rfl trivial hQ
        · refine x_ifneF r292_94 c43 ?_
          refine x_ld (v := .int v1) r292_105 rfl rfl rfl ?_
          refine x_ic (v := 3) r292_106 rfl rfl ?_
          refine x_ar r292_107 rfl trivial rfl ?_
          rcases am_ifE h with ⟨c48, h⟩ | ⟨c48, h⟩
          · refine x_ifleT r292_108 c48 ?_
            refine x_ld (v := .ref 0) r292_126 rfl rfl rfl ?_
            refine x_ld (v := .int v2) r292_127 rfl rfl rfl ?_
            refine x_si (v := 4096) r292_128 rfl rfl ?_
            obtain ⟨q49, h50, h⟩ := Option.bind_eq_some_iff.mp h
            refine x_call1 (as := [.int v2, .int (4096 : Int32)]) (rest := [.ref 0]) r292_131 rfl rfl rfl (by decide) (Nat.le_of_ble_eq_true rfl) (m289_ok h50) (Nat.le_trans (by decide) hd) (Nat.zero_le _) (Nat.zero_le _) rfl ?_
            obtain ⟨q51, h52, h⟩ := Option.bind_eq_some_iff.mp h
            obtain ⟨x53, h54, h⟩ := Option.bind_eq_some_iff.mp h
            refine x_call1 (as := [.ref 0, .int q49]) (rest := []) r292_134 rfl rfl rfl (by decide) (Nat.le_of_ble_eq_true rfl) (n2_okv h52 h54) (Nat.le_trans (by decide) hd) (Nat.zero_le _) (Nat.zero_le _) rfl ?_
            cases h
            exact x_ret (ret := some .int) (C := True) (v := some (.int _)) r292_137 rt292 rfl rfl rfl rfl rfl rfl rfl rfl trivial hQ
          · refine x_ifleF r292_108 c48 rfl ?_
            refine x_ld (v := .int q30.1) r292_111 rfl rfl rfl ?_
            rcases am_ifE h with ⟨c55, h⟩ | ⟨c55, h⟩
            · refine x_ifeqT r292_113 c55 ?_
              refine x_ld (v := .ref 0) r292_126 rfl rfl rfl ?_
              refine x_ld (v := .int v2) r292_127 rfl rfl rfl ?_
              refine x_si (v := 4096) r292_128 rfl rfl ?_
              obtain ⟨q56, h57, h⟩ := Option.bind_eq_some_iff.mp h
              refine x_call1 (as := [.int v2, .int (4096 : Int32)]) (rest := [.ref 0]) r292_131 rfl rfl rfl (by decide) (Nat.le_of_ble_eq_true rfl) (m289_ok h57) (Nat.le_trans (by decide) hd) (Nat.zero_le _) (Nat.zero_le _) rfl ?_
              obtain ⟨q58, h59, h⟩ := Option.bind_eq_some_iff.mp h
              obtain ⟨x60, h61, h⟩ := Option.bind_eq_some_iff.mp h
              refine x_call1 (as := [.ref 0, .int q56]) (rest := []) r292_134 rfl rfl rfl (by decide) (Nat.le_of_ble_eq_true rfl) (n2_okv h59 h61) (Nat.le_trans (by decide) hd) (Nat.zero_le _) (Nat.zero_le _) rfl ?_
              cases h
              exact x_ret (ret := some .int) (C := True) (v := some (.int _)) r292_137 rt292 rfl rfl rfl rfl rfl rfl rfl rfl trivial hQ
            · refine x_ifeqF r292_113 c55 rfl ?_
              refine x_ld (v := .ref 0) r292_116 rfl rfl rfl ?_
              refine x_ld (v := .int q22) r292_117 rfl rfl rfl ?_
              refine x_ld (v := .int q24) r292_118 rfl rfl rfl ?_
              obtain ⟨q62, h63, h⟩ := Option.bind_eq_some_iff.mp h
              obtain ⟨x64, h65, h⟩ := Option.bind_eq_some_iff.mp h
              refine x_call1 (as := [.ref 0, .int q22, .int q24]) (rest := []) r292_120 rfl rfl rfl (by decide) (Nat.le_of_ble_eq_true rfl) (n1_okv h63 h65) (Nat.le_trans (by decide) hd) (Nat.zero_le _) (Nat.zero_le _) rfl ?_
              refine x_goto r292_123 ?_
              cases h
              exact x_ret (ret := some .int) (C := True) (v := some (.int _)) r292_137 rt292 rfl rfl rfl rfl rfl rfl rfl rfl trivial hQ
      rcases am_ifE h32 with ⟨c33, h32⟩ | ⟨c33, h32⟩
      · refine x_icneT r292_67 c33 rfl ?_
        refine x_ld (v := .ref 0) r292_70 rfl rfl rfl ?_
        refine x_ld (v := .int q22) r292_71 rfl rfl rfl ?_
        refine x_ic (v := 0) r292_72 rfl rfl ?_
        obtain ⟨q34, h35, h32⟩ := Option.bind_eq_some_iff.mp h32
        obtain ⟨x36, h37, h32⟩ := Option.bind_eq_some_iff.mp h32
        refine x_call1 (as := [.ref 0, .int q22, .int (0 : Int32)]) (rest := []) r292_73 rfl rfl rfl (by decide) (Nat.le_of_ble_eq_true rfl) (m21_okv h35 h37) (Nat.le_trans (by decide) hd) (Nat.zero_le _) (Nat.zero_le _) rfl ?_
        refine x_bi (v := 7) r292_76 rfl rfl ?_
        rcases am_ifE h32 with ⟨c38, h32⟩ | ⟨c38, h32⟩
        · refine x_icgeT r292_78 c38 ?_
          refine x_ic (v := 0) r292_85 rfl rfl ?_
          cases h32
          exact kj31
        · refine x_icgeF r292_78 c38 rfl ?_
          refine x_ic (v := 1) r292_81 rfl rfl ?_
          refine x_goto r292_82 ?_
          cases h32
          exact kj31
      · refine x_icneF r292_67 c33 ?_
        refine x_ic (v := 0) r292_85 rfl rfl ?_
        cases h32
        exact kj31
    · refine x_ifneF r292_40 c21 ?_
      refine x_ld (v := .ref 0) r292_138 rfl rfl rfl ?_
      refine x_ic (v := 1) r292_139 rfl rfl ?_
      obtain ⟨q66, h67, h⟩ := Option.bind_eq_some_iff.mp h
      obtain ⟨x68, h69, h⟩ := Option.bind_eq_some_iff.mp h
      refine x_call1 (as := [.ref 0, .int (1 : Int32)]) (rest := []) r292_140 rfl rfl rfl (by decide) (Nat.le_of_ble_eq_true rfl) (m22_okv h67 h69) (Nat.le_trans (by decide) hd) (Nat.zero_le _) (Nat.zero_le _) rfl ?_
      refine x_sto (lc' := [.ref 0, .int v1, .int v2, .int x68, am_dead, am_dead, am_dead]) r292_143 rfl rfl rfl rfl ?_
      refine x_ld (v := .ref 0) r292_144 rfl rfl rfl ?_
      refine x_ld (v := .int x68) r292_145 rfl rfl rfl ?_
      refine x_ld (v := .int v2) r292_146 rfl rfl rfl ?_
      refine x_bi (v := 56) r292_147 rfl rfl ?_
      obtain ⟨q70, h71, h⟩ := Option.bind_eq_some_iff.mp h
      refine x_call1 (as := [.int v2, .int (56 : Int32)]) (rest := [.int x68, .ref 0]) r292_149 rfl rfl rfl (by decide) (Nat.le_of_ble_eq_true rfl) (m289_ok h71) (Nat.le_trans (by decide) hd) (Nat.zero_le _) (Nat.zero_le _) rfl ?_
      obtain ⟨q72, h73, h⟩ := Option.bind_eq_some_iff.mp h
      refine x_call1 (as := [.ref 0, .int x68, .int q70]) (rest := []) r292_152 rfl rfl rfl (by decide) (Nat.le_of_ble_eq_true rfl) (m291_ok h73) (Nat.le_trans (by decide) hd) (Nat.zero_le _) (Nat.zero_le _) rfl ?_
      refine x_sto (lc' := [.ref 0, .int v1, .int v2, .int x68, .int q72, am_dead, am_dead]) r292_155 rfl rfl rfl rfl ?_
      refine x_ld (v := .ref 0) r292_157 rfl rfl rfl ?_
      refine x_ld (v := .int x68) r292_158 rfl rfl rfl ?_
      refine x_ic (v := 2) r292_159 rfl rfl ?_
      obtain ⟨q74, h75, h⟩ := Option.bind_eq_some_iff.mp h
      obtain ⟨x76, h77, h⟩ := Option.bind_eq_some_iff.mp h
      refine x_call1 (as := [.ref 0, .int x68, .int (2 : Int32)]) (rest := []) r292_160 rfl rfl rfl (by decide) (Nat.le_of_ble_eq_true rfl) (m21_okv h75 h77) (Nat.le_trans (by decide) hd) (Nat.zero_le _) (Nat.zero_le _) rfl ?_
      obtain ⟨q78, h80, h⟩ := am_ltE h
      replace h80 := h80.symm
      have kj79 : am_X xs L 292 d mc ms 171 [.ref 0, .int v1, .int v2, .int x68, .int q72, am_dead, am_dead] [.int q78] (am_mk q74.2) 0 0 Q := by
        refine x_sto (lc' := [.ref 0, .int v1, .int v2, .int x68, .int q72, .int q78, am_dead]) r292_171 rfl rfl rfl rfl ?_
        refine x_ld (v := .int v1) r292_173 rfl rfl rfl ?_
        refine x_bi (v := 16) r292_174 rfl rfl ?_
        obtain ⟨q82, h83, h⟩ := Option.bind_eq_some_iff.mp h
        refine x_call1 (as := [.int v1, .int (16 : Int32)]) (rest := []) r292_176 rfl rfl rfl (by decide) (Nat.le_of_ble_eq_true rfl) (m289_ok h83) (Nat.le_trans (by decide) hd) (Nat.zero_le _) (Nat.zero_le _) rfl ?_
        refine x_sto (lc' := [.ref 0, .int v1, .int v2, .int x68, .int q72, .int q78, .int q82]) r292_179 rfl rfl rfl rfl ?_
        refine x_ld (v := .int q82) r292_181 rfl rfl rfl ?_
        rcases am_ifE h with ⟨c84, h⟩ | ⟨c84, h⟩
        · refine x_ifneT r292_183 c84 rfl ?_
          refine x_ld (v := .ref 0) r292_186 rfl rfl rfl ?_
          refine x_ic (v := 1) r292_187 rfl rfl ?_
          refine x_ld (v := .int v2) r292_188 rfl rfl rfl ?_
          refine x_bi (v := 9) r292_189 rfl rfl ?_
          obtain ⟨q85, h86, h⟩ := Option.bind_eq_some_iff.mp h
          refine x_call1 (as := [.int v2, .int (9 : Int32)]) (rest := [.int (1 : Int32), .ref 0]) r292_191 rfl rfl rfl (by decide) (Nat.le_of_ble_eq_true rfl) (m289_ok h86) (Nat.le_trans (by decide) hd) (Nat.zero_le _) (Nat.zero_le _) rfl ?_
          refine x_ar r292_194 rfl trivial rfl ?_
          obtain ⟨q87, h88, h⟩ := Option.bind_eq_some_iff.mp h
          obtain ⟨x89, h90, h⟩ := Option.bind_eq_some_iff.mp h
          refine x_call1 (as := [.ref 0, .int ((1 : Int32) + q85)]) (rest := []) r292_195 rfl rfl rfl (by decide) (Nat.le_of_ble_eq_true rfl) (n8_okv h88 h90) (Nat.le_trans (by decide) hd) (Nat.zero_le _) (Nat.zero_le _) rfl ?_
          cases h
          exact x_ret (ret := some .int) (C := True) (v := some (.int _)) r292_198 rt292 rfl rfl rfl rfl rfl rfl rfl rfl trivial hQ
        · refine x_ifneF r292_183 c84 ?_
          refine x_ld (v := .int q82) r292_199 rfl rfl rfl ?_
          refine x_ic (v := 1) r292_201 rfl rfl ?_
          rcases am_ifE h with ⟨c91, h⟩ | ⟨c91, h⟩
          · refine x_icneT r292_202 c91 rfl ?_
            refine x_ld (v := .int v2) r292_205 rfl rfl rfl ?_
            refine x_bi (v := 7) r292_206 rfl rfl ?_
            refine x_ar r292_208 rfl trivial rfl ?_
            rcases am_ifE h with ⟨c92, h⟩ | ⟨c92, h⟩
            · refine x_ifneT r292_209 c92 rfl ?_
              refine x_ld (v := .ref 0) r292_212 rfl rfl rfl ?_
              obtain ⟨q93, h94, h⟩ := Option.bind_eq_some_iff.mp h
              obtain ⟨x95, h96, h⟩ := Option.bind_eq_some_iff.mp h
              refine x_call1 (as := [.ref 0]) (rest := []) r292_213 rfl rfl rfl (by decide) (Nat.le_of_ble_eq_true rfl) (n16_okv h94 h96) (Nat.le_trans (by decide) hd) (Nat.zero_le _) (Nat.zero_le _) rfl ?_
              refine x_goto r292_216 ?_
              cases h
              exact x_ret (ret := some .int) (C := True) (v := some (.int _)) r292_228 rt292 rfl rfl rfl rfl rfl rfl rfl rfl trivial hQ
            · refine x_ifneF r292_209 c92 ?_
              refine x_ld (v := .ref 0) r292_219 rfl rfl rfl ?_
              refine x_ld (v := .int v2) r292_220 rfl rfl rfl ?_
              refine x_ic (v := 3) r292_221 rfl rfl ?_
              refine x_ar r292_222 rfl trivial rfl ?_
              refine x_ic (v := 1) r292_223 rfl rfl ?_
              refine x_ar r292_224 rfl trivial rfl ?_
              obtain ⟨q97, h98, h⟩ := Option.bind_eq_some_iff.mp h
              obtain ⟨x99, h100, h⟩ := Option.bind_eq_some_iff.mp h
              refine x_call1 (as := [.ref 0, .int ((v2 >>> ((3 : Int32) &&& 31)) &&& (1 : Int32))]) (rest := []) r292_225 rfl rfl rfl (by decide) (Nat.le_of_ble_eq_true rfl) (n7_okv h98 h100) (Nat.le_trans (by decide) hd) (Nat.zero_le _) (Nat.zero_le _) rfl ?_
              cases h
              exact x_ret (ret := some .int) (C := True) (v := some (.int _)) r292_228 rt292 rfl rfl rfl rfl rfl rfl rfl rfl trivial hQ
          · refine x_icneF r292_202 c91 ?_
            refine x_ld (v := .int q78) r292_229 rfl rfl rfl ?_
            rcases am_ifE h with ⟨c101, h⟩ | ⟨c101, h⟩
            · refine x_ifeqT r292_231 c101 ?_
              refine x_ld (v := .ref 0) r292_239 rfl rfl rfl ?_
              refine x_ld (v := .int x68) r292_240 rfl rfl rfl ?_
              obtain ⟨q102, h103, h⟩ := Option.bind_eq_some_iff.mp h
              obtain ⟨x104, h105, h⟩ := Option.bind_eq_some_iff.mp h
              refine x_call1 (as := [.ref 0, .int x68]) (rest := []) r292_241 rfl rfl rfl (by decide) (Nat.le_of_ble_eq_true rfl) (n6_okv h103 h105) (Nat.le_trans (by decide) hd) (Nat.zero_le _) (Nat.zero_le _) rfl ?_
              cases h
              exact x_ret (ret := some .int) (C := True) (v := some (.int _)) r292_244 rt292 rfl rfl rfl rfl rfl rfl rfl rfl trivial hQ
            · refine x_ifeqF r292_231 c101 rfl ?_
              refine x_ld (v := .int q72) r292_234 rfl rfl rfl ?_
              rcases am_ifE h with ⟨c106, h⟩ | ⟨c106, h⟩
              · refine x_ifgeT r292_236 c106 ?_
                refine x_ld (v := .ref 0) r292_245 rfl rfl rfl ?_
                refine x_bi (v := 15) r292_246 rfl rfl ?_
                obtain ⟨q107, h108, h⟩ := Option.bind_eq_some_iff.mp h
                obtain ⟨x109, h110, h⟩ := Option.bind_eq_some_iff.mp h
                refine x_call1 (as := [.ref 0, .int (15 : Int32)]) (rest := []) r292_248 rfl rfl rfl (by decide) (Nat.le_of_ble_eq_true rfl) (m22_okv h108 h110) (Nat.le_trans (by decide) hd) (Nat.zero_le _) (Nat.zero_le _) rfl ?_
                rcases am_ifE h with ⟨c111, h⟩ | ⟨c111, h⟩
                · refine x_ifneT r292_251 c111 rfl ?_
                  refine x_ld (v := .ref 0) r292_254 rfl rfl rfl ?_
                  refine x_ld (v := .int v2) r292_255 rfl rfl rfl ?_
                  refine x_ic (v := 1) r292_256 rfl rfl ?_
                  refine x_ar r292_257 rfl trivial rfl ?_
                  obtain ⟨q112, h113, h⟩ := Option.bind_eq_some_iff.mp h
                  obtain ⟨x114, h115, h⟩ := Option.bind_eq_some_iff.mp h
                  refine x_call1 (as := [.ref 0, .int (v2 &&& (1 : Int32))]) (rest := []) r292_258 rfl rfl rfl (by decide) (Nat.le_of_ble_eq_true rfl) (n7_okv h113 h115) (Nat.le_trans (by decide) hd) (Nat.zero_le _) (Nat.zero_le _) rfl ?_
                  refine x_goto r292_261 ?_
                  cases h
                  exact x_ret (ret := some .int) (C := True) (v := some (.int _)) r292_277 rt292 rfl rfl rfl rfl rfl rfl rfl rfl trivial hQ
                · refine x_ifneF r292_251 c111 ?_
                  refine x_ld (v := .ref 0) r292_264 rfl rfl rfl ?_
                  refine x_ld (v := .int x68) r292_265 rfl rfl rfl ?_
                  refine x_ld (v := .int q72) r292_266 rfl rfl rfl ?_
                  refine x_ic (v := 2) r292_268 rfl rfl ?_
                  refine x_ar r292_269 rfl (by decide) rfl ?_
                  refine x_ld (v := .int q72) r292_270 rfl rfl rfl ?_
                  refine x_ic (v := 2) r292_272 rfl rfl ?_
                  refine x_ar r292_273 rfl (by decide) rfl ?_
                  obtain ⟨q116, h117, h⟩ := Option.bind_eq_some_iff.mp h
                  obtain ⟨x118, h119, h⟩ := Option.bind_eq_some_iff.mp h
                  refine x_call1 (as := [.ref 0, .int x68, .int (q72 / (2 : Int32)), .int (q72 - q72 / (2 : Int32) * (2 : Int32))]) (rest := []) r292_274 rfl rfl rfl (by decide) (Nat.le_of_ble_eq_true rfl) (n5_okv h117 h119) (Nat.le_trans (by decide) hd) (Nat.zero_le _) (Nat.zero_le _) rfl ?_
                  cases h
                  exact x_ret (ret := some .int) (C := True) (v := some (.int _)) r292_277 rt292 rfl rfl rfl rfl rfl rfl rfl rfl trivial hQ
              · refine x_ifgeF r292_236 c106 rfl ?_
                refine x_ld (v := .ref 0) r292_239 rfl rfl rfl ?_
                refine x_ld (v := .int x68) r292_240 rfl rfl rfl ?_
                obtain ⟨q120, h121, h⟩ := Option.bind_eq_some_iff.mp h
                obtain ⟨x122, h123, h⟩ := Option.bind_eq_some_iff.mp h
                refine x_call1 (as := [.ref 0, .int x68]) (rest := []) r292_241 rfl rfl rfl (by decide) (Nat.le_of_ble_eq_true rfl) (n6_okv h121 h123) (Nat.le_trans (by decide) hd) (Nat.zero_le _) (Nat.zero_le _) rfl ?_
                cases h
                exact x_ret (ret := some .int) (C := True) (v := some (.int _)) r292_244 rt292 rfl rfl rfl rfl rfl rfl rfl rfl trivial hQ
      rcases am_ifE h80 with ⟨c81, h80⟩ | ⟨c81, h80⟩
      · refine x_ifleT r292_163 c81 ?_
        refine x_ic (v := 0) r292_170 rfl rfl ?_
        subst h80
        exact kj79
      · refine x_ifleF r292_163 c81 rfl ?_
        refine x_ic (v := 1) r292_166 rfl rfl ?_
        refine x_goto r292_167 ?_
        subst h80
        exact kj79
theorem m292_ok {N : Nat} {D : am_D} {v1 : Int32} {v2 : Int32} {r : Int32 × am_D} (h : m292 N D v1 v2 = some r) : am_Y xs L 292 16 0 0 [.ref 0, .int v1, .int v2] D (.inl (some (.int r.1))) r.2 := am_Yof (mi := am_m292) (lc := [.ref 0, .int v1, .int v2, am_dead, am_dead, am_dead, am_dead]) pg292 (Nat.le_of_ble_eq_true rfl) (am_rc0 rfl) rfl (fun Q hQ => m292_w (Nat.le_refl _) h hQ)
theorem r295_0 : am_at 295 0 = some (.aload_n 0, 1, [0]) := by decide +kernel
theorem r295_1 : am_at 295 1 = some (.iconst (1), 1, []) := by decide +kernel
theorem r295_2 : am_at 295 2 = some (.invokevirtual 13, 3, [22, 2, 385, 0]) := by decide +kernel
theorem r295_5 : am_at 295 5 = some (.istore_n 2, 1, [2]) := by decide +kernel
theorem r295_6 : am_at 295 6 = some (.aload_n 0, 1, [0]) := by decide +kernel
theorem r295_7 : am_at 295 7 = some (.iload_n 2, 1, [2]) := by decide +kernel
theorem r295_8 : am_at 295 8 = some (.iload_n 1, 1, [1]) := by decide +kernel
theorem r295_9 : am_at 295 9 = some (.bipush (56), 2, []) := by decide +kernel
theorem r295_11 : am_at 295 11 = some (.invokestatic 33, 3, [289, 2, 447, 0]) := by decide +kernel
theorem r295_14 : am_at 295 14 = some (.invokestatic 54, 3, [291, 3, 644, 0]) := by decide +kernel
theorem r295_17 : am_at 295 17 = some (.istore_n 3, 1, [3]) := by decide +kernel
theorem r295_18 : am_at 295 18 = some (.aload_n 0, 1, [0]) := by decide +kernel
theorem r295_19 : am_at 295 19 = some (.invokestatic 98, 3, [290, 1, 451, 0]) := by decide +kernel
theorem r295_22 : am_at 295 22 = some (.lstore 4, 2, [4]) := by decide +kernel
theorem r295_24 : am_at 295 24 = some (.aload_n 0, 1, [0]) := by decide +kernel
theorem r295_25 : am_at 295 25 = some (.iload_n 2, 1, [2]) := by decide +kernel
theorem r295_26 : am_at 295 26 = some (.bipush (8), 2, []) := by decide +kernel
theorem r295_28 : am_at 295 28 = some (.invokevirtual 26, 3, [21, 3, 512, 0]) := by decide +kernel
theorem r295_31 : am_at 295 31 = some (.ifCond .ne (7), 3, [38]) := by decide +kernel
theorem r295_34 : am_at 295 34 = some (.iconst (1), 1, []) := by decide +kernel
theorem r295_35 : am_at 295 35 = some (.goto (4), 3, [39]) := by decide +kernel
theorem r295_38 : am_at 295 38 = some (.iconst (0), 1, []) := by decide +kernel
theorem r295_39 : am_at 295 39 = some (.iload_n 3, 1, [3]) := by decide +kernel
theorem r295_40 : am_at 295 40 = some (.ifCond .lt (12), 3, [52]) := by decide +kernel
theorem r295_43 : am_at 295 43 = some (.aload_n 0, 1, [0]) := by decide +kernel
theorem r295_44 : am_at 295 44 = some (.iload_n 2, 1, [2]) := by decide +kernel
theorem r295_45 : am_at 295 45 = some (.iconst (2), 1, []) := by decide +kernel
theorem r295_46 : am_at 295 46 = some (.invokevirtual 26, 3, [21, 3, 512, 0]) := by decide +kernel
theorem r295_49 : am_at 295 49 = some (.ifCond .ne (7), 3, [56]) := by decide +kernel
theorem r295_52 : am_at 295 52 = some (.iconst (1), 1, []) := by decide +kernel
theorem r295_53 : am_at 295 53 = some (.goto (4), 3, [57]) := by decide +kernel
theorem r295_56 : am_at 295 56 = some (.iconst (0), 1, []) := by decide +kernel
theorem r295_57 : am_at 295 57 = some (.if_icmp .ne (7), 3, [64]) := by decide +kernel
theorem r295_60 : am_at 295 60 = some (.iconst (1), 1, []) := by decide +kernel
theorem r295_61 : am_at 295 61 = some (.goto (4), 3, [65]) := by decide +kernel
theorem r295_64 : am_at 295 64 = some (.iconst (0), 1, []) := by decide +kernel
theorem r295_65 : am_at 295 65 = some (.istore 6, 2, [6]) := by decide +kernel
theorem r295_67 : am_at 295 67 = some (.iload_n 3, 1, [3]) := by decide +kernel
theorem r295_68 : am_at 295 68 = some (.ifCond .lt (230), 3, [298]) := by decide +kernel
theorem r295_71 : am_at 295 71 = some (.aload_n 0, 1, [0]) := by decide +kernel
theorem r295_72 : am_at 295 72 = some (.iload_n 2, 1, [2]) := by decide +kernel
theorem r295_73 : am_at 295 73 = some (.iload_n 3, 1, [3]) := by decide +kernel
theorem r295_74 : am_at 295 74 = some (.iconst (2), 1, []) := by decide +kernel
theorem r295_75 : am_at 295 75 = some (.idiv, 1, []) := by decide +kernel
theorem r295_76 : am_at 295 76 = some (.iload_n 3, 1, [3]) := by decide +kernel
theorem r295_77 : am_at 295 77 = some (.iconst (2), 1, []) := by decide +kernel
theorem r295_78 : am_at 295 78 = some (.irem, 1, []) := by decide +kernel
theorem r295_79 : am_at 295 79 = some (.invokevirtual 102, 3, [23, 4, 934, 0]) := by decide +kernel
theorem r295_82 : am_at 295 82 = some (.ifCond .ne (216), 3, [298]) := by decide +kernel
theorem r295_85 : am_at 295 85 = some (.aload_n 0, 1, [0]) := by decide +kernel
theorem r295_86 : am_at 295 86 = some (.iload_n 2, 1, [2]) := by decide +kernel
theorem r295_87 : am_at 295 87 = some (.iload_n 3, 1, [3]) := by decide +kernel
theorem r295_88 : am_at 295 88 = some (.iconst (2), 1, []) := by decide +kernel
theorem r295_89 : am_at 295 89 = some (.idiv, 1, []) := by decide +kernel
theorem r295_90 : am_at 295 90 = some (.iload_n 3, 1, [3]) := by decide +kernel
theorem r295_91 : am_at 295 91 = some (.iconst (2), 1, []) := by decide +kernel
theorem r295_92 : am_at 295 92 = some (.irem, 1, []) := by decide +kernel
theorem r295_93 : am_at 295 93 = some (.iconst (0), 1, []) := by decide +kernel
theorem r295_94 : am_at 295 94 = some (.invokevirtual 29, 3, [28, 5, 647, 0]) := by decide +kernel
theorem r295_97 : am_at 295 97 = some (.istore 7, 2, [7]) := by decide +kernel
theorem r295_99 : am_at 295 99 = some (.aload_n 0, 1, [0]) := by decide +kernel
theorem r295_100 : am_at 295 100 = some (.iload_n 2, 1, [2]) := by decide +kernel
theorem r295_101 : am_at 295 101 = some (.iload_n 3, 1, [3]) := by decide +kernel
theorem r295_102 : am_at 295 102 = some (.iconst (2), 1, []) := by decide +kernel
theorem r295_103 : am_at 295 103 = some (.idiv, 1, []) := by decide +kernel
theorem r295_104 : am_at 295 104 = some (.iload_n 3, 1, [3]) := by decide +kernel
theorem r295_105 : am_at 295 105 = some (.iconst (2), 1, []) := by decide +kernel
theorem r295_106 : am_at 295 106 = some (.irem, 1, []) := by decide +kernel
theorem r295_107 : am_at 295 107 = some (.iconst (1), 1, []) := by decide +kernel
theorem r295_108 : am_at 295 108 = some (.invokevirtual 29, 3, [28, 5, 647, 0]) := by decide +kernel
theorem r295_111 : am_at 295 111 = some (.istore 8, 2, [8]) := by decide +kernel
theorem r295_113 : am_at 295 113 = some (.aload_n 0, 1, [0]) := by decide +kernel
theorem r295_114 : am_at 295 114 = some (.iload_n 2, 1, [2]) := by decide +kernel
theorem r295_115 : am_at 295 115 = some (.iload_n 3, 1, [3]) := by decide +kernel
theorem r295_116 : am_at 295 116 = some (.iconst (2), 1, []) := by decide +kernel
theorem r295_117 : am_at 295 117 = some (.idiv, 1, []) := by decide +kernel
theorem r295_118 : am_at 295 118 = some (.iload_n 3, 1, [3]) := by decide +kernel
theorem r295_119 : am_at 295 119 = some (.iconst (2), 1, []) := by decide +kernel
theorem r295_120 : am_at 295 120 = some (.irem, 1, []) := by decide +kernel
theorem r295_121 : am_at 295 121 = some (.iconst (2), 1, []) := by decide +kernel
theorem r295_122 : am_at 295 122 = some (.invokevirtual 29, 3, [28, 5, 647, 0]) := by decide +kernel
theorem r295_125 : am_at 295 125 = some (.istore 9, 2, [9]) := by decide +kernel
theorem r295_127 : am_at 295 127 = some (.aload_n 0, 1, [0]) := by decide +kernel
theorem r295_128 : am_at 295 128 = some (.bipush (7), 2, []) := by decide +kernel
theorem r295_130 : am_at 295 130 = some (.iload_n 2, 1, [2]) := by decide +kernel
theorem r295_131 : am_at 295 131 = some (.iconst (2), 1, []) := by decide +kernel
theorem r295_132 : am_at 295 132 = some (.irem, 1, []) := by decide +kernel
theorem r295_133 : am_at 295 133 = some (.iadd, 1, []) := by decide +kernel
theorem r295_134 : am_at 295 134 = some (.invokevirtual 13, 3, [22, 2, 385, 0]) := by decide +kernel
theorem r295_137 : am_at 295 137 = some (.istore 10, 2, [10]) := by decide +kernel
theorem r295_139 : am_at 295 139 = some (.aload_n 0, 1, [0]) := by decide +kernel
theorem r295_140 : am_at 295 140 = some (.iload_n 2, 1, [2]) := by decide +kernel
theorem r295_141 : am_at 295 141 = some (.iconst (0), 1, []) := by decide +kernel
theorem r295_142 : am_at 295 142 = some (.invokevirtual 26, 3, [21, 3, 512, 0]) := by decide +kernel
theorem r295_145 : am_at 295 145 = some (.istore 11, 2, [11]) := by decide +kernel
theorem r295_147 : am_at 295 147 = some (.iload 6, 2, [6]) := by decide +kernel
theorem r295_149 : am_at 295 149 = some (.ifCond .eq (146), 3, [295]) := by decide +kernel
theorem r295_152 : am_at 295 152 = some (.aload_n 0, 1, [0]) := by decide +kernel
theorem r295_153 : am_at 295 153 = some (.bipush (15), 2, []) := by decide +kernel
theorem r295_155 : am_at 295 155 = some (.invokevirtual 13, 3, [22, 2, 385, 0]) := by decide +kernel
theorem r295_158 : am_at 295 158 = some (.iconst (1), 1, []) := by decide +kernel
theorem r295_159 : am_at 295 159 = some (.if_icmp .ne (136), 3, [295]) := by decide +kernel
theorem r295_162 : am_at 295 162 = some (.aload_n 0, 1, [0]) := by decide +kernel
theorem r295_163 : am_at 295 163 = some (.iload_n 2, 1, [2]) := by decide +kernel
theorem r295_164 : am_at 295 164 = some (.iload_n 3, 1, [3]) := by decide +kernel
theorem r295_165 : am_at 295 165 = some (.iconst (2), 1, []) := by decide +kernel
theorem r295_166 : am_at 295 166 = some (.idiv, 1, []) := by decide +kernel
theorem r295_167 : am_at 295 167 = some (.iload_n 3, 1, [3]) := by decide +kernel
theorem r295_168 : am_at 295 168 = some (.iconst (2), 1, []) := by decide +kernel
theorem r295_169 : am_at 295 169 = some (.irem, 1, []) := by decide +kernel
theorem r295_170 : am_at 295 170 = some (.invokevirtual 70, 3, [5, 4, 748, 0]) := by decide +kernel
theorem r295_173 : am_at 295 173 = some (.iload 7, 2, [7]) := by decide +kernel
theorem r295_175 : am_at 295 175 = some (.if_icmp .ne (120), 3, [295]) := by decide +kernel
theorem r295_178 : am_at 295 178 = some (.aload_n 0, 1, [0]) := by decide +kernel
theorem r295_179 : am_at 295 179 = some (.bipush (7), 2, []) := by decide +kernel
theorem r295_181 : am_at 295 181 = some (.iload_n 2, 1, [2]) := by decide +kernel
theorem r295_182 : am_at 295 182 = some (.iconst (2), 1, []) := by decide +kernel
theorem r295_183 : am_at 295 183 = some (.irem, 1, []) := by decide +kernel
theorem r295_184 : am_at 295 184 = some (.iadd, 1, []) := by decide +kernel
theorem r295_185 : am_at 295 185 = some (.invokevirtual 13, 3, [22, 2, 385, 0]) := by decide +kernel
theorem r295_188 : am_at 295 188 = some (.iload 10, 2, [10]) := by decide +kernel
theorem r295_190 : am_at 295 190 = some (.iload 7, 2, [7]) := by decide +kernel
theorem r295_192 : am_at 295 192 = some (.iadd, 1, []) := by decide +kernel
theorem r295_193 : am_at 295 193 = some (.if_icmp .ne (102), 3, [295]) := by decide +kernel
theorem r295_196 : am_at 295 196 = some (.aload_n 0, 1, [0]) := by decide +kernel
theorem r295_197 : am_at 295 197 = some (.bipush (6), 2, []) := by decide +kernel
theorem r295_199 : am_at 295 199 = some (.invokevirtual 13, 3, [22, 2, 385, 0]) := by decide +kernel
theorem r295_202 : am_at 295 202 = some (.iload 8, 2, [8]) := by decide +kernel
theorem r295_204 : am_at 295 204 = some (.if_icmp .ne (91), 3, [295]) := by decide +kernel
theorem r295_207 : am_at 295 207 = some (.aload_n 0, 1, [0]) := by decide +kernel
theorem r295_208 : am_at 295 208 = some (.bipush (12), 2, []) := by decide +kernel
theorem r295_210 : am_at 295 210 = some (.invokevirtual 13, 3, [22, 2, 385, 0]) := by decide +kernel
theorem r295_213 : am_at 295 213 = some (.ifCond .ne (82), 3, [295]) := by decide +kernel
theorem r295_216 : am_at 295 216 = some (.iload 11, 2, [11]) := by decide +kernel
theorem r295_218 : am_at 295 218 = some (.iconst (1), 1, []) := by decide +kernel
theorem r295_219 : am_at 295 219 = some (.if_icmp .eq (18), 3, [237]) := by decide +kernel
theorem r295_222 : am_at 295 222 = some (.aload_n 0, 1, [0]) := by decide +kernel
theorem r295_223 : am_at 295 223 = some (.iload_n 2, 1, [2]) := by decide +kernel
theorem r295_224 : am_at 295 224 = some (.iconst (1), 1, []) := by decide +kernel
theorem r295_225 : am_at 295 225 = some (.iadd, 1, []) := by decide +kernel
theorem r295_226 : am_at 295 226 = some (.iconst (4), 1, []) := by decide +kernel
theorem r295_227 : am_at 295 227 = some (.irem, 1, []) := by decide +kernel
theorem r295_228 : am_at 295 228 = some (.iconst (4), 1, []) := by decide +kernel
theorem r295_229 : am_at 295 229 = some (.invokevirtual 26, 3, [21, 3, 512, 0]) := by decide +kernel
theorem r295_232 : am_at 295 232 = some (.iload 9, 2, [9]) := by decide +kernel
theorem r295_234 : am_at 295 234 = some (.if_icmp .ne (61), 3, [295]) := by decide +kernel
theorem r295_237 : am_at 295 237 = some (.aload_n 0, 1, [0]) := by decide +kernel
theorem r295_238 : am_at 295 238 = some (.iconst (0), 1, []) := by decide +kernel
theorem r295_239 : am_at 295 239 = some (.invokevirtual 13, 3, [22, 2, 385, 0]) := by decide +kernel
theorem r295_242 : am_at 295 242 = some (.iconst (2), 1, []) := by decide +kernel
theorem r295_243 : am_at 295 243 = some (.if_icmp .ne (7), 3, [250]) := by decide +kernel
theorem r295_246 : am_at 295 246 = some (.iconst (1), 1, []) := by decide +kernel
theorem r295_247 : am_at 295 247 = some (.goto (4), 3, [251]) := by decide +kernel
theorem r295_250 : am_at 295 250 = some (.iconst (0), 1, []) := by decide +kernel
theorem r295_251 : am_at 295 251 = some (.iload 11, 2, [11]) := by decide +kernel
theorem r295_253 : am_at 295 253 = some (.iconst (1), 1, []) := by decide +kernel
theorem r295_254 : am_at 295 254 = some (.if_icmp .ne (7), 3, [261]) := by decide +kernel
theorem r295_257 : am_at 295 257 = some (.iconst (1), 1, []) := by decide +kernel
theorem r295_258 : am_at 295 258 = some (.goto (4), 3, [262]) := by decide +kernel
theorem r295_261 : am_at 295 261 = some (.iconst (0), 1, []) := by decide +kernel
theorem r295_262 : am_at 295 262 = some (.if_icmp .ne (33), 3, [295]) := by decide +kernel
theorem r295_265 : am_at 295 265 = some (.iload 11, 2, [11]) := by decide +kernel
theorem r295_267 : am_at 295 267 = some (.iconst (1), 1, []) := by decide +kernel
theorem r295_268 : am_at 295 268 = some (.if_icmp .eq (16), 3, [284]) := by decide +kernel
theorem r295_271 : am_at 295 271 = some (.aload_n 0, 1, [0]) := by decide +kernel
theorem r295_272 : am_at 295 272 = some (.iconst (1), 1, []) := by decide +kernel
theorem r295_273 : am_at 295 273 = some (.invokevirtual 13, 3, [22, 2, 385, 0]) := by decide +kernel
theorem r295_276 : am_at 295 276 = some (.iload_n 2, 1, [2]) := by decide +kernel
theorem r295_277 : am_at 295 277 = some (.iconst (1), 1, []) := by decide +kernel
theorem r295_278 : am_at 295 278 = some (.iadd, 1, []) := by decide +kernel
theorem r295_279 : am_at 295 279 = some (.iconst (4), 1, []) := by decide +kernel
theorem r295_280 : am_at 295 280 = some (.irem, 1, []) := by decide +kernel
theorem r295_281 : am_at 295 281 = some (.if_icmp .ne (14), 3, [295]) := by decide +kernel
theorem r295_284 : am_at 295 284 = some (.aload_n 0, 1, [0]) := by decide +kernel
theorem r295_285 : am_at 295 285 = some (.invokevirtual 105, 3, [17, 1, 304, 0]) := by decide +kernel
theorem r295_288 : am_at 295 288 = some (.ifCond .lt (7), 3, [295]) := by decide +kernel
theorem r295_291 : am_at 295 291 = some (.iconst (1), 1, []) := by decide +kernel
theorem r295_292 : am_at 295 292 = some (.goto (4), 3, [296]) := by decide +kernel
theorem r295_295 : am_at 295 295 = some (.iconst (0), 1, []) := by decide +kernel
theorem r295_296 : am_at 295 296 = some (.istore 6, 2, [6]) := by decide +kernel
theorem r295_298 : am_at 295 298 = some (.iload 6, 2, [6]) := by decide +kernel
theorem r295_300 : am_at 295 300 = some (.ifCond .eq (73), 3, [373]) := by decide +kernel
theorem r295_303 : am_at 295 303 = some (.aload_n 0, 1, [0]) := by decide +kernel
theorem r295_304 : am_at 295 304 = some (.iload_n 2, 1, [2]) := by decide +kernel
theorem r295_305 : am_at 295 305 = some (.bipush (8), 2, []) := by decide +kernel
theorem r295_307 : am_at 295 307 = some (.invokevirtual 26, 3, [21, 3, 512, 0]) := by decide +kernel
theorem r295_310 : am_at 295 310 = some (.ifCond .ne (63), 3, [373]) := by decide +kernel
theorem r295_313 : am_at 295 313 = some (.aload_n 0, 1, [0]) := by decide +kernel
theorem r295_314 : am_at 295 314 = some (.iload_n 2, 1, [2]) := by decide +kernel
theorem r295_315 : am_at 295 315 = some (.invokevirtual 67, 3, [6, 2, 724, 0]) := by decide +kernel
theorem r295_318 : am_at 295 318 = some (.istore 7, 2, [7]) := by decide +kernel
theorem r295_320 : am_at 295 320 = some (.aload_n 0, 1, [0]) := by decide +kernel
theorem r295_321 : am_at 295 321 = some (.bipush (12), 2, []) := by decide +kernel
theorem r295_323 : am_at 295 323 = some (.invokevirtual 13, 3, [22, 2, 385, 0]) := by decide +kernel
theorem r295_326 : am_at 295 326 = some (.iload 7, 2, [7]) := by decide +kernel
theorem r295_328 : am_at 295 328 = some (.if_icmp .ne (42), 3, [370]) := by decide +kernel
theorem r295_331 : am_at 295 331 = some (.aload_n 0, 1, [0]) := by decide +kernel
theorem r295_332 : am_at 295 332 = some (.iconst (0), 1, []) := by decide +kernel
theorem r295_333 : am_at 295 333 = some (.invokevirtual 13, 3, [22, 2, 385, 0]) := by decide +kernel
theorem r295_336 : am_at 295 336 = some (.iconst (2), 1, []) := by decide +kernel
theorem r295_337 : am_at 295 337 = some (.if_icmp .ne (7), 3, [344]) := by decide +kernel
theorem r295_340 : am_at 295 340 = some (.iconst (1), 1, []) := by decide +kernel
theorem r295_341 : am_at 295 341 = some (.goto (4), 3, [345]) := by decide +kernel
theorem r295_344 : am_at 295 344 = some (.iconst (0), 1, []) := by decide +kernel
theorem r295_345 : am_at 295 345 = some (.iload 7, 2, [7]) := by decide +kernel
theorem r295_347 : am_at 295 347 = some (.iconst (4), 1, []) := by decide +kernel
theorem r295_348 : am_at 295 348 = some (.if_icmp .ne (7), 3, [355]) := by decide +kernel
theorem r295_351 : am_at 295 351 = some (.iconst (1), 1, []) := by decide +kernel
theorem r295_352 : am_at 295 352 = some (.goto (4), 3, [356]) := by decide +kernel
theorem r295_355 : am_at 295 355 = some (.iconst (0), 1, []) := by decide +kernel
theorem r295_356 : am_at 295 356 = some (.if_icmp .ne (14), 3, [370]) := by decide +kernel
theorem r295_359 : am_at 295 359 = some (.aload_n 0, 1, [0]) := by decide +kernel
theorem r295_360 : am_at 295 360 = some (.invokevirtual 105, 3, [17, 1, 304, 0]) := by decide +kernel
theorem r295_363 : am_at 295 363 = some (.ifCond .lt (7), 3, [370]) := by decide +kernel
theorem r295_366 : am_at 295 366 = some (.iconst (1), 1, []) := by decide +kernel
theorem r295_367 : am_at 295 367 = some (.goto (4), 3, [371]) := by decide +kernel
theorem r295_370 : am_at 295 370 = some (.iconst (0), 1, []) := by decide +kernel
theorem r295_371 : am_at 295 371 = some (.istore 6, 2, [6]) := by decide +kernel
theorem r295_373 : am_at 295 373 = some (.aload_n 0, 1, [0]) := by decide +kernel
theorem r295_374 : am_at 295 374 = some (.iconst (1), 1, []) := by decide +kernel
theorem r295_375 : am_at 295 375 = some (.invokevirtual 77, 3, [29, 2, 794, 0]) := by decide +kernel
theorem r295_378 : am_at 295 378 = some (.istore 7, 2, [7]) := by decide +kernel
theorem r295_380 : am_at 295 380 = some (.iload 6, 2, [6]) := by decide +kernel
theorem r295_382 : am_at 295 382 = some (.ifCond .eq (126), 3, [508]) := by decide +kernel
theorem r295_385 : am_at 295 385 = some (.iload 7, 2, [7]) := by decide +kernel
theorem r295_387 : am_at 295 387 = some (.iconst (-1), 1, []) := by decide +kernel
theorem r295_388 : am_at 295 388 = some (.if_icmp .eq (120), 3, [508]) := by decide +kernel
theorem r295_391 : am_at 295 391 = some (.aload_n 0, 1, [0]) := by decide +kernel
theorem r295_392 : am_at 295 392 = some (.iconst (0), 1, []) := by decide +kernel
theorem r295_393 : am_at 295 393 = some (.invokevirtual 77, 3, [29, 2, 794, 0]) := by decide +kernel
theorem r295_396 : am_at 295 396 = some (.istore 8, 2, [8]) := by decide +kernel
theorem r295_398 : am_at 295 398 = some (.aload_n 0, 1, [0]) := by decide +kernel
theorem r295_399 : am_at 295 399 = some (.iconst (2), 1, []) := by decide +kernel
theorem r295_400 : am_at 295 400 = some (.invokevirtual 77, 3, [29, 2, 794, 0]) := by decide +kernel
theorem r295_403 : am_at 295 403 = some (.istore 9, 2, [9]) := by decide +kernel
theorem r295_405 : am_at 295 405 = some (.aload_n 0, 1, [0]) := by decide +kernel
theorem r295_406 : am_at 295 406 = some (.iload_n 2, 1, [2]) := by decide +kernel
theorem r295_407 : am_at 295 407 = some (.iload 7, 2, [7]) := by decide +kernel
theorem r295_409 : am_at 295 409 = some (.iload 9, 2, [9]) := by decide +kernel
theorem r295_411 : am_at 295 411 = some (.iconst (0), 1, []) := by decide +kernel
theorem r295_412 : am_at 295 412 = some (.invokevirtual 29, 3, [28, 5, 647, 0]) := by decide +kernel
theorem r295_415 : am_at 295 415 = some (.istore 10, 2, [10]) := by decide +kernel
theorem r295_417 : am_at 295 417 = some (.aload_n 0, 1, [0]) := by decide +kernel
theorem r295_418 : am_at 295 418 = some (.iload 7, 2, [7]) := by decide +kernel
theorem r295_420 : am_at 295 420 = some (.iconst (3), 1, []) := by decide +kernel
theorem r295_421 : am_at 295 421 = some (.invokevirtual 19, 3, [18, 3, 456, 0]) := by decide +kernel
theorem r295_424 : am_at 295 424 = some (.iload_n 2, 1, [2]) := by decide +kernel
theorem r295_425 : am_at 295 425 = some (.if_icmp .ne (12), 3, [437]) := by decide +kernel
theorem r295_428 : am_at 295 428 = some (.iload 10, 2, [10]) := by decide +kernel
theorem r295_430 : am_at 295 430 = some (.ifCond .lt (7), 3, [437]) := by decide +kernel
theorem r295_433 : am_at 295 433 = some (.iconst (1), 1, []) := by decide +kernel
theorem r295_434 : am_at 295 434 = some (.goto (4), 3, [438]) := by decide +kernel
theorem r295_437 : am_at 295 437 = some (.iconst (0), 1, []) := by decide +kernel
theorem r295_438 : am_at 295 438 = some (.istore 6, 2, [6]) := by decide +kernel
theorem r295_440 : am_at 295 440 = some (.iload 6, 2, [6]) := by decide +kernel
theorem r295_442 : am_at 295 442 = some (.ifCond .eq (66), 3, [508]) := by decide +kernel
theorem r295_445 : am_at 295 445 = some (.aload_n 0, 1, [0]) := by decide +kernel
theorem r295_446 : am_at 295 446 = some (.iload_n 2, 1, [2]) := by decide +kernel
theorem r295_447 : am_at 295 447 = some (.iload 7, 2, [7]) := by decide +kernel
theorem r295_449 : am_at 295 449 = some (.iload 9, 2, [9]) := by decide +kernel
theorem r295_451 : am_at 295 451 = some (.invokevirtual 102, 3, [23, 4, 934, 0]) := by decide +kernel
theorem r295_454 : am_at 295 454 = some (.ifCond .ne (54), 3, [508]) := by decide +kernel
theorem r295_457 : am_at 295 457 = some (.aload_n 0, 1, [0]) := by decide +kernel
theorem r295_458 : am_at 295 458 = some (.iload_n 2, 1, [2]) := by decide +kernel
theorem r295_459 : am_at 295 459 = some (.iload 7, 2, [7]) := by decide +kernel
theorem r295_461 : am_at 295 461 = some (.iload 9, 2, [9]) := by decide +kernel
theorem r295_463 : am_at 295 463 = some (.invokevirtual 70, 3, [5, 4, 748, 0]) := by decide +kernel
theorem r295_466 : am_at 295 466 = some (.istore 11, 2, [11]) := by decide +kernel
theorem r295_468 : am_at 295 468 = some (.iload 8, 2, [8]) := by decide +kernel
theorem r295_470 : am_at 295 470 = some (.iload 11, 2, [11]) := by decide +kernel
theorem r295_472 : am_at 295 472 = some (.aload_n 0, 1, [0]) := by decide +kernel
theorem r295_473 : am_at 295 473 = some (.iconst (0), 1, []) := by decide +kernel
theorem r295_474 : am_at 295 474 = some (.invokevirtual 13, 3, [22, 2, 385, 0]) := by decide +kernel
theorem r295_477 : am_at 295 477 = some (.iconst (1), 1, []) := by decide +kernel
theorem r295_478 : am_at 295 478 = some (.if_icmp .ne (11), 3, [489]) := by decide +kernel
theorem r295_481 : am_at 295 481 = some (.aload_n 0, 1, [0]) := by decide +kernel
theorem r295_482 : am_at 295 482 = some (.iconst (0), 1, []) := by decide +kernel
theorem r295_483 : am_at 295 483 = some (.invokevirtual 77, 3, [29, 2, 794, 0]) := by decide +kernel
theorem r295_486 : am_at 295 486 = some (.goto (4), 3, [490]) := by decide +kernel
theorem r295_489 : am_at 295 489 = some (.iconst (0), 1, []) := by decide +kernel
theorem r295_490 : am_at 295 490 = some (.isub, 1, []) := by decide +kernel
theorem r295_491 : am_at 295 491 = some (.if_icmp .ne (14), 3, [505]) := by decide +kernel
theorem r295_494 : am_at 295 494 = some (.aload_n 0, 1, [0]) := by decide +kernel
theorem r295_495 : am_at 295 495 = some (.invokevirtual 105, 3, [17, 1, 304, 0]) := by decide +kernel
theorem r295_498 : am_at 295 498 = some (.ifCond .lt (7), 3, [505]) := by decide +kernel
theorem r295_501 : am_at 295 501 = some (.iconst (1), 1, []) := by decide +kernel
theorem r295_502 : am_at 295 502 = some (.goto (4), 3, [506]) := by decide +kernel
theorem r295_505 : am_at 295 505 = some (.iconst (0), 1, []) := by decide +kernel
theorem r295_506 : am_at 295 506 = some (.istore 6, 2, [6]) := by decide +kernel
theorem r295_508 : am_at 295 508 = some (.iload 6, 2, [6]) := by decide +kernel
theorem r295_510 : am_at 295 510 = some (.ifCond .eq (17), 3, [527]) := by decide +kernel
theorem r295_513 : am_at 295 513 = some (.aload_n 0, 1, [0]) := by decide +kernel
theorem r295_514 : am_at 295 514 = some (.invokestatic 98, 3, [290, 1, 451, 0]) := by decide +kernel
theorem r295_517 : am_at 295 517 = some (.lload 4, 2, [4]) := by decide +kernel
theorem r295_519 : am_at 295 519 = some (.lcmp, 1, []) := by decide +kernel
theorem r295_520 : am_at 295 520 = some (.ifCond .ne (7), 3, [527]) := by decide +kernel
theorem r295_523 : am_at 295 523 = some (.iconst (1), 1, []) := by decide +kernel
theorem r295_524 : am_at 295 524 = some (.goto (4), 3, [528]) := by decide +kernel
theorem r295_527 : am_at 295 527 = some (.iconst (0), 1, []) := by decide +kernel
theorem r295_528 : am_at 295 528 = some (.ireturn, 1, []) := by decide +kernel
theorem rt295 : am_rtt 295 = some (some .boolean) := by decide +kernel
set_option maxRecDepth 100000 in
theorem pg295 : am_pg[295]? = some am_m295 := rfl
theorem m295_w {d mc ms : Nat} {N : Nat} {D : am_D} {v1 : Int32} {Q : am_O → am_AH → Prop} (hd : 56 ≤ d) {r : Int32 × am_D} (h : m295 N D v1 = some r) (hQ : Q (.inl (some (.int r.1))) (am_mk r.2)) : am_X xs L 295 d mc ms 0 [.ref 0, .int v1, am_dead, am_dead, am_dead, am_dead, am_dead, am_dead, am_dead, am_dead, am_dead, am_dead] [] (am_mk D) 0 0 Q := by
  unfold m295 at h
  refine x_ld (v := .ref 0) r295_0 rfl rfl rfl ?_
  refine x_ic (v := 1) r295_1 rfl rfl ?_
  obtain ⟨q1, h2, h⟩ := Option.bind_eq_some_iff.mp h
  obtain ⟨x3, h4, h⟩ := Option.bind_eq_some_iff.mp h
  refine x_call1 (as := [.ref 0, .int (1 : Int32)]) (rest := []) r295_2 rfl rfl rfl (by decide) (Nat.le_of_ble_eq_true rfl) (m22_okv h2 h4) (Nat.le_trans (by decide) hd) (Nat.zero_le _) (Nat.zero_le _) rfl ?_
  refine x_sto (lc' := [.ref 0, .int v1, .int x3, am_dead, am_dead, am_dead, am_dead, am_dead, am_dead, am_dead, am_dead, am_dead]) r295_5 rfl rfl rfl rfl ?_
  refine x_ld (v := .ref 0) r295_6 rfl rfl rfl ?_
  refine x_ld (v := .int x3) r295_7 rfl rfl rfl ?_
  refine x_ld (v := .int v1) r295_8 rfl rfl rfl ?_
  refine x_bi (v := 56) r295_9 rfl rfl ?_
  obtain ⟨q5, h6, h⟩ := Option.bind_eq_some_iff.mp h
  refine x_call1 (as := [.int v1, .int (56 : Int32)]) (rest := [.int x3, .ref 0]) r295_11 rfl rfl rfl (by decide) (Nat.le_of_ble_eq_true rfl) (m289_ok h6) (Nat.le_trans (by decide) hd) (Nat.zero_le _) (Nat.zero_le _) rfl ?_
  obtain ⟨q7, h8, h⟩ := Option.bind_eq_some_iff.mp h
  refine x_call1 (as := [.ref 0, .int x3, .int q5]) (rest := []) r295_14 rfl rfl rfl (by decide) (Nat.le_of_ble_eq_true rfl) (m291_ok h8) (Nat.le_trans (by decide) hd) (Nat.zero_le _) (Nat.zero_le _) rfl ?_
  refine x_sto (lc' := [.ref 0, .int v1, .int x3, .int q7, am_dead, am_dead, am_dead, am_dead, am_dead, am_dead, am_dead, am_dead]) r295_17 rfl rfl rfl rfl ?_
  refine x_ld (v := .ref 0) r295_18 rfl rfl rfl ?_
  obtain ⟨q9, h10, h⟩ := Option.bind_eq_some_iff.mp h
  refine x_call1 (as := [.ref 0]) (rest := []) r295_19 rfl rfl rfl (by decide) (Nat.le_of_ble_eq_true rfl) (m290_ok h10) (Nat.le_trans (by decide) hd) (Nat.zero_le _) (Nat.zero_le _) rfl ?_
  refine x_sto (lc' := [.ref 0, .int v1, .int x3, .int q7, .long q9.1, am_dead, am_dead, am_dead, am_dead, am_dead, am_dead, am_dead]) r295_22 rfl rfl rfl rfl ?_
  refine x_ld (v := .ref 0) r295_24 rfl rfl rfl ?_
  refine x_ld (v := .int x3) r295_25 rfl rfl rfl ?_
  refine x_bi (v := 8) r295_26 rfl rfl ?_
  obtain ⟨q11, h12, h⟩ := Option.bind_eq_some_iff.mp h
  obtain ⟨x13, h14, h⟩ := Option.bind_eq_some_iff.mp h
  refine x_call1 (as := [.ref 0, .int x3, .int (8 : Int32)]) (rest := []) r295_28 rfl rfl rfl (by decide) (Nat.le_of_ble_eq_true rfl) (m21_okv h12 h14) (Nat.le_trans (by decide) hd) (Nat.zero_le _) (Nat.zero_le _) rfl ?_
  obtain ⟨q15, h17, h⟩ := am_ltE h
  replace h17 := h17.symm
  have kj16 : am_X xs L 295 d mc ms 39 [.ref 0, .int v1, .int x3, .int q7, .long q9.1, am_dead, am_dead, am_dead, am_dead, am_dead, am_dead, am_dead] [.int q15] (am_mk q11.2) 0 0 Q := by
    refine x_ld (v := .int q7) r295_39 rfl rfl rfl ?_
    obtain ⟨q19, h21, h⟩ := Option.bind_eq_some_iff.mp h
    have kj20 : am_X xs L 295 d mc ms 57 [.ref 0, .int v1, .int x3, .int q7, .long q9.1, am_dead, am_dead, am_dead, am_dead, am_dead, am_dead, am_dead] [.int q19.1, .int q15] (am_mk q19.2) 0 0 Q := by
      obtain ⟨q28, h30, h⟩ := am_ltE h
      replace h30 := h30.symm
      have kj29 : am_X xs L 295 d mc ms 65 [.ref 0, .int v1, .int x3, .int q7, .long q9.1, am_dead, am_dead, am_dead, am_dead, am_dead, am_dead, am_dead] [.int q28] (am_mk q19.2) 0 0 Q := by
        refine x_sto (lc' := [.ref 0, .int v1, .int x3, .int q7, .long q9.1, am_dead, .int q28, am_dead, am_dead, am_dead, am_dead, am_dead]) r295_65 rfl rfl rfl rfl ?_
        refine x_ld (v := .int q7) r295_67 rfl rfl rfl ?_
        obtain ⟨q32, h34, h⟩ := Option.bind_eq_some_iff.mp h
        have kj33 : am_X xs L 295 d mc ms 298 [.ref 0, .int v1, .int x3, .int q7, .long q9.1, am_dead, .int q32.1, am_dead, am_dead, am_dead, am_dead, am_dead] [] (am_mk q32.2) 0 0 Q := by
          refine x_ld (v := .int q32.1) r295_298 rfl rfl rfl ?_
          obtain ⟨q154, h156, h⟩ := Option.bind_eq_some_iff.mp h
          have kj155 : am_X xs L 295 d mc ms 373 [.ref 0, .int v1, .int x3, .int q7, .long q9.1, am_dead, .int q154.1, am_dead, am_dead, am_dead, am_dead, am_dead] [] (am_mk q154.2) 0 0 Q := by
            refine x_ld (v := .ref 0) r295_373 rfl rfl rfl ?_
            refine x_ic (v := 1) r295_374 rfl rfl ?_
            obtain ⟨q193, h194, h⟩ := Option.bind_eq_some_iff.mp h
            obtain ⟨x195, h196, h⟩ := Option.bind_eq_some_iff.mp h
            refine x_call1 (as := [.ref 0, .int (1 : Int32)]) (rest := []) r295_375 rfl rfl rfl (by decide) (Nat.le_of_ble_eq_true rfl) (m29_okv h194 h196) (Nat.le_trans (by decide) hd) (Nat.zero_le _) (Nat.zero_le _) rfl ?_
            refine x_sto (lc' := [.ref 0, .int v1, .int x3, .int q7, .long q9.1, am_dead, .int q154.1, .int x195, am_dead, am_dead, am_dead, am_dead]) r295_378 rfl rfl rfl rfl ?_
            refine x_ld (v := .int q154.1) r295_380 rfl rfl rfl ?_
            obtain ⟨q197, h199, h⟩ := Option.bind_eq_some_iff.mp h
            have kj198 : am_X xs L 295 d mc ms 508 [.ref 0, .int v1, .int x3, .int q7, .long q9.1, am_dead, .int q197.1, .int x195, am_dead, am_dead, am_dead, am_dead] [] (am_mk q197.2) 0 0 Q := by
              refine x_ld (v := .int q197.1) r295_508 rfl rfl rfl ?_
              rcases am_ifE h with ⟨c254, h⟩ | ⟨c254, h⟩
              · refine x_ifeqT r295_510 c254 ?_
                refine x_ic (v := 0) r295_527 rfl rfl ?_
                cases h
                exact x_ret (ret := some .boolean) (C := narrow .boolean (.int (0 : Int32)) = .int (0 : Int32)) (v := some (.int (0 : Int32))) r295_528 rt295 rfl rfl rfl rfl rfl rfl rfl rfl (by decide) hQ
              · refine x_ifeqF r295_510 c254 rfl ?_
                refine x_ld (v := .ref 0) r295_513 rfl rfl rfl ?_
                obtain ⟨q255, h256, h⟩ := Option.bind_eq_some_iff.mp h
                refine x_call1 (as := [.ref 0]) (rest := []) r295_514 rfl rfl rfl (by decide) (Nat.le_of_ble_eq_true rfl) (m290_ok h256) (Nat.le_trans (by decide) hd) (Nat.zero_le _) (Nat.zero_le _) rfl ?_
                refine x_ld (v := .long q9.1) r295_517 rfl rfl rfl ?_
                refine x_ar r295_519 rfl trivial rfl ?_
                rcases am_ifE h with ⟨c257, h⟩ | ⟨c257, h⟩
                · refine x_ifneT r295_520 c257 rfl ?_
                  refine x_ic (v := 1) r295_523 rfl rfl ?_
                  refine x_goto r295_524 ?_
                  cases h
                  exact x_ret (ret := some .boolean) (C := narrow .boolean (.int (1 : Int32)) = .int (1 : Int32)) (v := some (.int (1 : Int32))) r295_528 rt295 rfl rfl rfl rfl rfl rfl rfl rfl (by decide) hQ
                · refine x_ifneF r295_520 c257 ?_
                  refine x_ic (v := 0) r295_527 rfl rfl ?_
                  cases h
                  exact x_ret (ret := some .boolean) (C := narrow .boolean (.int (0 : Int32)) = .int (0 : Int32)) (v := some (.int (0 : Int32))) r295_528 rt295 rfl rfl rfl rfl rfl rfl rfl rfl (by decide) hQ
            rcases am_ifE h199 with ⟨c200, h199⟩ | ⟨c200, h199⟩
            · refine x_ifeqT r295_382 c200 ?_
              cases h199
              exact kj198
            · refine x_ifeqF r295_382 c200 rfl ?_
              refine x_ld (v := .int x195) r295_385 rfl rfl rfl ?_
              refine x_ic (v := -1) r295_387 rfl rfl ?_
              rcases am_ifE h199 with ⟨c201, h199⟩ | ⟨c201, h199⟩
              · refine x_iceqT r295_388 c201 ?_
                cases h199
                exact kj198
              · refine x_iceqF r295_388 c201 rfl ?_
                refine x_ld (v := .ref 0) r295_391 rfl rfl rfl ?_
                refine x_ic (v := 0) r295_392 rfl rfl ?_
                obtain ⟨q202, h203, h199⟩ := Option.bind_eq_some_iff.mp h199
                obtain ⟨x204, h205, h199⟩ := Option.bind_eq_some_iff.mp h199
                refine x_call1 (as := [.ref 0, .int (0 : Int32)]) (rest := []) r295_393 rfl rfl rfl (by decide) (Nat.le_of_ble_eq_true rfl) (m29_okv h203 h205) (Nat.le_trans (by decide) hd) (Nat.zero_le _) (Nat.zero_le _) rfl ?_
                refine x_sto (lc' := [.ref 0, .int v1, .int x3, .int q7, .long q9.1, am_dead, .int q154.1, .int x195, .int x204, am_dead, am_dead, am_dead]) r295_396 rfl rfl rfl rfl ?_
                refine x_ld (v := .ref 0) r295_398 rfl rfl rfl ?_
                refine x_ic (v := 2) r295_399 rfl rfl ?_
                obtain ⟨q206, h207, h199⟩ := Option.bind_eq_some_iff.mp h199
                obtain ⟨x208, h209, h199⟩ := Option.bind_eq_some_iff.mp h199
                refine x_call1 (as := [.ref 0, .int (2 : Int32)]) (rest := []) r295_400 rfl rfl rfl (by decide) (Nat.le_of_ble_eq_true rfl) (m29_okv h207 h209) (Nat.le_trans (by decide) hd) (Nat.zero_le _) (Nat.zero_le _) rfl ?_
                refine x_sto (lc' := [.ref 0, .int v1, .int x3, .int q7, .long q9.1, am_dead, .int q154.1, .int x195, .int x204, .int x208, am_dead, am_dead]) r295_403 rfl rfl rfl rfl ?_
                refine x_ld (v := .ref 0) r295_405 rfl rfl rfl ?_
                refine x_ld (v := .int x3) r295_406 rfl rfl rfl ?_
                refine x_ld (v := .int x195) r295_407 rfl rfl rfl ?_
                refine x_ld (v := .int x208) r295_409 rfl rfl rfl ?_
                refine x_ic (v := 0) r295_411 rfl rfl ?_
                obtain ⟨q210, h211, h199⟩ := Option.bind_eq_some_iff.mp h199
                obtain ⟨x212, h213, h199⟩ := Option.bind_eq_some_iff.mp h199
                refine x_call1 (as := [.ref 0, .int x3, .int x195, .int x208, .int (0 : Int32)]) (rest := []) r295_412 rfl rfl rfl (by decide) (Nat.le_of_ble_eq_true rfl) (m28_okv h211 h213) (Nat.le_trans (by decide) hd) (Nat.zero_le _) (Nat.zero_le _) rfl ?_
                refine x_sto (lc' := [.ref 0, .int v1, .int x3, .int q7, .long q9.1, am_dead, .int q154.1, .int x195, .int x204, .int x208, .int x212, am_dead]) r295_415 rfl rfl rfl rfl ?_
                refine x_ld (v := .ref 0) r295_417 rfl rfl rfl ?_
                refine x_ld (v := .int x195) r295_418 rfl rfl rfl ?_
                refine x_ic (v := 3) r295_420 rfl rfl ?_
                obtain ⟨q214, h215, h199⟩ := Option.bind_eq_some_iff.mp h199
                obtain ⟨x216, h217, h199⟩ := Option.bind_eq_some_iff.mp h199
                refine x_call1 (as := [.ref 0, .int x195, .int (3 : Int32)]) (rest := []) r295_421 rfl rfl rfl (by decide) (Nat.le_of_ble_eq_true rfl) (m18_okv h215 h217) (Nat.le_trans (by decide) hd) (Nat.zero_le _) (Nat.zero_le _) rfl ?_
                refine x_ld (v := .int x3) r295_424 rfl rfl rfl ?_
                obtain ⟨q218, h220, h199⟩ := am_ltE h199
                replace h220 := h220.symm
                have kj219 : am_X xs L 295 d mc ms 438 [.ref 0, .int v1, .int x3, .int q7, .long q9.1, am_dead, .int q154.1, .int x195, .int x204, .int x208, .int x212, am_dead] [.int q218] (am_mk q206.2) 0 0 Q := by
                  refine x_sto (lc' := [.ref 0, .int v1, .int x3, .int q7, .long q9.1, am_dead, .int q218, .int x195, .int x204, .int x208, .int x212, am_dead]) r295_438 rfl rfl rfl rfl ?_
                  refine x_ld (v := .int q218) r295_440 rfl rfl rfl ?_
                  rcases am_ifE h199 with ⟨c223, h199⟩ | ⟨c223, h199⟩
                  · refine x_ifeqT r295_442 c223 ?_
                    refine x_forget (lc0 := [.ref 0, .int v1, .int x3, .int q7, .long q9.1, am_dead, .int q218, .int x195, am_dead, am_dead, am_dead, am_dead]) ⟨Or.inl rfl, Or.inl rfl, Or.inl rfl, Or.inl rfl, Or.inl rfl, Or.inl rfl, Or.inl rfl, Or.inl rfl, Or.inr ⟨rfl, rfl⟩, Or.inr ⟨rfl, rfl⟩, Or.inr ⟨rfl, rfl⟩, Or.inl rfl, trivial⟩ ?_
                    cases h199
                    exact kj198
                  · refine x_ifeqF r295_442 c223 rfl ?_
                    refine x_ld (v := .ref 0) r295_445 rfl rfl rfl ?_
                    refine x_ld (v := .int x3) r295_446 rfl rfl rfl ?_
                    refine x_ld (v := .int x195) r295_447 rfl rfl rfl ?_
                    refine x_ld (v := .int x208) r295_449 rfl rfl rfl ?_
                    obtain ⟨q224, h225, h199⟩ := am_ltE h199
                    replace h225 := h225.symm
                    obtain ⟨x226, h227, h199⟩ := Option.bind_eq_some_iff.mp h199
                    refine x_call1 (as := [.ref 0, .int x3, .int x195, .int x208]) (rest := []) r295_451 rfl rfl rfl (by decide) (Nat.le_of_ble_eq_true rfl) (m23_okv h225 h227) (Nat.le_trans (by decide) hd) (Nat.zero_le _) (Nat.zero_le _) rfl ?_
                    rcases am_ifE h199 with ⟨c228, h199⟩ | ⟨c228, h199⟩
                    · refine x_ifneT r295_454 c228 rfl ?_
                      refine x_ld (v := .ref 0) r295_457 rfl rfl rfl ?_
                      refine x_ld (v := .int x3) r295_458 rfl rfl rfl ?_
                      refine x_ld (v := .int x195) r295_459 rfl rfl rfl ?_
                      refine x_ld (v := .int x208) r295_461 rfl rfl rfl ?_
                      obtain ⟨q229, h230, h199⟩ := Option.bind_eq_some_iff.mp h199
                      obtain ⟨x231, h232, h199⟩ := Option.bind_eq_some_iff.mp h199
                      refine x_call1 (as := [.ref 0, .int x3, .int x195, .int x208]) (rest := []) r295_463 rfl rfl rfl (by decide) (Nat.le_of_ble_eq_true rfl) (n5_okv h230 h232) (Nat.le_trans (by decide) hd) (Nat.zero_le _) (Nat.zero_le _) rfl ?_
                      refine x_sto (lc' := [.ref 0, .int v1, .int x3, .int q7, .long q9.1, am_dead, .int q218, .int x195, .int x204, .int x208, .int x212, .int x231]) r295_466 rfl rfl rfl rfl ?_
                      refine x_ld (v := .int x204) r295_468 rfl rfl rfl ?_
                      refine x_ld (v := .int x231) r295_470 rfl rfl rfl ?_
                      refine x_ld (v := .ref 0) r295_472 rfl rfl rfl ?_
                      refine x_ic (v := 0) r295_473 rfl rfl ?_
                      obtain ⟨q233, h234, h199⟩ := Option.bind_eq_some_iff.mp h199
                      obtain ⟨x235, h236, h199⟩ := Option.bind_eq_some_iff.mp h199
                      refine x_call1 (as := [.ref 0, .int (0 : Int32)]) (rest := [.int x231, .int x204]) r295_474 rfl rfl rfl (by decide) (Nat.le_of_ble_eq_true rfl) (m22_okv h234 h236) (Nat.le_trans (by decide) hd) (Nat.zero_le _) (Nat.zero_le _) rfl ?_
                      refine x_ic (v := 1) r295_477 rfl rfl ?_
                      obtain ⟨q237, h239, h199⟩ := Option.bind_eq_some_iff.mp h199
                      have kj238 : am_X xs L 295 d mc ms 490 [.ref 0, .int v1, .int x3, .int q7, .long q9.1, am_dead, .int q218, .int x195, .int x204, .int x208, .int x212, .int x231] [.int q237.1, .int x231, .int x204] (am_mk q237.2) 0 0 Q := by
                        refine x_ar r295_490 rfl trivial rfl ?_
                        obtain ⟨q245, h247, h199⟩ := Option.bind_eq_some_iff.mp h199
                        have kj246 : am_X xs L 295 d mc ms 506 [.ref 0, .int v1, .int x3, .int q7, .long q9.1, am_dead, .int q218, .int x195, .int x204, .int x208, .int x212, .int x231] [.int q245.1] (am_mk q245.2) 0 0 Q := by
                          refine x_sto (lc' := [.ref 0, .int v1, .int x3, .int q7, .long q9.1, am_dead, .int q245.1, .int x195, .int x204, .int x208, .int x212, .int x231]) r295_506 rfl rfl rfl rfl ?_
                          refine x_forget (lc0 := [.ref 0, .int v1, .int x3, .int q7, .long q9.1, am_dead, .int q245.1, .int x195, am_dead, am_dead, am_dead, am_dead]) ⟨Or.inl rfl, Or.inl rfl, Or.inl rfl, Or.inl rfl, Or.inl rfl, Or.inl rfl, Or.inl rfl, Or.inl rfl, Or.inr ⟨rfl, rfl⟩, Or.inr ⟨rfl, rfl⟩, Or.inr ⟨rfl, rfl⟩, Or.inr ⟨rfl, rfl⟩, trivial⟩ ?_
                          cases h199
                          exact kj198
                        rcases am_ifE h247 with ⟨c248, h247⟩ | ⟨c248, h247⟩
                        · refine x_icneT r295_491 c248 rfl ?_
                          refine x_ld (v := .ref 0) r295_494 rfl rfl rfl ?_
                          obtain ⟨q249, h250, h247⟩ := Option.bind_eq_some_iff.mp h247
                          obtain ⟨x251, h252, h247⟩ := Option.bind_eq_some_iff.mp h247
                          refine x_call1 (as := [.ref 0]) (rest := []) r295_495 rfl rfl rfl (by decide) (Nat.le_of_ble_eq_true rfl) (n17_okv h250 h252) (Nat.le_trans (by decide) hd) (Nat.zero_le _) (Nat.zero_le _) rfl ?_
                          rcases am_ifE h247 with ⟨c253, h247⟩ | ⟨c253, h247⟩
                          · refine x_ifltT r295_498 c253 ?_
                            refine x_ic (v := 0) r295_505 rfl rfl ?_
                            cases h247
                            exact kj246
                          · refine x_ifltF r295_498 c253 rfl ?_
                            refine x_ic (v := 1) r295_501 rfl rfl ?_
                            refine x_goto r295_502 ?_
                            cases h247
                            exact kj246
                        · refine x_icneF r295_491 c248 ?_
                          refine x_ic (v := 0) r295_505 rfl rfl ?_
                          cases h247
                          exact kj246
                      rcases am_ifE h239 with ⟨c240, h239⟩ | ⟨c240, h239⟩
                      · refine x_icneT r295_478 c240 rfl ?_
                        refine x_ld (v := .ref 0) r295_481 rfl rfl rfl ?_
                        refine x_ic (v := 0) r295_482 rfl rfl ?_
                        obtain ⟨q241, h242, h239⟩ := Option.bind_eq_some_iff.mp h239
                        obtain ⟨x243, h244, h239⟩ := Option.bind_eq_some_iff.mp h239
                        refine x_call1 (as := [.ref 0, .int (0 : Int32)]) (rest := [.int x231, .int x204]) r295_483 rfl rfl rfl (by decide) (Nat.le_of_ble_eq_true rfl) (m29_okv h242 h244) (Nat.le_trans (by decide) hd) (Nat.zero_le _) (Nat.zero_le _) rfl ?_
                        refine x_goto r295_486 ?_
                        cases h239
                        exact kj238
                      · refine x_icneF r295_478 c240 ?_
                        refine x_ic (v := 0) r295_489 rfl rfl ?_
                        cases h239
                        exact kj238
                    · refine x_ifneF r295_454 c228 ?_
                      refine x_forget (lc0 := [.ref 0, .int v1, .int x3, .int q7, .long q9.1, am_dead, .int q218, .int x195, am_dead, am_dead, am_dead, am_dead]) ⟨Or.inl rfl, Or.inl rfl, Or.inl rfl, Or.inl rfl, Or.inl rfl, Or.inl rfl, Or.inl rfl, Or.inl rfl, Or.inr ⟨rfl, rfl⟩, Or.inr ⟨rfl, rfl⟩, Or.inr ⟨rfl, rfl⟩, Or.inl rfl, trivial⟩ ?_
                      cases h199
                      exact kj198
                rcases am_ifE h220 with ⟨c221, h220⟩ | ⟨c221, h220⟩
                · refine x_icneT r295_425 c221 rfl ?_
                  refine x_ld (v := .int x212) r295_428 rfl rfl rfl ?_
                  rcases am_ifE h220 with ⟨c222, h220⟩ | ⟨c222, h220⟩
                  · refine x_ifltT r295_430 c222 ?_
                    refine x_ic (v := 0) r295_437 rfl rfl ?_
                    subst h220
                    exact kj219
                  · refine x_ifltF r295_430 c222 rfl ?_
                    refine x_ic (v := 1) r295_433 rfl rfl ?_
                    refine x_goto r295_434 ?_
                    subst h220
                    exact kj219
                · refine x_icneF r295_425 c221 ?_
                  refine x_ic (v := 0) r295_437 rfl rfl ?_
                  subst h220
                  exact kj219
          rcases am_ifE h156 with ⟨c157, h156⟩ | ⟨c157, h156⟩
          · refine x_ifeqT r295_300 c157 ?_
            cases h156
            exact kj155
          · refine x_ifeqF r295_300 c157 rfl ?_
            refine x_ld (v := .ref 0) r295_303 rfl rfl rfl ?_
            refine x_ld (v := .int x3) r295_304 rfl rfl rfl ?_
            refine x_bi (v := 8) r295_305 rfl rfl ?_
            obtain ⟨q158, h159, h156⟩ := Option.bind_eq_some_iff.mp h156
            obtain ⟨x160, h161, h156⟩ := Option.bind_eq_some_iff.mp h156
            refine x_call1 (as := [.ref 0, .int x3, .int (8 : Int32)]) (rest := []) r295_307 rfl rfl rfl (by decide) (Nat.le_of_ble_eq_true rfl) (m21_okv h159 h161) (Nat.le_trans (by decide) hd) (Nat.zero_le _) (Nat.zero_le _) rfl ?_
            rcases am_ifE h156 with ⟨c162, h156⟩ | ⟨c162, h156⟩
            · refine x_ifneT r295_310 c162 rfl ?_
              refine x_ld (v := .ref 0) r295_313 rfl rfl rfl ?_
              refine x_ld (v := .int x3) r295_314 rfl rfl rfl ?_
              obtain ⟨q163, h164, h156⟩ := Option.bind_eq_some_iff.mp h156
              obtain ⟨x165, h166, h156⟩ := Option.bind_eq_some_iff.mp h156
              refine x_call1 (as := [.ref 0, .int x3]) (rest := []) r295_315 rfl rfl rfl (by decide) (Nat.le_of_ble_eq_true rfl) (n6_okv h164 h166) (Nat.le_trans (by decide) hd) (Nat.zero_le _) (Nat.zero_le _) rfl ?_
              refine x_sto (lc' := [.ref 0, .int v1, .int x3, .int q7, .long q9.1, am_dead, .int q32.1, .int x165, am_dead, am_dead, am_dead, am_dead]) r295_318 rfl rfl rfl rfl ?_
              refine x_ld (v := .ref 0) r295_320 rfl rfl rfl ?_
              refine x_bi (v := 12) r295_321 rfl rfl ?_
              obtain ⟨q167, h168, h156⟩ := Option.bind_eq_some_iff.mp h156
              obtain ⟨x169, h170, h156⟩ := Option.bind_eq_some_iff.mp h156
              refine x_call1 (as := [.ref 0, .int (12 : Int32)]) (rest := []) r295_323 rfl rfl rfl (by decide) (Nat.le_of_ble_eq_true rfl) (m22_okv h168 h170) (Nat.le_trans (by decide) hd) (Nat.zero_le _) (Nat.zero_le _) rfl ?_
              refine x_ld (v := .int x165) r295_326 rfl rfl rfl ?_
              obtain ⟨q171, h173, h156⟩ := Option.bind_eq_some_iff.mp h156
              have kj172 : am_X xs L 295 d mc ms 371 [.ref 0, .int v1, .int x3, .int q7, .long q9.1, am_dead, .int q32.1, .int x165, am_dead, am_dead, am_dead, am_dead] [.int q171.1] (am_mk q171.2) 0 0 Q := by
                refine x_sto (lc' := [.ref 0, .int v1, .int x3, .int q7, .long q9.1, am_dead, .int q171.1, .int x165, am_dead, am_dead, am_dead, am_dead]) r295_371 rfl rfl rfl rfl ?_
                refine x_forget (lc0 := [.ref 0, .int v1, .int x3, .int q7, .long q9.1, am_dead, .int q171.1, am_dead, am_dead, am_dead, am_dead, am_dead]) ⟨Or.inl rfl, Or.inl rfl, Or.inl rfl, Or.inl rfl, Or.inl rfl, Or.inl rfl, Or.inl rfl, Or.inr ⟨rfl, rfl⟩, Or.inl rfl, Or.inl rfl, Or.inl rfl, Or.inl rfl, trivial⟩ ?_
                cases h156
                exact kj155
              rcases am_ifE h173 with ⟨c174, h173⟩ | ⟨c174, h173⟩
              · refine x_icneT r295_328 c174 rfl ?_
                refine x_ld (v := .ref 0) r295_331 rfl rfl rfl ?_
                refine x_ic (v := 0) r295_332 rfl rfl ?_
                obtain ⟨q175, h176, h173⟩ := Option.bind_eq_some_iff.mp h173
                obtain ⟨x177, h178, h173⟩ := Option.bind_eq_some_iff.mp h173
                refine x_call1 (as := [.ref 0, .int (0 : Int32)]) (rest := []) r295_333 rfl rfl rfl (by decide) (Nat.le_of_ble_eq_true rfl) (m22_okv h176 h178) (Nat.le_trans (by decide) hd) (Nat.zero_le _) (Nat.zero_le _) rfl ?_
                refine x_ic (v := 2) r295_336 rfl rfl ?_
                obtain ⟨q179, h181, h173⟩ := am_ltE h173
                replace h181 := h181.symm
                have kj180 : am_X xs L 295 d mc ms 345 [.ref 0, .int v1, .int x3, .int q7, .long q9.1, am_dead, .int q32.1, .int x165, am_dead, am_dead, am_dead, am_dead] [.int q179] (am_mk q163.2) 0 0 Q := by
                  refine x_ld (v := .int x165) r295_345 rfl rfl rfl ?_
                  refine x_ic (v := 4) r295_347 rfl rfl ?_
                  obtain ⟨q183, h185, h173⟩ := am_ltE h173
                  replace h185 := h185.symm
                  have kj184 : am_X xs L 295 d mc ms 356 [.ref 0, .int v1, .int x3, .int q7, .long q9.1, am_dead, .int q32.1, .int x165, am_dead, am_dead, am_dead, am_dead] [.int q183, .int q179] (am_mk q163.2) 0 0 Q := by
                    rcases am_ifE h173 with ⟨c187, h173⟩ | ⟨c187, h173⟩
                    · refine x_icneT r295_356 c187 rfl ?_
                      refine x_ld (v := .ref 0) r295_359 rfl rfl rfl ?_
                      obtain ⟨q188, h189, h173⟩ := Option.bind_eq_some_iff.mp h173
                      obtain ⟨x190, h191, h173⟩ := Option.bind_eq_some_iff.mp h173
                      refine x_call1 (as := [.ref 0]) (rest := []) r295_360 rfl rfl rfl (by decide) (Nat.le_of_ble_eq_true rfl) (n17_okv h189 h191) (Nat.le_trans (by decide) hd) (Nat.zero_le _) (Nat.zero_le _) rfl ?_
                      rcases am_ifE h173 with ⟨c192, h173⟩ | ⟨c192, h173⟩
                      · refine x_ifltT r295_363 c192 ?_
                        refine x_ic (v := 0) r295_370 rfl rfl ?_
                        cases h173
                        exact kj172
                      · refine x_ifltF r295_363 c192 rfl ?_
                        refine x_ic (v := 1) r295_366 rfl rfl ?_
                        refine x_goto r295_367 ?_
                        cases h173
                        exact kj172
                    · refine x_icneF r295_356 c187 ?_
                      refine x_ic (v := 0) r295_370 rfl rfl ?_
                      cases h173
                      exact kj172
                  rcases am_ifE h185 with ⟨c186, h185⟩ | ⟨c186, h185⟩
                  · refine x_icneT r295_348 c186 rfl ?_
                    refine x_ic (v := 1) r295_351 rfl rfl ?_
                    refine x_goto r295_352 ?_
                    subst h185
                    exact kj184
                  · refine x_icneF r295_348 c186 ?_
                    refine x_ic (v := 0) r295_355 rfl rfl ?_
                    subst h185
                    exact kj184
                rcases am_ifE h181 with ⟨c182, h181⟩ | ⟨c182, h181⟩
                · refine x_icneT r295_337 c182 rfl ?_
                  refine x_ic (v := 1) r295_340 rfl rfl ?_
                  refine x_goto r295_341 ?_
                  subst h181
                  exact kj180
                · refine x_icneF r295_337 c182 ?_
                  refine x_ic (v := 0) r295_344 rfl rfl ?_
                  subst h181
                  exact kj180
              · refine x_icneF r295_328 c174 ?_
                refine x_ic (v := 0) r295_370 rfl rfl ?_
                cases h173
                exact kj172
            · refine x_ifneF r295_310 c162 ?_
              cases h156
              exact kj155
        rcases am_ifE h34 with ⟨c35, h34⟩ | ⟨c35, h34⟩
        · refine x_ifltT r295_68 c35 ?_
          cases h34
          exact kj33
        · refine x_ifltF r295_68 c35 rfl ?_
          refine x_ld (v := .ref 0) r295_71 rfl rfl rfl ?_
          refine x_ld (v := .int x3) r295_72 rfl rfl rfl ?_
          refine x_ld (v := .int q7) r295_73 rfl rfl rfl ?_
          refine x_ic (v := 2) r295_74 rfl rfl ?_
          refine x_ar r295_75 rfl (by decide) rfl ?_
          refine x_ld (v := .int q7) r295_76 rfl rfl rfl ?_
          refine x_ic (v := 2) r295_77 rfl rfl ?_
          refine x_ar r295_78 rfl (by decide) rfl ?_
          obtain ⟨q36, h37, h34⟩ := am_ltE h34
          replace h37 := h37.symm
          obtain ⟨x38, h39, h34⟩ := Option.bind_eq_some_iff.mp h34
          refine x_call1 (as := [.ref 0, .int x3, .int (q7 / (2 : Int32)), .int (q7 - q7 / (2 : Int32) * (2 : Int32))]) (rest := []) r295_79 rfl rfl rfl (by decide) (Nat.le_of_ble_eq_true rfl) (m23_okv h37 h39) (Nat.le_trans (by decide) hd) (Nat.zero_le _) (Nat.zero_le _) rfl ?_
          rcases am_ifE h34 with ⟨c40, h34⟩ | ⟨c40, h34⟩
          · refine x_ifneT r295_82 c40 rfl ?_
            refine x_ld (v := .ref 0) r295_85 rfl rfl rfl ?_
            refine x_ld (v := .int x3) r295_86 rfl rfl rfl ?_
            refine x_ld (v := .int q7) r295_87 rfl rfl rfl ?_
            refine x_ic (v := 2) r295_88 rfl rfl ?_
            refine x_ar r295_89 rfl (by decide) rfl ?_
            refine x_ld (v := .int q7) r295_90 rfl rfl rfl ?_
            refine x_ic (v := 2) r295_91 rfl rfl ?_
            refine x_ar r295_92 rfl (by decide) rfl ?_
            refine x_ic (v := 0) r295_93 rfl rfl ?_
            obtain ⟨q41, h42, h34⟩ := Option.bind_eq_some_iff.mp h34
            obtain ⟨x43, h44, h34⟩ := Option.bind_eq_some_iff.mp h34
            refine x_call1 (as := [.ref 0, .int x3, .int (q7 / (2 : Int32)), .int (q7 - q7 / (2 : Int32) * (2 : Int32)), .int (0 : Int32)]) (rest := []) r295_94 rfl rfl rfl (by decide) (Nat.le_of_ble_eq_true rfl) (m28_okv h42 h44) (Nat.le_trans (by decide) hd) (Nat.zero_le _) (Nat.zero_le _) rfl ?_
            refine x_sto (lc' := [.ref 0, .int v1, .int x3, .int q7, .long q9.1, am_dead, .int q28, .int x43, am_dead, am_dead, am_dead, am_dead]) r295_97 rfl rfl rfl rfl ?_
            refine x_ld (v := .ref 0) r295_99 rfl rfl rfl ?_
            refine x_ld (v := .int x3) r295_100 rfl rfl rfl ?_
            refine x_ld (v := .int q7) r295_101 rfl rfl rfl ?_
            refine x_ic (v := 2) r295_102 rfl rfl ?_
            refine x_ar r295_103 rfl (by decide) rfl ?_
            refine x_ld (v := .int q7) r295_104 rfl rfl rfl ?_
            refine x_ic (v := 2) r295_105 rfl rfl ?_
            refine x_ar r295_106 rfl (by decide) rfl ?_
            refine x_ic (v := 1) r295_107 rfl rfl ?_
            obtain ⟨q45, h46, h34⟩ := Option.bind_eq_some_iff.mp h34
            obtain ⟨x47, h48, h34⟩ := Option.bind_eq_some_iff.mp h34
            refine x_call1 (as := [.ref 0, .int x3, .int (q7 / (2 : Int32)), .int (q7 - q7 / (2 : Int32) * (2 : Int32)), .int (1 : Int32)]) (rest := []) r295_108 rfl rfl rfl (by decide) (Nat.le_of_ble_eq_true rfl) (m28_okv h46 h48) (Nat.le_trans (by decide) hd) (Nat.zero_le _) (Nat.zero_le _) rfl ?_
            refine x_sto (lc' := [.ref 0, .int v1, .int x3, .int q7, .long q9.1, am_dead, .int q28, .int x43, .int x47, am_dead, am_dead, am_dead]) r295_111 rfl rfl rfl rfl ?_
            refine x_ld (v := .ref 0) r295_113 rfl rfl rfl ?_
            refine x_ld (v := .int x3) r295_114 rfl rfl rfl ?_
            refine x_ld (v := .int q7) r295_115 rfl rfl rfl ?_
            refine x_ic (v := 2) r295_116 rfl rfl ?_
            refine x_ar r295_117 rfl (by decide) rfl ?_
            refine x_ld (v := .int q7) r295_118 rfl rfl rfl ?_
            refine x_ic (v := 2) r295_119 rfl rfl ?_
            refine x_ar r295_120 rfl (by decide) rfl ?_
            refine x_ic (v := 2) r295_121 rfl rfl ?_
            obtain ⟨q49, h50, h34⟩ := Option.bind_eq_some_iff.mp h34
            obtain ⟨x51, h52, h34⟩ := Option.bind_eq_some_iff.mp h34
            refine x_call1 (as := [.ref 0, .int x3, .int (q7 / (2 : Int32)), .int (q7 - q7 / (2 : Int32) * (2 : Int32)), .int (2 : Int32)]) (rest := []) r295_122 rfl rfl rfl (by decide) (Nat.le_of_ble_eq_true rfl) (m28_okv h50 h52) (Nat.le_trans (by decide) hd) (Nat.zero_le _) (Nat.zero_le _) rfl ?_
            refine x_sto (lc' := [.ref 0, .int v1, .int x3, .int q7, .long q9.1, am_dead, .int q28, .int x43, .int x47, .int x51, am_dead, am_dead]) r295_125 rfl rfl rfl rfl ?_
            refine x_ld (v := .ref 0) r295_127 rfl rfl rfl ?_
            refine x_bi (v := 7) r295_128 rfl rfl ?_
            refine x_ld (v := .int x3) r295_130 rfl rfl rfl ?_
            refine x_ic (v := 2) r295_131 rfl rfl ?_
            refine x_ar r295_132 rfl (by decide) rfl ?_
            refine x_ar r295_133 rfl trivial rfl ?_
            obtain ⟨q53, h54, h34⟩ := Option.bind_eq_some_iff.mp h34
            obtain ⟨x55, h56, h34⟩ := Option.bind_eq_some_iff.mp h34
            refine x_call1 (as := [.ref 0, .int ((7 : Int32) + (x3 - x3 / (2 : Int32) * (2 : Int32)))]) (rest := []) r295_134 rfl rfl rfl (by decide) (Nat.le_of_ble_eq_true rfl) (m22_okv h54 h56) (Nat.le_trans (by decide) hd) (Nat.zero_le _) (Nat.zero_le _) rfl ?_
            refine x_sto (lc' := [.ref 0, .int v1, .int x3, .int q7, .long q9.1, am_dead, .int q28, .int x43, .int x47, .int x51, .int x55, am_dead]) r295_137 rfl rfl rfl rfl ?_
            refine x_ld (v := .ref 0) r295_139 rfl rfl rfl ?_
            refine x_ld (v := .int x3) r295_140 rfl rfl rfl ?_
            refine x_ic (v := 0) r295_141 rfl rfl ?_
            obtain ⟨q57, h58, h34⟩ := Option.bind_eq_some_iff.mp h34
            obtain ⟨x59, h60, h34⟩ := Option.bind_eq_some_iff.mp h34
            refine x_call1 (as := [.ref 0, .int x3, .int (0 : Int32)]) (rest := []) r295_142 rfl rfl rfl (by decide) (Nat.le_of_ble_eq_true rfl) (m21_okv h58 h60) (Nat.le_trans (by decide) hd) (Nat.zero_le _) (Nat.zero_le _) rfl ?_
            refine x_sto (lc' := [.ref 0, .int v1, .int x3, .int q7, .long q9.1, am_dead, .int q28, .int x43, .int x47, .int x51, .int x55, .int x59]) r295_145 rfl rfl rfl rfl ?_
            refine x_ld (v := .int q28) r295_147 rfl rfl rfl ?_
            obtain ⟨q61, h63, h34⟩ := Option.bind_eq_some_iff.mp h34
            have kj62 : am_X xs L 295 d mc ms 296 [.ref 0, .int v1, .int x3, .int q7, .long q9.1, am_dead, .int q28, .int x43, .int x47, .int x51, .int x55, .int x59] [.int q61.1] (am_mk q61.2) 0 0 Q := by
              refine x_sto (lc' := [.ref 0, .int v1, .int x3, .int q7, .long q9.1, am_dead, .int q61.1, .int x43, .int x47, .int x51, .int x55, .int x59]) r295_296 rfl rfl rfl rfl ?_
              refine x_forget (lc0 := [.ref 0, .int v1, .int x3, .int q7, .long q9.1, am_dead, .int q61.1, am_dead, am_dead, am_dead, am_dead, am_dead]) ⟨Or.inl rfl, Or.inl rfl, Or.inl rfl, Or.inl rfl, Or.inl rfl, Or.inl rfl, Or.inl rfl, Or.inr ⟨rfl, rfl⟩, Or.inr ⟨rfl, rfl⟩, Or.inr ⟨rfl, rfl⟩, Or.inr ⟨rfl, rfl⟩, Or.inr ⟨rfl, rfl⟩, trivial⟩ ?_
              cases h34
              exact kj33
            rcases am_ifE h63 with ⟨c64, h63⟩ | ⟨c64, h63⟩
            · refine x_ifeqT r295_149 c64 ?_
              refine x_ic (v := 0) r295_295 rfl rfl ?_
              cases h63
              exact kj62
            · refine x_ifeqF r295_149 c64 rfl ?_
              refine x_ld (v := .ref 0) r295_152 rfl rfl rfl ?_
              refine x_bi (v := 15) r295_153 rfl rfl ?_
              obtain ⟨q65, h66, h63⟩ := Option.bind_eq_some_iff.mp h63
              obtain ⟨x67, h68, h63⟩ := Option.bind_eq_some_iff.mp h63
              refine x_call1 (as := [.ref 0, .int (15 : Int32)]) (rest := []) r295_155 rfl rfl rfl (by decide) (Nat.le_of_ble_eq_true rfl) (m22_okv h66 h68) (Nat.le_trans (by decide) hd) (Nat.zero_le _) (Nat.zero_le _) rfl ?_
              refine x_ic (v := 1) r295_158 rfl rfl ?_
              rcases am_ifE h63 with ⟨c69, h63⟩ | ⟨c69, h63⟩
              · refine x_icneT r295_159 c69 rfl ?_
                refine x_ld (v := .ref 0) r295_162 rfl rfl rfl ?_
                refine x_ld (v := .int x3) r295_163 rfl rfl rfl ?_
                refine x_ld (v := .int q7) r295_164 rfl rfl rfl ?_
                refine x_ic (v := 2) r295_165 rfl rfl ?_
                refine x_ar r295_166 rfl (by decide) rfl ?_
                refine x_ld (v := .int q7) r295_167 rfl rfl rfl ?_
                refine x_ic (v := 2) r295_168 rfl rfl ?_
                refine x_ar r295_169 rfl (by decide) rfl ?_
                obtain ⟨q70, h71, h63⟩ := Option.bind_eq_some_iff.mp h63
                obtain ⟨x72, h73, h63⟩ := Option.bind_eq_some_iff.mp h63
                refine x_call1 (as := [.ref 0, .int x3, .int (q7 / (2 : Int32)), .int (q7 - q7 / (2 : Int32) * (2 : Int32))]) (rest := []) r295_170 rfl rfl rfl (by decide) (Nat.le_of_ble_eq_true rfl) (n5_okv h71 h73) (Nat.le_trans (by decide) hd) (Nat.zero_le _) (Nat.zero_le _) rfl ?_
                refine x_ld (v := .int x43) r295_173 rfl rfl rfl ?_
                rcases am_ifE h63 with ⟨c74, h63⟩ | ⟨c74, h63⟩
                · refine x_icneT r295_175 c74 rfl ?_
                  refine x_ld (v := .ref 0) r295_178 rfl rfl rfl ?_
                  refine x_bi (v := 7) r295_179 rfl rfl ?_
                  refine x_ld (v := .int x3) r295_181 rfl rfl rfl ?_
                  refine x_ic (v := 2) r295_182 rfl rfl ?_
                  refine x_ar r295_183 rfl (by decide) rfl ?_
                  refine x_ar r295_184 rfl trivial rfl ?_
                  obtain ⟨q75, h76, h63⟩ := Option.bind_eq_some_iff.mp h63
                  obtain ⟨x77, h78, h63⟩ := Option.bind_eq_some_iff.mp h63
                  refine x_call1 (as := [.ref 0, .int ((7 : Int32) + (x3 - x3 / (2 : Int32) * (2 : Int32)))]) (rest := []) r295_185 rfl rfl rfl (by decide) (Nat.le_of_ble_eq_true rfl) (m22_okv h76 h78) (Nat.le_trans (by decide) hd) (Nat.zero_le _) (Nat.zero_le _) rfl ?_
                  refine x_ld (v := .int x55) r295_188 rfl rfl rfl ?_
                  refine x_ld (v := .int x43) r295_190 rfl rfl rfl ?_
                  refine x_ar r295_192 rfl trivial rfl ?_
                  rcases am_ifE h63 with ⟨c79, h63⟩ | ⟨c79, h63⟩
                  · refine x_icneT r295_193 c79 rfl ?_
                    refine x_ld (v := .ref 0) r295_196 rfl rfl rfl ?_
                    refine x_bi (v := 6) r295_197 rfl rfl ?_
                    obtain ⟨q80, h81, h63⟩ := Option.bind_eq_some_iff.mp h63
                    obtain ⟨x82, h83, h63⟩ := Option.bind_eq_some_iff.mp h63
                    refine x_call1 (as := [.ref 0, .int (6 : Int32)]) (rest := []) r295_199 rfl rfl rfl (by decide) (Nat.le_of_ble_eq_true rfl) (m22_okv h81 h83) (Nat.le_trans (by decide) hd) (Nat.zero_le _) (Nat.zero_le _) rfl ?_
                    refine x_ld (v := .int x47) r295_202 rfl rfl rfl ?_
                    rcases am_ifE h63 with ⟨c84, h63⟩ | ⟨c84, h63⟩
                    · refine x_icneT r295_204 c84 rfl ?_
                      refine x_ld (v := .ref 0) r295_207 rfl rfl rfl ?_
                      refine x_bi (v := 12) r295_208 rfl rfl ?_
                      obtain ⟨q85, h86, h63⟩ := Option.bind_eq_some_iff.mp h63
                      obtain ⟨x87, h88, h63⟩ := Option.bind_eq_some_iff.mp h63
                      refine x_call1 (as := [.ref 0, .int (12 : Int32)]) (rest := []) r295_210 rfl rfl rfl (by decide) (Nat.le_of_ble_eq_true rfl) (m22_okv h86 h88) (Nat.le_trans (by decide) hd) (Nat.zero_le _) (Nat.zero_le _) rfl ?_
                      rcases am_ifE h63 with ⟨c89, h63⟩ | ⟨c89, h63⟩
                      · refine x_ifneT r295_213 c89 rfl ?_
                        refine x_ld (v := .int x59) r295_216 rfl rfl rfl ?_
                        refine x_ic (v := 1) r295_218 rfl rfl ?_
                        rcases am_ifE h63 with ⟨c90, h63⟩ | ⟨c90, h63⟩
                        · refine x_iceqT r295_219 c90 ?_
                          refine x_ld (v := .ref 0) r295_237 rfl rfl rfl ?_
                          refine x_ic (v := 0) r295_238 rfl rfl ?_
                          obtain ⟨q91, h92, h63⟩ := Option.bind_eq_some_iff.mp h63
                          obtain ⟨x93, h94, h63⟩ := Option.bind_eq_some_iff.mp h63
                          refine x_call1 (as := [.ref 0, .int (0 : Int32)]) (rest := []) r295_239 rfl rfl rfl (by decide) (Nat.le_of_ble_eq_true rfl) (m22_okv h92 h94) (Nat.le_trans (by decide) hd) (Nat.zero_le _) (Nat.zero_le _) rfl ?_
                          refine x_ic (v := 2) r295_242 rfl rfl ?_
                          obtain ⟨q95, h97, h63⟩ := am_ltE h63
                          replace h97 := h97.symm
                          have kj96 : am_X xs L 295 d mc ms 251 [.ref 0, .int v1, .int x3, .int q7, .long q9.1, am_dead, .int q28, .int x43, .int x47, .int x51, .int x55, .int x59] [.int q95] (am_mk q70.2) 0 0 Q := by
                            refine x_ld (v := .int x59) r295_251 rfl rfl rfl ?_
                            refine x_ic (v := 1) r295_253 rfl rfl ?_
                            obtain ⟨q99, h101, h63⟩ := am_ltE h63
                            replace h101 := h101.symm
                            have kj100 : am_X xs L 295 d mc ms 262 [.ref 0, .int v1, .int x3, .int q7, .long q9.1, am_dead, .int q28, .int x43, .int x47, .int x51, .int x55, .int x59] [.int q99, .int q95] (am_mk q70.2) 0 0 Q := by
                              rcases am_ifE h63 with ⟨c103, h63⟩ | ⟨c103, h63⟩
                              · refine x_icneT r295_262 c103 rfl ?_
                                refine x_ld (v := .int x59) r295_265 rfl rfl rfl ?_
                                refine x_ic (v := 1) r295_267 rfl rfl ?_
                                rcases am_ifE h63 with ⟨c104, h63⟩ | ⟨c104, h63⟩
                                · refine x_iceqT r295_268 c104 ?_
                                  refine x_ld (v := .ref 0) r295_284 rfl rfl rfl ?_
                                  obtain ⟨q105, h106, h63⟩ := Option.bind_eq_some_iff.mp h63
                                  obtain ⟨x107, h108, h63⟩ := Option.bind_eq_some_iff.mp h63
                                  refine x_call1 (as := [.ref 0]) (rest := []) r295_285 rfl rfl rfl (by decide) (Nat.le_of_ble_eq_true rfl) (n17_okv h106 h108) (Nat.le_trans (by decide) hd) (Nat.zero_le _) (Nat.zero_le _) rfl ?_
                                  rcases am_ifE h63 with ⟨c109, h63⟩ | ⟨c109, h63⟩
                                  · refine x_ifltT r295_288 c109 ?_
                                    refine x_ic (v := 0) r295_295 rfl rfl ?_
                                    cases h63
                                    exact kj62
                                  · refine x_ifltF r295_288 c109 rfl ?_
                                    refine x_ic (v := 1) r295_291 rfl rfl ?_
                                    refine x_goto r295_292 ?_
                                    cases h63
                                    exact kj62
                                · refine x_iceqF r295_268 c104 rfl ?_
                                  refine x_ld (v := .ref 0) r295_271 rfl rfl rfl ?_
                                  refine x_ic (v := 1) r295_272 rfl rfl ?_
                                  obtain ⟨q110, h111, h63⟩ := Option.bind_eq_some_iff.mp h63
                                  obtain ⟨x112, h113, h63⟩ := Option.bind_eq_some_iff.mp h63
                                  refine x_call1 (as := [.ref 0, .int (1 : Int32)]) (rest := []) r295_273 rfl rfl rfl (by decide) (Nat.le_of_ble_eq_true rfl) (m22_okv h111 h113) (Nat.le_trans (by decide) hd) (Nat.zero_le _) (Nat.zero_le _) rfl ?_
                                  refine x_ld (v := .int x3) r295_276 rfl rfl rfl ?_
                                  refine x_ic (v := 1) r295_277 rfl rfl ?_
                                  refine x_ar r295_278 rfl trivial rfl ?_
                                  refine x_ic (v := 4) r295_279 rfl rfl ?_
                                  refine x_ar r295_280 rfl (by decide) rfl ?_
                                  rcases am_ifE h63 with ⟨c114, h63⟩ | ⟨c114, h63⟩
                                  · refine x_icneT r295_281 c114 rfl ?_
                                    refine x_ld (v := .ref 0) r295_284 rfl rfl rfl ?_
                                    obtain ⟨q115, h116, h63⟩ := Option.bind_eq_some_iff.mp h63
                                    obtain ⟨x117, h118, h63⟩ := Option.bind_eq_some_iff.mp h63
                                    refine x_call1 (as := [.ref 0]) (rest := []) r295_285 rfl rfl rfl (by decide) (Nat.le_of_ble_eq_true rfl) (n17_okv h116 h118) (Nat.le_trans (by decide) hd) (Nat.zero_le _) (Nat.zero_le _) rfl ?_
                                    rcases am_ifE h63 with ⟨c119, h63⟩ | ⟨c119, h63⟩
                                    · refine x_ifltT r295_288 c119 ?_
                                      refine x_ic (v := 0) r295_295 rfl rfl ?_
                                      cases h63
                                      exact kj62
                                    · refine x_ifltF r295_288 c119 rfl ?_
                                      refine x_ic (v := 1) r295_291 rfl rfl ?_
                                      refine x_goto r295_292 ?_
                                      cases h63
                                      exact kj62
                                  · refine x_icneF r295_281 c114 ?_
                                    refine x_ic (v := 0) r295_295 rfl rfl ?_
                                    cases h63
                                    exact kj62
                              · refine x_icneF r295_262 c103 ?_
                                refine x_ic (v := 0) r295_295 rfl rfl ?_
                                cases h63
                                exact kj62
                            rcases am_ifE h101 with ⟨c102, h101⟩ | ⟨c102, h101⟩
                            · refine x_icneT r295_254 c102 rfl ?_
                              refine x_ic (v := 1) r295_257 rfl rfl ?_
                              refine x_goto r295_258 ?_
                              subst h101
                              exact kj100
                            · refine x_icneF r295_254 c102 ?_
                              refine x_ic (v := 0) r295_261 rfl rfl ?_
                              subst h101
                              exact kj100
                          rcases am_ifE h97 with ⟨c98, h97⟩ | ⟨c98, h97⟩
                          · refine x_icneT r295_243 c98 rfl ?_
                            refine x_ic (v := 1) r295_246 rfl rfl ?_
                            refine x_goto r295_247 ?_
                            subst h97
                            exact kj96
                          · refine x_icneF r295_243 c98 ?_
                            refine x_ic (v := 0) r295_250 rfl rfl ?_
                            subst h97
                            exact kj96
                        · refine x_iceqF r295_219 c90 rfl ?_
                          refine x_ld (v := .ref 0) r295_222 rfl rfl rfl ?_
                          refine x_ld (v := .int x3) r295_223 rfl rfl rfl ?_
                          refine x_ic (v := 1) r295_224 rfl rfl ?_
                          refine x_ar r295_225 rfl trivial rfl ?_
                          refine x_ic (v := 4) r295_226 rfl rfl ?_
                          refine x_ar r295_227 rfl (by decide) rfl ?_
                          refine x_ic (v := 4) r295_228 rfl rfl ?_
                          obtain ⟨q120, h121, h63⟩ := Option.bind_eq_some_iff.mp h63
                          obtain ⟨x122, h123, h63⟩ := Option.bind_eq_some_iff.mp h63
                          refine x_call1 (as := [.ref 0, .int ((x3 + (1 : Int32)) - (x3 + (1 : Int32)) / (4 : Int32) * (4 : Int32)), .int (4 : Int32)]) (rest := []) r295_229 rfl rfl rfl (by decide) (Nat.le_of_ble_eq_true rfl) (m21_okv h121 h123) (Nat.le_trans (by decide) hd) (Nat.zero_le _) (Nat.zero_le _) rfl ?_
                          refine x_ld (v := .int x51) r295_232 rfl rfl rfl ?_
                          rcases am_ifE h63 with ⟨c124, h63⟩ | ⟨c124, h63⟩
                          · refine x_icneT r295_234 c124 rfl ?_
                            refine x_ld (v := .ref 0) r295_237 rfl rfl rfl ?_
                            refine x_ic (v := 0) r295_238 rfl rfl ?_
                            obtain ⟨q125, h126, h63⟩ := Option.bind_eq_some_iff.mp h63
                            obtain ⟨x127, h128, h63⟩ := Option.bind_eq_some_iff.mp h63
                            refine x_call1 (as := [.ref 0, .int (0 : Int32)]) (rest := []) r295_239 rfl rfl rfl (by decide) (Nat.le_of_ble_eq_true rfl) (m22_okv h126 h128) (Nat.le_trans (by decide) hd) (Nat.zero_le _) (Nat.zero_le _) rfl ?_
                            refine x_ic (v := 2) r295_242 rfl rfl ?_
                            obtain ⟨q129, h131, h63⟩ := am_ltE h63
                            replace h131 := h131.symm
                            have kj130 : am_X xs L 295 d mc ms 251 [.ref 0, .int v1, .int x3, .int q7, .long q9.1, am_dead, .int q28, .int x43, .int x47, .int x51, .int x55, .int x59] [.int q129] (am_mk q120.2) 0 0 Q := by
                              refine x_ld (v := .int x59) r295_251 rfl rfl rfl ?_
                              refine x_ic (v := 1) r295_253 rfl rfl ?_
                              obtain ⟨q133, h135, h63⟩ := am_ltE h63
                              replace h135 := h135.symm
                              have kj134 : am_X xs L 295 d mc ms 262 [.ref 0, .int v1, .int x3, .int q7, .long q9.1, am_dead, .int q28, .int x43, .int x47, .int x51, .int x55, .int x59] [.int q133, .int q129] (am_mk q120.2) 0 0 Q := by
                                rcases am_ifE h63 with ⟨c137, h63⟩ | ⟨c137, h63⟩
                                · refine x_icneT r295_262 c137 rfl ?_
                                  refine x_ld (v := .int x59) r295_265 rfl rfl rfl ?_
                                  refine x_ic (v := 1) r295_267 rfl rfl ?_
                                  rcases am_ifE h63 with ⟨c138, h63⟩ | ⟨c138, h63⟩
                                  · refine x_iceqT r295_268 c138 ?_
                                    refine x_ld (v := .ref 0) r295_284 rfl rfl rfl ?_
                                    obtain ⟨q139, h140, h63⟩ := Option.bind_eq_some_iff.mp h63
                                    obtain ⟨x141, h142, h63⟩ := Option.bind_eq_some_iff.mp h63
                                    refine x_call1 (as := [.ref 0]) (rest := []) r295_285 rfl rfl rfl (by decide) (Nat.le_of_ble_eq_true rfl) (n17_okv h140 h142) (Nat.le_trans (by decide) hd) (Nat.zero_le _) (Nat.zero_le _) rfl ?_
                                    rcases am_ifE h63 with ⟨c143, h63⟩ | ⟨c143, h63⟩
                                    · refine x_ifltT r295_288 c143 ?_
                                      refine x_ic (v := 0) r295_295 rfl rfl ?_
                                      cases h63
                                      exact kj62
                                    · refine x_ifltF r295_288 c143 rfl ?_
                                      refine x_ic (v := 1) r295_291 rfl rfl ?_
                                      refine x_goto r295_292 ?_
                                      cases h63
                                      exact kj62
                                  · refine x_iceqF r295_268 c138 rfl ?_
                                    refine x_ld (v := .ref 0) r295_271 rfl rfl rfl ?_
                                    refine x_ic (v := 1) r295_272 rfl rfl ?_
                                    obtain ⟨q144, h145, h63⟩ := Option.bind_eq_some_iff.mp h63
                                    obtain ⟨x146, h147, h63⟩ := Option.bind_eq_some_iff.mp h63
                                    refine x_call1 (as := [.ref 0, .int (1 : Int32)]) (rest := []) r295_273 rfl rfl rfl (by decide) (Nat.le_of_ble_eq_true rfl) (m22_okv h145 h147) (Nat.le_trans (by decide) hd) (Nat.zero_le _) (Nat.zero_le _) rfl ?_
                                    refine x_ld (v := .int x3) r295_276 rfl rfl rfl ?_
                                    refine x_ic (v := 1) r295_277 rfl rfl ?_
                                    refine x_ar r295_278 rfl trivial rfl ?_
                                    refine x_ic (v := 4) r295_279 rfl rfl ?_
                                    refine x_ar r295_280 rfl (by decide) rfl ?_
                                    rcases am_ifE h63 with ⟨c148, h63⟩ | ⟨c148, h63⟩
                                    · refine x_icneT r295_281 c148 rfl ?_
                                      refine x_ld (v := .ref 0) r295_284 rfl rfl rfl ?_
                                      obtain ⟨q149, h150, h63⟩ := Option.bind_eq_some_iff.mp h63
                                      obtain ⟨x151, h152, h63⟩ := Option.bind_eq_some_iff.mp h63
                                      refine x_call1 (as := [.ref 0]) (rest := []) r295_285 rfl rfl rfl (by decide) (Nat.le_of_ble_eq_true rfl) (n17_okv h150 h152) (Nat.le_trans (by decide) hd) (Nat.zero_le _) (Nat.zero_le _) rfl ?_
                                      rcases am_ifE h63 with ⟨c153, h63⟩ | ⟨c153, h63⟩
                                      · refine x_ifltT r295_288 c153 ?_
                                        refine x_ic (v := 0) r295_295 rfl rfl ?_
                                        cases h63
                                        exact kj62
                                      · refine x_ifltF r295_288 c153 rfl ?_
                                        refine x_ic (v := 1) r295_291 rfl rfl ?_
                                        refine x_goto r295_292 ?_
                                        cases h63
                                        exact kj62
                                    · refine x_icneF r295_281 c148 ?_
                                      refine x_ic (v := 0) r295_295 rfl rfl ?_
                                      cases h63
                                      exact kj62
                                · refine x_icneF r295_262 c137 ?_
                                  refine x_ic (v := 0) r295_295 rfl rfl ?_
                                  cases h63
                                  exact kj62
                              rcases am_ifE h135 with ⟨c136, h135⟩ | ⟨c136, h135⟩
                              · refine x_icneT r295_254 c136 rfl ?_
                                refine x_ic (v := 1) r295_257 rfl rfl ?_
                                refine x_goto r295_258 ?_
                                subst h135
                                exact kj134
                              · refine x_icneF r295_254 c136 ?_
                                refine x_ic (v := 0) r295_261 rfl rfl ?_
                                subst h135
                                exact kj134
                            rcases am_ifE h131 with ⟨c132, h131⟩ | ⟨c132, h131⟩
                            · refine x_icneT r295_243 c132 rfl ?_
                              refine x_ic (v := 1) r295_246 rfl rfl ?_
                              refine x_goto r295_247 ?_
                              subst h131
                              exact kj130
                            · refine x_icneF r295_243 c132 ?_
                              refine x_ic (v := 0) r295_250 rfl rfl ?_
                              subst h131
                              exact kj130
                          · refine x_icneF r295_234 c124 ?_
                            refine x_ic (v := 0) r295_295 rfl rfl ?_
                            cases h63
                            exact kj62
                      · refine x_ifneF r295_213 c89 ?_
                        refine x_ic (v := 0) r295_295 rfl rfl ?_
                        cases h63
                        exact kj62
                    · refine x_icneF r295_204 c84 ?_
                      refine x_ic (v := 0) r295_295 rfl rfl ?_
                      cases h63
                      exact kj62
                  · refine x_icneF r295_193 c79 ?_
                    refine x_ic (v := 0) r295_295 rfl rfl ?_
                    cases h63
                    exact kj62
                · refine x_icneF r295_175 c74 ?_
                  refine x_ic (v := 0) r295_295 rfl rfl ?_
                  cases h63
                  exact kj62
              · refine x_icneF r295_159 c69 ?_
                refine x_ic (v := 0) r295_295 rfl rfl ?_
                cases h63
                exact kj62
          · refine x_ifneF r295_82 c40 ?_
            cases h34
            exact kj33
      rcases am_ifE h30 with ⟨c31, h30⟩ | ⟨c31, h30⟩
      · refine x_icneT r295_57 c31 rfl ?_
        refine x_ic (v := 1) r295_60 rfl rfl ?_
        refine x_goto r295_61 ?_
        subst h30
        exact kj29
      · refine x_icneF r295_57 c31 ?_
        refine x_ic (v := 0) r295_64 rfl rfl ?_
        subst h30
        exact kj29
    rcases am_ifE h21 with ⟨c22, h21⟩ | ⟨c22, h21⟩
    · refine x_ifltT r295_40 c22 ?_
      refine x_ic (v := 1) r295_52 rfl rfl ?_
      refine x_goto r295_53 ?_
      cases h21
      exact kj20
    · refine x_ifltF r295_40 c22 rfl ?_
      refine x_ld (v := .ref 0) r295_43 rfl rfl rfl ?_
      refine x_ld (v := .int x3) r295_44 rfl rfl rfl ?_
      refine x_ic (v := 2) r295_45 rfl rfl ?_
      obtain ⟨q23, h24, h21⟩ := Option.bind_eq_some_iff.mp h21
      obtain ⟨x25, h26, h21⟩ := Option.bind_eq_some_iff.mp h21
      refine x_call1 (as := [.ref 0, .int x3, .int (2 : Int32)]) (rest := [.int q15]) r295_46 rfl rfl rfl (by decide) (Nat.le_of_ble_eq_true rfl) (m21_okv h24 h26) (Nat.le_trans (by decide) hd) (Nat.zero_le _) (Nat.zero_le _) rfl ?_
      rcases am_ifE h21 with ⟨c27, h21⟩ | ⟨c27, h21⟩
      · refine x_ifneT r295_49 c27 rfl ?_
        refine x_ic (v := 1) r295_52 rfl rfl ?_
        refine x_goto r295_53 ?_
        cases h21
        exact kj20
      · refine x_ifneF r295_49 c27 ?_
        refine x_ic (v := 0) r295_56 rfl rfl ?_
        cases h21
        exact kj20
  rcases am_ifE h17 with ⟨c18, h17⟩ | ⟨c18, h17⟩
  · refine x_ifneT r295_31 c18 rfl ?_
    refine x_ic (v := 1) r295_34 rfl rfl ?_
    refine x_goto r295_35 ?_
    subst h17
    exact kj16
  · refine x_ifneF r295_31 c18 ?_
    refine x_ic (v := 0) r295_38 rfl rfl ?_
    subst h17
    exact kj16
theorem m295_ok {N : Nat} {D : am_D} {v1 : Int32} {r : Int32 × am_D} (h : m295 N D v1 = some r) : am_Y xs L 295 56 0 0 [.ref 0, .int v1] D (.inl (some (.int r.1))) r.2 := am_Yof (mi := am_m295) (lc := [.ref 0, .int v1, am_dead, am_dead, am_dead, am_dead, am_dead, am_dead, am_dead, am_dead, am_dead, am_dead]) pg295 (Nat.le_of_ble_eq_true rfl) (am_rc0 rfl) rfl (fun Q hQ => m295_w (Nat.le_refl _) h hQ)
end XE
