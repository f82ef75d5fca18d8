/-! the law: rows (by wip/p34/tools/gen_law34.py) -/
section XA
variable {xs : Nat → Int32} {L N d mc ms c s : Nat} {D : am_D} {t : am_AH} {Q : am_O → am_AH → Prop}
set_option maxRecDepth 100000 in
theorem rt287 : am_rtt 287 = some ret := by decide +kernel
theorem rt288 : am_rtt 288 = some (some .int) := by decide +kernel
theorem pg288 : am_pg[288]? = some am_m288 := by rfl
theorem r287_0 : am_at 287 0 = some (.new 14, 3, [0, 7, 39, 40, 20]) := by decide +kernel
theorem r287_3 : am_at 287 3 = some (.dup, 1, []) := by decide +kernel
theorem r287_4 : am_at 287 4 = some (.invokespecial 108, 3, [0, 1, 41, 0]) := by decide +kernel
theorem r287_7 : am_at 287 7 = some (.astore_n 1, 1, [1]) := by decide +kernel
theorem r287_8 : am_at 287 8 = some (.aload_n 1, 1, [1]) := by decide +kernel
theorem r287_9 : am_at 287 9 = some (.invokevirtual 109, 3, [15, 1, 282, 0]) := by decide +kernel
theorem r287_12 : am_at 287 12 = some (.ifCond .ne (14), 3, [26]) := by decide +kernel
theorem r287_15 : am_at 287 15 = some (.aload_n 1, 1, [1]) := by decide +kernel
theorem r287_16 : am_at 287 16 = some (.invokestatic 112, 3, [293, 1, 778, 0]) := by decide +kernel
theorem r287_19 : am_at 287 19 = some (.ifCond .eq (7), 3, [26]) := by decide +kernel
theorem r287_22 : am_at 287 22 = some (.iconst (1), 1, []) := by decide +kernel
theorem r287_23 : am_at 287 23 = some (.goto (4), 3, [27]) := by decide +kernel
theorem r287_26 : am_at 287 26 = some (.iconst (0), 1, []) := by decide +kernel
theorem r287_27 : am_at 287 27 = some (.istore_n 2, 1, [2]) := by decide +kernel
theorem r287_28 : am_at 287 28 = some (.iconst (0), 1, []) := by decide +kernel
theorem r287_29 : am_at 287 29 = some (.istore_n 3, 1, [3]) := by decide +kernel
theorem r287_30 : am_at 287 30 = some (.iload_n 3, 1, [3]) := by decide +kernel
theorem r287_31 : am_at 287 31 = some (.bipush (84), 2, []) := by decide +kernel
theorem r287_33 : am_at 287 33 = some (.if_icmp .ge (260), 3, [293]) := by decide +kernel
theorem r287_36 : am_at 287 36 = some (.iload_n 2, 1, [2]) := by decide +kernel
theorem r287_37 : am_at 287 37 = some (.ifCond .eq (256), 3, [293]) := by decide +kernel
theorem r287_40 : am_at 287 40 = some (.aload_n 0, 1, [0]) := by decide +kernel
theorem r287_41 : am_at 287 41 = some (.iconst (2), 1, []) := by decide +kernel
theorem r287_42 : am_at 287 42 = some (.iload_n 3, 1, [3]) := by decide +kernel
theorem r287_43 : am_at 287 43 = some (.imul, 1, []) := by decide +kernel
theorem r287_44 : am_at 287 44 = some (.invokestatic 116, 3, [288, 2, 443, 0]) := by decide +kernel
theorem r287_47 : am_at 287 47 = some (.istore 4, 2, [4]) := by decide +kernel
theorem r287_49 : am_at 287 49 = some (.aload_n 0, 1, [0]) := by decide +kernel
theorem r287_50 : am_at 287 50 = some (.iconst (2), 1, []) := by decide +kernel
theorem r287_51 : am_at 287 51 = some (.iload_n 3, 1, [3]) := by decide +kernel
theorem r287_52 : am_at 287 52 = some (.imul, 1, []) := by decide +kernel
theorem r287_53 : am_at 287 53 = some (.iconst (1), 1, []) := by decide +kernel
theorem r287_54 : am_at 287 54 = some (.iadd, 1, []) := by decide +kernel
theorem r287_55 : am_at 287 55 = some (.invokestatic 116, 3, [288, 2, 443, 0]) := by decide +kernel
theorem r287_58 : am_at 287 58 = some (.istore 5, 2, [5]) := by decide +kernel
theorem r287_60 : am_at 287 60 = some (.aload_n 1, 1, [1]) := by decide +kernel
theorem r287_61 : am_at 287 61 = some (.invokestatic 98, 3, [290, 1, 451, 0]) := by decide +kernel
theorem r287_64 : am_at 287 64 = some (.lstore 6, 2, [6]) := by decide +kernel
theorem r287_66 : am_at 287 66 = some (.aload_n 1, 1, [1]) := by decide +kernel
theorem r287_67 : am_at 287 67 = some (.bipush (18), 2, []) := by decide +kernel
theorem r287_69 : am_at 287 69 = some (.invokevirtual 13, 3, [22, 2, 385, 0]) := by decide +kernel
theorem r287_72 : am_at 287 72 = some (.istore 8, 2, [8]) := by decide +kernel
theorem r287_74 : am_at 287 74 = some (.aload_n 1, 1, [1]) := by decide +kernel
theorem r287_75 : am_at 287 75 = some (.iload 4, 2, [4]) := by decide +kernel
theorem r287_77 : am_at 287 77 = some (.iload 5, 2, [5]) := by decide +kernel
theorem r287_79 : am_at 287 79 = some (.invokestatic 120, 3, [292, 3, 564, 0]) := by decide +kernel
theorem r287_82 : am_at 287 82 = some (.istore 9, 2, [9]) := by decide +kernel
theorem r287_84 : am_at 287 84 = some (.iload 9, 2, [9]) := by decide +kernel
theorem r287_86 : am_at 287 86 = some (.ifCond .lt (32), 3, [118]) := by decide +kernel
theorem r287_89 : am_at 287 89 = some (.aload_n 1, 1, [1]) := by decide +kernel
theorem r287_90 : am_at 287 90 = some (.bipush (18), 2, []) := by decide +kernel
theorem r287_92 : am_at 287 92 = some (.invokevirtual 13, 3, [22, 2, 385, 0]) := by decide +kernel
theorem r287_95 : am_at 287 95 = some (.iload 8, 2, [8]) := by decide +kernel
theorem r287_97 : am_at 287 97 = some (.bipush (6), 2, []) := by decide +kernel
theorem r287_99 : am_at 287 99 = some (.if_icmp .ge (10), 3, [109]) := by decide +kernel
theorem r287_102 : am_at 287 102 = some (.iload 8, 2, [8]) := by decide +kernel
theorem r287_104 : am_at 287 104 = some (.iconst (1), 1, []) := by decide +kernel
theorem r287_105 : am_at 287 105 = some (.iadd, 1, []) := by decide +kernel
theorem r287_106 : am_at 287 106 = some (.goto (5), 3, [111]) := by decide +kernel
theorem r287_109 : am_at 287 109 = some (.bipush (6), 2, []) := by decide +kernel
theorem r287_111 : am_at 287 111 = some (.if_icmp .ne (7), 3, [118]) := by decide +kernel
theorem r287_114 : am_at 287 114 = some (.iconst (1), 1, []) := by decide +kernel
theorem r287_115 : am_at 287 115 = some (.goto (4), 3, [119]) := by decide +kernel
theorem r287_118 : am_at 287 118 = some (.iconst (0), 1, []) := by decide +kernel
theorem r287_119 : am_at 287 119 = some (.istore_n 2, 1, [2]) := by decide +kernel
theorem r287_120 : am_at 287 120 = some (.iload_n 2, 1, [2]) := by decide +kernel
theorem r287_121 : am_at 287 121 = some (.ifCond .eq (77), 3, [198]) := by decide +kernel
theorem r287_124 : am_at 287 124 = some (.iload 4, 2, [4]) := by decide +kernel
theorem r287_126 : am_at 287 126 = some (.bipush (8), 2, []) := by decide +kernel
theorem r287_128 : am_at 287 128 = some (.ishr, 1, []) := by decide +kernel
theorem r287_129 : am_at 287 129 = some (.iconst (3), 1, []) := by decide +kernel
theorem r287_130 : am_at 287 130 = some (.iand, 1, []) := by decide +kernel
theorem r287_131 : am_at 287 131 = some (.ifCond .ne (67), 3, [198]) := by decide +kernel
theorem r287_134 : am_at 287 134 = some (.aload_n 1, 1, [1]) := by decide +kernel
theorem r287_135 : am_at 287 135 = some (.invokestatic 98, 3, [290, 1, 451, 0]) := by decide +kernel
theorem r287_138 : am_at 287 138 = some (.lstore 10, 2, [10]) := by decide +kernel
theorem r287_140 : am_at 287 140 = some (.aload_n 1, 1, [1]) := by decide +kernel
theorem r287_141 : am_at 287 141 = some (.bipush (18), 2, []) := by decide +kernel
theorem r287_143 : am_at 287 143 = some (.invokevirtual 13, 3, [22, 2, 385, 0]) := by decide +kernel
theorem r287_146 : am_at 287 146 = some (.iconst (1), 1, []) := by decide +kernel
theorem r287_147 : am_at 287 147 = some (.isub, 1, []) := by decide +kernel
theorem r287_148 : am_at 287 148 = some (.istore 12, 2, [12]) := by decide +kernel
theorem r287_150 : am_at 287 150 = some (.aload_n 1, 1, [1]) := by decide +kernel
theorem r287_151 : am_at 287 151 = some (.invokevirtual 105, 3, [17, 1, 304, 0]) := by decide +kernel
theorem r287_154 : am_at 287 154 = some (.iload 12, 2, [12]) := by decide +kernel
theorem r287_156 : am_at 287 156 = some (.if_icmp .ne (40), 3, [196]) := by decide +kernel
theorem r287_159 : am_at 287 159 = some (.aload_n 1, 1, [1]) := by decide +kernel
theorem r287_160 : am_at 287 160 = some (.invokestatic 98, 3, [290, 1, 451, 0]) := by decide +kernel
theorem r287_163 : am_at 287 163 = some (.lload 6, 2, [6]) := by decide +kernel
theorem r287_165 : am_at 287 165 = some (.lcmp, 1, []) := by decide +kernel
theorem r287_166 : am_at 287 166 = some (.ifCond .ne (30), 3, [196]) := by decide +kernel
theorem r287_169 : am_at 287 169 = some (.aload_n 1, 1, [1]) := by decide +kernel
theorem r287_170 : am_at 287 170 = some (.iload 4, 2, [4]) := by decide +kernel
theorem r287_172 : am_at 287 172 = some (.iload 5, 2, [5]) := by decide +kernel
theorem r287_174 : am_at 287 174 = some (.invokestatic 120, 3, [292, 3, 564, 0]) := by decide +kernel
theorem r287_177 : am_at 287 177 = some (.iload 9, 2, [9]) := by decide +kernel
theorem r287_179 : am_at 287 179 = some (.if_icmp .ne (17), 3, [196]) := by decide +kernel
theorem r287_182 : am_at 287 182 = some (.aload_n 1, 1, [1]) := by decide +kernel
theorem r287_183 : am_at 287 183 = some (.invokestatic 98, 3, [290, 1, 451, 0]) := by decide +kernel
theorem r287_186 : am_at 287 186 = some (.lload 10, 2, [10]) := by decide +kernel
theorem r287_188 : am_at 287 188 = some (.lcmp, 1, []) := by decide +kernel
theorem r287_189 : am_at 287 189 = some (.ifCond .ne (7), 3, [196]) := by decide +kernel
theorem r287_192 : am_at 287 192 = some (.iconst (1), 1, []) := by decide +kernel
theorem r287_193 : am_at 287 193 = some (.goto (4), 3, [197]) := by decide +kernel
theorem r287_196 : am_at 287 196 = some (.iconst (0), 1, []) := by decide +kernel
theorem r287_197 : am_at 287 197 = some (.istore_n 2, 1, [2]) := by decide +kernel
theorem r287_198 : am_at 287 198 = some (.iload_n 2, 1, [2]) := by decide +kernel
theorem r287_199 : am_at 287 199 = some (.ifCond .eq (86), 3, [285]) := by decide +kernel
theorem r287_202 : am_at 287 202 = some (.aload_n 1, 1, [1]) := by decide +kernel
theorem r287_203 : am_at 287 203 = some (.invokestatic 112, 3, [293, 1, 778, 0]) := by decide +kernel
theorem r287_206 : am_at 287 206 = some (.ifCond .eq (79), 3, [285]) := by decide +kernel
theorem r287_209 : am_at 287 209 = some (.iload_n 3, 1, [3]) := by decide +kernel
theorem r287_210 : am_at 287 210 = some (.iconst (4), 1, []) := by decide +kernel
theorem r287_211 : am_at 287 211 = some (.irem, 1, []) := by decide +kernel
theorem r287_212 : am_at 287 212 = some (.iconst (1), 1, []) := by decide +kernel
theorem r287_213 : am_at 287 213 = some (.if_icmp .ne (27), 3, [240]) := by decide +kernel
theorem r287_216 : am_at 287 216 = some (.aload_n 1, 1, [1]) := by decide +kernel
theorem r287_217 : am_at 287 217 = some (.iload 4, 2, [4]) := by decide +kernel
theorem r287_219 : am_at 287 219 = some (.iconst (5), 1, []) := by decide +kernel
theorem r287_220 : am_at 287 220 = some (.ishr, 1, []) := by decide +kernel
theorem r287_221 : am_at 287 221 = some (.iconst (4), 1, []) := by decide +kernel
theorem r287_222 : am_at 287 222 = some (.invokestatic 33, 3, [289, 2, 447, 0]) := by decide +kernel
theorem r287_225 : am_at 287 225 = some (.iload 5, 2, [5]) := by decide +kernel
theorem r287_227 : am_at 287 227 = some (.iconst (4), 1, []) := by decide +kernel
theorem r287_228 : am_at 287 228 = some (.ishr, 1, []) := by decide +kernel
theorem r287_229 : am_at 287 229 = some (.bipush (28), 2, []) := by decide +kernel
theorem r287_231 : am_at 287 231 = some (.invokestatic 33, 3, [289, 2, 447, 0]) := by decide +kernel
theorem r287_234 : am_at 287 234 = some (.invokestatic 123, 3, [294, 3, 848, 0]) := by decide +kernel
theorem r287_237 : am_at 287 237 = some (.ifCond .eq (48), 3, [285]) := by decide +kernel
theorem r287_240 : am_at 287 240 = some (.aload_n 1, 1, [1]) := by decide +kernel
theorem r287_241 : am_at 287 241 = some (.iconst (0), 1, []) := by decide +kernel
theorem r287_242 : am_at 287 242 = some (.invokevirtual 13, 3, [22, 2, 385, 0]) := by decide +kernel
theorem r287_245 : am_at 287 245 = some (.iconst (1), 1, []) := by decide +kernel
theorem r287_246 : am_at 287 246 = some (.if_icmp .ne (14), 3, [260]) := by decide +kernel
theorem r287_249 : am_at 287 249 = some (.aload_n 1, 1, [1]) := by decide +kernel
theorem r287_250 : am_at 287 250 = some (.iload 5, 2, [5]) := by decide +kernel
theorem r287_252 : am_at 287 252 = some (.iconst (3), 1, []) := by decide +kernel
theorem r287_253 : am_at 287 253 = some (.ishr, 1, []) := by decide +kernel
theorem r287_254 : am_at 287 254 = some (.invokestatic 127, 3, [295, 2, 931, 0]) := by decide +kernel
theorem r287_257 : am_at 287 257 = some (.ifCond .eq (28), 3, [285]) := by decide +kernel
theorem r287_260 : am_at 287 260 = some (.iload_n 3, 1, [3]) := by decide +kernel
theorem r287_261 : am_at 287 261 = some (.bipush (29), 2, []) := by decide +kernel
theorem r287_263 : am_at 287 263 = some (.irem, 1, []) := by decide +kernel
theorem r287_264 : am_at 287 264 = some (.bipush (17), 2, []) := by decide +kernel
theorem r287_266 : am_at 287 266 = some (.if_icmp .ne (15), 3, [281]) := by decide +kernel
theorem r287_269 : am_at 287 269 = some (.aload_n 1, 1, [1]) := by decide +kernel
theorem r287_270 : am_at 287 270 = some (.invokevirtual 109, 3, [15, 1, 282, 0]) := by decide +kernel
theorem r287_273 : am_at 287 273 = some (.aload_n 1, 1, [1]) := by decide +kernel
theorem r287_274 : am_at 287 274 = some (.iconst (3), 1, []) := by decide +kernel
theorem r287_275 : am_at 287 275 = some (.invokevirtual 13, 3, [22, 2, 385, 0]) := by decide +kernel
theorem r287_278 : am_at 287 278 = some (.if_icmp .ne (7), 3, [285]) := by decide +kernel
theorem r287_281 : am_at 287 281 = some (.iconst (1), 1, []) := by decide +kernel
theorem r287_282 : am_at 287 282 = some (.goto (4), 3, [286]) := by decide +kernel
theorem r287_285 : am_at 287 285 = some (.iconst (0), 1, []) := by decide +kernel
theorem r287_286 : am_at 287 286 = some (.istore_n 2, 1, [2]) := by decide +kernel
theorem r287_287 : am_at 287 287 = some (.iinc 3 (1), 3, [3]) := by decide +kernel
theorem r287_290 : am_at 287 290 = some (.goto (-260), 3, [30]) := by decide +kernel
theorem r287_293 : am_at 287 293 = some (.iload_n 2, 1, [2]) := by decide +kernel
theorem r287_294 : am_at 287 294 = some (.ireturn, 1, []) := by decide +kernel
theorem r288_0 : am_at 288 0 = some (.iload_n 1, 1, [1]) := by decide +kernel
theorem r288_1 : am_at 288 1 = some (.aload_n 0, 1, [0]) := by decide +kernel
theorem r288_2 : am_at 288 2 = some (.arraylength, 1, []) := by decide +kernel
theorem r288_3 : am_at 288 3 = some (.if_icmp .ge (9), 3, [12]) := by decide +kernel
theorem r288_6 : am_at 288 6 = some (.aload_n 0, 1, [0]) := by decide +kernel
theorem r288_7 : am_at 288 7 = some (.iload_n 1, 1, [1]) := by decide +kernel
theorem r288_8 : am_at 288 8 = some (.iaload, 1, []) := by decide +kernel
theorem r288_9 : am_at 288 9 = some (.goto (11), 3, [20]) := by decide +kernel
theorem r288_12 : am_at 288 12 = some (.ldc 7, 2, [3, 446, 1812433253]) := by decide +kernel
theorem r288_14 : am_at 288 14 = some (.iload_n 1, 1, [1]) := by decide +kernel
theorem r288_15 : am_at 288 15 = some (.sipush (293), 3, []) := by decide +kernel
theorem r288_18 : am_at 288 18 = some (.iadd, 1, []) := by decide +kernel
theorem r288_19 : am_at 288 19 = some (.imul, 1, []) := by decide +kernel
theorem r288_20 : am_at 288 20 = some (.ireturn, 1, []) := by decide +kernel
/-- what a number of the script is -/
def v_cell (xs : Nat → Int32) (L k : Nat) : Int32 := if k < L then xs k else 1812433253 * (Int32.ofNat k + 293)
theorem m288_ok {k : Nat} (hL : L ≤ 2560) (hk : k < 4000) : am_Y xs L 288 3 0 0 [.ref 1000002, .int (Int32.ofNat k)] D (.inl (some (.int (v_cell xs L k)))) D :=
  am_Yof (mi := am_m288) (lc := [.ref 1000002, .int (Int32.ofNat k)]) pg288 (Nat.le_of_ble_eq_true rfl) (am_rc0 rfl) rfl (fun Q hQ => by
    refine x_ld (v := .int (Int32.ofNat k)) r288_0 rfl rfl rfl ?_
    refine x_ld (v := .ref 1000002) r288_1 rfl rfl rfl ?_
    refine y_alenX r288_2 rfl ?_
    unfold v_cell at hQ
    by_cases h : k < L
    · rw [if_pos h] at hQ
      refine x_icgeF r288_3 (q_nle (a := k) (b := L) (by omega) h) rfl ?_
      refine x_ld (v := .ref 1000002) r288_6 rfl rfl rfl ?_
      refine x_ld (v := .int (Int32.ofNat k)) r288_7 rfl rfl rfl ?_
      refine y_ialX (e := k) r288_8 ⟨(q_in (n := 4000) (i := k) (by omega) hk).1, by rw [q_tn (by omega)]; exact h⟩ (q_tn (by omega)) rfl ?_
      refine x_goto r288_9 ?_
      exact x_ret (ret := some .int) (C := True) (v := some (.int (xs k))) r288_20 rt288 rfl rfl rfl rfl rfl rfl rfl rfl trivial hQ
    · rw [if_neg h] at hQ
      refine x_icgeT r288_3 (q_yle (a := L) (b := k) (by omega) (by omega)) ?_
      refine x_sp r288_12 rfl rfl rfl rfl rfl rfl trivial rfl ?_
      refine x_ld (v := .int (Int32.ofNat k)) r288_14 rfl rfl rfl ?_
      refine x_si (v := 293) r288_15 rfl rfl ?_
      refine x_ar r288_18 rfl trivial rfl ?_
      refine x_ar r288_19 rfl trivial rfl ?_
      exact x_ret (ret := some .int) (C := True) (v := some (.int _)) r288_20 rt288 rfl rfl rfl rfl rfl rfl rfl rfl trivial hQ)
/-- what a call comes to that makes cells and brings a value -/
def am_V (xs : Nat → Int32) (L k d mc ms : Nat) (as : List Value) (h : am_AH) (v : Value) (h' : am_AH) : Prop :=
  (∃ mi, am_pg[k]? = some mi ∧ (am_args as).length ≤ mi.1.2.2.2.1 ∧ am_rcv mi as h = true) ∧ am_X xs L k d mc ms 0 (am_ent as (am_nl k)) [] h 0 0 (fun o' h'' => o' = .inl (some v) ∧ h'' = h')
theorem z_callV {k pc p' n : Nat} {lc st : List Value} {h h' : am_AH} {v : Value} {i : Instr} {k' na j nest d0 mc' ms' : Nat} {hq : List Nat} {as rest : List Value} (r : am_at k pc = some (i, 3, k' :: na :: j :: nest :: hq)) (hi : am_isInv i = true) (hst : st = as.reverse ++ rest) (hn : as.length = na) (hk : k' < 1000) (hcat : (rest.map fun v => v.category).sum ≤ 8)
    (hY : am_V xs L k' d0 mc' ms' as h v h') (hd : d0 + 1 ≤ d) (hc : c + mc' ≤ mc) (hs : s + ms' ≤ ms) (hl : h.length = n) (h1 : am_scp n lc = true) (h2 : am_scp n rest = true) (hp : pc + 3 = p') (kk : am_X xs L k d mc ms p' lc (v :: rest) h' (c + mc') (s + ms') Q) : am_X xs L k d mc ms pc lc st h c s Q := by
  subst hp; subst hl
  obtain ⟨n2, hn2⟩ := kk
  obtain ⟨⟨mi', g1, g2, g3⟩, n1, hn1⟩ := hY
  obtain ⟨e1, e2, e3, e4, e5, e6, e7⟩ := am_clS (xs := xs) (L := L) (lc := lc) (h := h) (pc := pc) (j := j) (hq := nest :: hq) hi hst hn hk hcat
  refine ⟨n1 + n2 + 1, ?_⟩
  unfold am_at at r
  obtain ⟨mi, f1, f2⟩ := Option.bind_eq_some_iff.mp r
  rw [am_w, f1]
  dsimp only
  rw [f2]
  dsimp only
  have hst2 : am_step xs L mc ms mi.1.2.2.2.2 (i, 3, k' :: na :: j :: nest :: hq) pc lc st h c s = some (True, .inr (.inl (k', as, rest))) := by unfold am_step; dsimp only; rw [e1]; dsimp only; rw [e2]; dsimp only; rw [e3]; dsimp only; rw [e4]; dsimp only; rw [e5]; dsimp only; rw [e6]; dsimp only; rw [e7]
  rw [hst2]
  obtain ⟨d1, rfl⟩ : ∃ d1, d = d1 + 1 := ⟨d - 1, by omega⟩
  have hnl : am_nl k' = mi'.1.2.2.2.1 := by unfold am_nl; rw [g1]; rfl
  rw [hnl] at hn1
  refine ⟨trivial, d1, mc', ms', mi', rfl, hc, hs, g1, g2, g3, ?_⟩
  refine am_w_mono n1 (n1 + n2) d0 d1 k' mc' mc' ms' ms' _ _ _ (by omega) (by omega) (Nat.le_refl _) (Nat.le_refl _) (fun o h'' hq => ?_) hn1
  obtain ⟨eo, eh⟩ := hq
  subst eo
  rw [eh]
  exact ⟨Or.inr (by rw [h1, h2]; rfl), am_w_mono n2 (n1 + n2) (d1 + 1) (d1 + 1) k mc mc ms ms _ _ _ (by omega) (Nat.le_refl _) (Nat.le_refl _) (Nat.le_refl _) (fun _ _ z => z) hn2⟩
/-- rows of ints only -/
def z_is (t : am_AH) : Prop := ∀ m, t.all (z_cl m) = true
theorem z_is_nil : z_is [] := fun _ => rfl
theorem z_is_c6 {f g : Nat → Int32} (h : z_is t) : z_is (t ++ [c6 f, c6 g]) := fun m => by
  rw [List.all_append, h m]
  rfl
theorem z_shB : am_sh.all (fun s => match s with
  | .inl (_, n, f) => (List.range n).all (fun j => match f j with | some x => decide (x < 106) | none => true)
  | .inr (_, l) => l.all (fun x => decide (x ≤ 107))) = true := by decide +kernel
theorem z_cell {D : am_D} {m b : Nat} {s2 : am_SH} (hm : 106 ≤ m) (h : am_sh[b]? = some s2) : z_cl m (am_cell D b s2) = true := by
  have hB := z_shB
  rw [List.all_eq_true] at hB
  have h2 := hB s2 (List.mem_of_getElem? h)
  match s2, h2 with
  | .inl (0, n, f), _ => rfl
  | .inl (1, n, f), _ => rfl
  | .inl (2, n, f), _ => rfl
  | .inl (t + 3, n, f), h2 =>
    show (List.range n).all (fun j => !(f j == some m)) = true
    have h2 : (List.range n).all (fun j => match f j with | some x => decide (x < 106) | none => true) = true := h2
    rw [List.all_eq_true] at h2 ⊢
    intro j hj
    have := h2 j hj
    cases hf : f j with
    | none => rfl
    | some x =>
      rw [hf] at this
      have hx : x < 106 := of_decide_eq_true this
      have : ¬ x = m := by omega
      simp [this]
  | .inr (ci, l), h2 =>
    show am_nv m (l.mapIdx (fun k c => am_fld D b k c)) = true
    have h2 : l.all (fun x => decide (x ≤ 107)) = true := h2
    rw [List.all_eq_true] at h2
    unfold am_nv
    rw [List.all_eq_true]
    intro v hv
    obtain ⟨k, hk, rfl⟩ := List.mem_mapIdx.mp hv
    have hx := of_decide_eq_true (h2 _ (List.getElem_mem hk))
    generalize l[k] = y at hx
    match y, hx with
    | 0, _ => rfl
    | 1, _ => rfl
    | p + 2, hx =>
      have : ¬ p = m := by omega
      show (!(p == m)) = true
      simp [this]
theorem z_mk_sc (hT : z_is t) {k : Nat} (hk : 106 ≤ k) : z_sc k (am_mk D ++ t) := fun m h1 h2 => by
  rw [z_fr, Bool.and_eq_true]
  refine ⟨decide_eq_true h2, ?_⟩
  rw [List.all_append, hT m, Bool.and_true, List.all_eq_true]
  intro e he
  obtain ⟨b, hb⟩ := List.getElem?_of_mem he
  rw [am_mk_at] at hb
  obtain ⟨s2, h3, rfl⟩ := Option.map_eq_some_iff.mp hb
  exact z_cell (by omega) h3
theorem m293_V {d0 : Nat} {r : Int32 × am_D} (ht : t.length ≤ 800000) (hT : z_is t) (hd : 56 ≤ d0) (h0 : D.1 200 = fun _ => 0) (h1 : D.1 201 = fun _ => 0) (h : m293 N D = some r) : am_V xs L 293 d0 2 12 [.ref 0] (am_mk D ++ t) (.int r.1) (am_mh t r.2) := by
  refine ⟨⟨am_m293, pg293, Nat.le_of_ble_eq_true rfl, am_rc0 rfl⟩, ?_⟩
  show am_X xs L 293 d0 2 12 0 [.ref 0, am_dead, am_dead, am_dead, am_dead, am_dead, am_dead, am_dead, am_dead, am_dead, am_dead] [] (am_mk D ++ t) 0 0 _
  have hl : (am_mk D ++ t).length = 106 + t.length := by rw [List.length_append, am_mk_len, am_sh_len]
  have e2 : ((am_mk D ++ t) ++ [c_I 6 (fun _ => 0)]) ++ [c_I 6 (fun _ => 0)] = am_mh t D := by
    unfold am_mh
    rw [h0, h1, List.append_assoc, List.append_assoc]
    rfl
  have hl2 : ((am_mk D ++ t) ++ [c_I 6 (fun _ => 0)]).length = 107 + t.length := by
    rw [List.length_append, hl]
    show 106 + t.length + 1 = _
    omega
  refine x_bi (v := 6) r293_0 rfl rfl ?_
  refine z_nai (n := 106 + t.length) (z := 6) r293_2 hl (by omega) (z_mk_sc hT (by omega)) (nv_r (by omega) (nv_d (nv_d (nv_d (nv_d (nv_d (nv_d (nv_d (nv_d (nv_d (nv_d nv_n))))))))))) nv_n (by decide) rfl (by decide) (by decide) (by decide) rfl rfl ?_
  refine x_sto (lc' := [.ref 0, .ref (106 + t.length), am_dead, am_dead, am_dead, am_dead, am_dead, am_dead, am_dead, am_dead, am_dead]) (st' := []) r293_4 rfl rfl rfl rfl ?_
  refine x_bi (v := 6) r293_5 rfl rfl ?_
  refine z_nai (n := 107 + t.length) (z := 6) r293_7 hl2 (by omega) (z_sc_app (z_mk_sc hT (k := 107 + t.length) (by omega)) (Nat.le_refl _) (fun m _ => z_alI z_al0)) (nv_r (by omega) (nv_r (by omega) (nv_d (nv_d (nv_d (nv_d (nv_d (nv_d (nv_d (nv_d (nv_d nv_n))))))))))) nv_n (by decide) rfl (by decide) (by decide) (by decide) e2 rfl ?_
  refine x_sto (lc' := [.ref 0, .ref (106 + t.length), .ref (107 + t.length), am_dead, am_dead, am_dead, am_dead, am_dead, am_dead, am_dead, am_dead]) (st' := []) r293_9 rfl rfl rfl rfl ?_
  exact m293_w ht hd h ⟨rfl, rfl⟩
theorem law_holds {pc p' : Nat} {lc : List Value} (hN : 2000 ≤ N) (hI : u_I D) (ht : t.length ≤ 800000) (hT : z_is t) (hd : 57 ≤ d) (r : am_at 287 pc = some (.invokestatic 112, 3, [293, 1, 778, 0])) (hsc : am_scp 106 lc = true) (hc : c + 2 ≤ mc) (hs : s + 12 ≤ ms) (hp : pc + 3 = p') (kk : ∀ D' t', u_I D' → q_E D D' → z_is t' → t'.length = t.length + 2 → am_X xs L 287 d mc ms p' lc [.int 1] (am_mk D' ++ t') (c + 2) (s + 12) Q) : am_X xs L 287 d mc ms pc lc [.ref 0] (am_mk D ++ t) c s Q := by
  obtain ⟨Z, hZ⟩ : ∃ Z, Z = am_uR (am_uR D 200 (fun _ => 0)) 201 (fun _ => 0) := ⟨_, rfl⟩
  have hE : q_E D Z := by
    rw [hZ]
    exact (q_E_uR (Or.inr (by omega))).tr (q_E_uR (Or.inr (by omega)))
  have g0 : Z.1 200 = fun _ => 0 := by
    rw [hZ]; rfl
  have g1 : Z.1 201 = fun _ => 0 := by
    rw [hZ]; rfl
  have emk : am_mk D = am_mk Z := am_mk_cg fun a ha => by
    rw [hZ]
    refine ⟨?_, rfl, rfl⟩
    funext i
    show D.1 a i = if a = 201 then (fun _ => (0 : Int32)) i else if a = 200 then (fun _ => (0 : Int32)) i else D.1 a i
    rw [if_neg (by omega), if_neg (by omega)]
  have hIZ := u_E_I hE hI
  obtain ⟨E, e1, e2⟩ := a_holds hN hIZ (fun w hw => by
    rw [g0, g1]
    exact ⟨rfl, rfl⟩)
  have hV := m293_V (xs := xs) (L := L) (d0 := 56) ht hT (Nat.le_refl _) g0 g1 e1
  rw [emk]
  refine z_callV (n := 106 + t.length) (as := [.ref 0]) (rest := []) (h' := am_mh t E) r rfl rfl rfl (by decide) (by decide) hV (by omega) hc hs (by rw [List.length_append, am_mk_len, am_sh_len]) (am_scp_le (by omega) hsc) rfl hp ?_
  exact kk E _ (u_E_I e2 hIZ) (hE.tr e2) (z_is_c6 hT) (by rw [List.length_append]; rfl)
theorem a_keep (hI : u_I D) : ∃ D', m15 D = (D.1 2 4, D') ∧ u_I (u_gh D') ∧ (u_gh D').1 0 7 = 1 ∧ (u_gh D').1 2 4 = D.1 2 4 := by
  obtain ⟨g1, g2, g3⟩ := q_cy_cs (b1 := 12) (b0 := 1) D (by omega)
  obtain ⟨-, b1, -, -, ⟨o, m, a1, a2, a3, a4, a5⟩, b5⟩ := hI
  have k : ∀ a, ¬ (a = 0 ∨ (12 ≤ a ∧ a ≤ 22)) → (am_uI (q_cy 12 1 D) 0 7 1).1 a = D.1 a := fun a ha => by
    rw [q_uI_ne _ (by omega)]
    exact g1 a (by omega)
  refine ⟨am_uI (q_cy 12 1 D) 0 7 1, ?_, u_gh_I ?_ (fun _ => ?_) (Or.inr ?_) ⟨o, m, a1, a2, ?_, ?_, fun j hj => ?_⟩ ?_, ?_, ?_⟩
  · unfold m15
    rw [q202_12_1]
    show ((am_uI (q_cy 12 1 D) 0 7 1).1 2 4, _) = _
    rw [k 2 (by omega)]
  · exact u_C_cg (fun i hi => k (1 + i) (by omega)) b1
  · refine u_C_w (c := q_c D 1) (fun i j hw => ?_) b1
    have hi : i ≤ 10 := by unfold q_w at hw; omega
    show (am_uI (q_cy 12 1 D) 0 7 1).1 (12 + i) j = D.1 (1 + i) j
    rw [q_uI_ne _ (by omega)]
    exact g2 i j hi hw
  · exact q_uIs _ _ _ _
  · rw [k 23 (by omega)]; exact a3
  · rw [k 23 (by omega)]; exact a4
  · exact u_C_cg (fun i hi => k (25 + 11 * ((o + j) % 6) + i) (by omega)) (a5 j hj)
  · intro f hf t ht
    show (q_cy 12 1 D).2.1 98 _ = _
    rw [g3]
    exact b5 f hf t ht
  · rw [u_gh_c (by omega)]
    exact q_uIs _ _ _ _
  · rw [u_gh_c (by omega), k 2 (by omega)]
end XA
