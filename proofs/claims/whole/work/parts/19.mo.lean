/-! methods as functions, with their walks (by wip/tools/decomp.py): 22 23 30 32 37 39 161 174 189 192 -/
section XE
variable {xs : Nat → Int32} {L : Nat}
theorem r22_0 : am_at 22 0 = some (.iload_n 1, 1, [1]) := by decide +kernel
theorem r22_1 : am_at 22 1 = some (.tableswitch (274) (0) (18) #[91, 99, 107, 115, 126, 138, 150, 161, 173, 185, 193, 201, 209, 217, 225, 234, 250, 258, 266], 91, [275, 0, 92, 1, 100, 2, 108, 3, 116, 4, 127, 5, 139, 6, 151, 7, 162, 8, 174, 9, 186, 10, 194, 11, 202, 12, 210, 13, 218, 14, 226, 15, 235, 16, 251, 17, 259, 18, 267]) := by decide +kernel
theorem r22_92 : am_at 22 92 = some (.aload_n 0, 1, [0]) := by decide +kernel
theorem r22_93 : am_at 22 93 = some (.getfield 10, 3, [7, 0, 3, 332]) := by decide +kernel
theorem r22_96 : am_at 22 96 = some (.getfield 98, 3, [4, 6, 0, 174]) := by decide +kernel
theorem r22_99 : am_at 22 99 = some (.ireturn, 1, []) := by decide +kernel
theorem r22_100 : am_at 22 100 = some (.aload_n 0, 1, [0]) := by decide +kernel
theorem r22_101 : am_at 22 101 = some (.getfield 10, 3, [7, 0, 3, 332]) := by decide +kernel
theorem r22_104 : am_at 22 104 = some (.getfield 310, 3, [4, 7, 0, 177]) := by decide +kernel
theorem r22_107 : am_at 22 107 = some (.ireturn, 1, []) := by decide +kernel
theorem r22_108 : am_at 22 108 = some (.aload_n 0, 1, [0]) := by decide +kernel
theorem r22_109 : am_at 22 109 = some (.getfield 10, 3, [7, 0, 3, 332]) := by decide +kernel
theorem r22_112 : am_at 22 112 = some (.getfield 313, 3, [4, 8, 0, 179]) := by decide +kernel
theorem r22_115 : am_at 22 115 = some (.ireturn, 1, []) := by decide +kernel
theorem r22_116 : am_at 22 116 = some (.aload_n 0, 1, [0]) := by decide +kernel
theorem r22_117 : am_at 22 117 = some (.getfield 10, 3, [7, 0, 3, 332]) := by decide +kernel
theorem r22_120 : am_at 22 120 = some (.getfield 210, 3, [4, 0, 3, 162]) := by decide +kernel
theorem r22_123 : am_at 22 123 = some (.getfield 214, 3, [0, 4, 0, 141]) := by decide +kernel
theorem r22_126 : am_at 22 126 = some (.ireturn, 1, []) := by decide +kernel
theorem r22_127 : am_at 22 127 = some (.aload_n 0, 1, [0]) := by decide +kernel
theorem r22_128 : am_at 22 128 = some (.getfield 10, 3, [7, 0, 3, 332]) := by decide +kernel
theorem r22_131 : am_at 22 131 = some (.getfield 210, 3, [4, 0, 3, 162]) := by decide +kernel
theorem r22_134 : am_at 22 134 = some (.iconst (0), 1, []) := by decide +kernel
theorem r22_135 : am_at 22 135 = some (.invokevirtual 316, 3, [156, 2, 424, 0]) := by decide +kernel
theorem r22_138 : am_at 22 138 = some (.ireturn, 1, []) := by decide +kernel
theorem r22_139 : am_at 22 139 = some (.aload_n 0, 1, [0]) := by decide +kernel
theorem r22_140 : am_at 22 140 = some (.getfield 10, 3, [7, 0, 3, 332]) := by decide +kernel
theorem r22_143 : am_at 22 143 = some (.getfield 210, 3, [4, 0, 3, 162]) := by decide +kernel
theorem r22_146 : am_at 22 146 = some (.iconst (1), 1, []) := by decide +kernel
theorem r22_147 : am_at 22 147 = some (.invokevirtual 316, 3, [156, 2, 424, 0]) := by decide +kernel
theorem r22_150 : am_at 22 150 = some (.ireturn, 1, []) := by decide +kernel
theorem r22_151 : am_at 22 151 = some (.aload_n 0, 1, [0]) := by decide +kernel
theorem r22_152 : am_at 22 152 = some (.getfield 10, 3, [7, 0, 3, 332]) := by decide +kernel
theorem r22_155 : am_at 22 155 = some (.getfield 210, 3, [4, 0, 3, 162]) := by decide +kernel
theorem r22_158 : am_at 22 158 = some (.invokevirtual 319, 3, [160, 1, 428, 0]) := by decide +kernel
theorem r22_161 : am_at 22 161 = some (.ireturn, 1, []) := by decide +kernel
theorem r22_162 : am_at 22 162 = some (.aload_n 0, 1, [0]) := by decide +kernel
theorem r22_163 : am_at 22 163 = some (.getfield 10, 3, [7, 0, 3, 332]) := by decide +kernel
theorem r22_166 : am_at 22 166 = some (.getfield 322, 3, [4, 5, 3, 172]) := by decide +kernel
theorem r22_169 : am_at 22 169 = some (.iconst (0), 1, []) := by decide +kernel
theorem r22_170 : am_at 22 170 = some (.invokestatic 250, 3, [180, 2, 449, 0]) := by decide +kernel
theorem r22_173 : am_at 22 173 = some (.ireturn, 1, []) := by decide +kernel
theorem r22_174 : am_at 22 174 = some (.aload_n 0, 1, [0]) := by decide +kernel
theorem r22_175 : am_at 22 175 = some (.getfield 10, 3, [7, 0, 3, 332]) := by decide +kernel
theorem r22_178 : am_at 22 178 = some (.getfield 322, 3, [4, 5, 3, 172]) := by decide +kernel
theorem r22_181 : am_at 22 181 = some (.iconst (1), 1, []) := by decide +kernel
theorem r22_182 : am_at 22 182 = some (.invokestatic 250, 3, [180, 2, 449, 0]) := by decide +kernel
theorem r22_185 : am_at 22 185 = some (.ireturn, 1, []) := by decide +kernel
theorem r22_186 : am_at 22 186 = some (.aload_n 0, 1, [0]) := by decide +kernel
theorem r22_187 : am_at 22 187 = some (.getfield 10, 3, [7, 0, 3, 332]) := by decide +kernel
theorem r22_190 : am_at 22 190 = some (.getfield 325, 3, [4, 12, 0, 188]) := by decide +kernel
theorem r22_193 : am_at 22 193 = some (.ireturn, 1, []) := by decide +kernel
theorem r22_194 : am_at 22 194 = some (.aload_n 0, 1, [0]) := by decide +kernel
theorem r22_195 : am_at 22 195 = some (.getfield 10, 3, [7, 0, 3, 332]) := by decide +kernel
theorem r22_198 : am_at 22 198 = some (.getfield 328, 3, [4, 13, 0, 190]) := by decide +kernel
theorem r22_201 : am_at 22 201 = some (.ireturn, 1, []) := by decide +kernel
theorem r22_202 : am_at 22 202 = some (.aload_n 0, 1, [0]) := by decide +kernel
theorem r22_203 : am_at 22 203 = some (.getfield 10, 3, [7, 0, 3, 332]) := by decide +kernel
theorem r22_206 : am_at 22 206 = some (.getfield 331, 3, [4, 14, 0, 192]) := by decide +kernel
theorem r22_209 : am_at 22 209 = some (.ireturn, 1, []) := by decide +kernel
theorem r22_210 : am_at 22 210 = some (.aload_n 0, 1, [0]) := by decide +kernel
theorem r22_211 : am_at 22 211 = some (.getfield 10, 3, [7, 0, 3, 332]) := by decide +kernel
theorem r22_214 : am_at 22 214 = some (.getfield 334, 3, [4, 11, 0, 186]) := by decide +kernel
theorem r22_217 : am_at 22 217 = some (.ireturn, 1, []) := by decide +kernel
theorem r22_218 : am_at 22 218 = some (.aload_n 0, 1, [0]) := by decide +kernel
theorem r22_219 : am_at 22 219 = some (.getfield 10, 3, [7, 0, 3, 332]) := by decide +kernel
theorem r22_222 : am_at 22 222 = some (.getfield 337, 3, [4, 15, 0, 194]) := by decide +kernel
theorem r22_225 : am_at 22 225 = some (.ireturn, 1, []) := by decide +kernel
theorem r22_226 : am_at 22 226 = some (.aload_n 0, 1, [0]) := by decide +kernel
theorem r22_227 : am_at 22 227 = some (.getfield 10, 3, [7, 0, 3, 332]) := by decide +kernel
theorem r22_230 : am_at 22 230 = some (.iconst (5), 1, []) := by decide +kernel
theorem r22_231 : am_at 22 231 = some (.invokevirtual 89, 3, [204, 2, 450, 0]) := by decide +kernel
theorem r22_234 : am_at 22 234 = some (.ireturn, 1, []) := by decide +kernel
theorem r22_235 : am_at 22 235 = some (.aload_n 0, 1, [0]) := by decide +kernel
theorem r22_236 : am_at 22 236 = some (.getfield 10, 3, [7, 0, 3, 332]) := by decide +kernel
theorem r22_239 : am_at 22 239 = some (.invokevirtual 340, 3, [219, 1, 451, 0]) := by decide +kernel
theorem r22_242 : am_at 22 242 = some (.ifCond .eq (7), 3, [249]) := by decide +kernel
theorem r22_245 : am_at 22 245 = some (.iconst (1), 1, []) := by decide +kernel
theorem r22_246 : am_at 22 246 = some (.goto (4), 3, [250]) := by decide +kernel
theorem r22_249 : am_at 22 249 = some (.iconst (0), 1, []) := by decide +kernel
theorem r22_250 : am_at 22 250 = some (.ireturn, 1, []) := by decide +kernel
theorem r22_251 : am_at 22 251 = some (.aload_n 0, 1, [0]) := by decide +kernel
theorem r22_252 : am_at 22 252 = some (.getfield 10, 3, [7, 0, 3, 332]) := by decide +kernel
theorem r22_255 : am_at 22 255 = some (.getfield 343, 3, [4, 9, 0, 181]) := by decide +kernel
theorem r22_258 : am_at 22 258 = some (.ireturn, 1, []) := by decide +kernel
theorem r22_259 : am_at 22 259 = some (.aload_n 0, 1, [0]) := by decide +kernel
theorem r22_260 : am_at 22 260 = some (.getfield 10, 3, [7, 0, 3, 332]) := by decide +kernel
theorem r22_263 : am_at 22 263 = some (.getfield 164, 3, [4, 10, 0, 183]) := by decide +kernel
theorem r22_266 : am_at 22 266 = some (.ireturn, 1, []) := by decide +kernel
theorem r22_267 : am_at 22 267 = some (.aload_n 0, 1, [0]) := by decide +kernel
theorem r22_268 : am_at 22 268 = some (.getfield 22, 3, [7, 2, 3, 334]) := by decide +kernel
theorem r22_271 : am_at 22 271 = some (.getfield 221, 3, [1, 2, 0, 240]) := by decide +kernel
theorem r22_274 : am_at 22 274 = some (.ireturn, 1, []) := by decide +kernel
theorem r22_275 : am_at 22 275 = some (.new 93, 3, [9, 2, 1, 346, 97, 455, 109, 0, 497]) := by decide +kernel
theorem rt22 : am_rtt 22 = some (some .int) := by decide +kernel
set_option maxRecDepth 100000 in
theorem pg22 : am_pg[22]? = some am_m22 := rfl
theorem m22_w {d mc ms : Nat} {N : Nat} {D : am_D} {v1 : Int32} {Q : am_O → am_AH → Prop} (hd : 5 ≤ d) {r : (Int32 ⊕ Nat)} (h : m22 N D v1 = some r) (hE : ∀ E, r = .inr E → 0 + 1 ≤ mc ∧ 0 + 6 ≤ ms) (hQ : Q (am_oI r) (am_mk D)) : am_X xs L 22 d mc ms 0 [.ref 0, .int v1] [] (am_mk D) 0 0 Q := by
  unfold m22 at h
  refine x_ld (v := .int v1) r22_0 rfl rfl rfl ?_
  rcases am_ifE h with ⟨c1, h⟩ | ⟨c1, h⟩
  · refine x_tsw (p' := 92) r22_1 (am_swT c1) ?_
    refine x_ld (v := .ref 0) r22_92 rfl rfl rfl ?_
    refine y_gf (cd := 3) (v := .ref 1) r22_93 rfl rfl rfl ?_
    refine y_gf (cd := 0) (v := .int (D.1 1 6)) r22_96 rfl rfl rfl ?_
    cases h
    exact x_ret (ret := some .int) (C := True) (v := some (.int _)) r22_99 rt22 rfl rfl rfl rfl rfl rfl rfl rfl trivial hQ
  · rcases am_ifE h with ⟨c2, h⟩ | ⟨c2, h⟩
    · refine x_tsw (p' := 100) r22_1 (am_swF c1 (am_swT c2)) ?_
      refine x_ld (v := .ref 0) r22_100 rfl rfl rfl ?_
      refine y_gf (cd := 3) (v := .ref 1) r22_101 rfl rfl rfl ?_
      refine y_gf (cd := 0) (v := .int (D.1 1 7)) r22_104 rfl rfl rfl ?_
      cases h
      exact x_ret (ret := some .int) (C := True) (v := some (.int _)) r22_107 rt22 rfl rfl rfl rfl rfl rfl rfl rfl trivial hQ
    · rcases am_ifE h with ⟨c3, h⟩ | ⟨c3, h⟩
      · refine x_tsw (p' := 108) r22_1 (am_swF c1 (am_swF c2 (am_swT c3))) ?_
        refine x_ld (v := .ref 0) r22_108 rfl rfl rfl ?_
        refine y_gf (cd := 3) (v := .ref 1) r22_109 rfl rfl rfl ?_
        refine y_gf (cd := 0) (v := .int (D.1 1 8)) r22_112 rfl rfl rfl ?_
        cases h
        exact x_ret (ret := some .int) (C := True) (v := some (.int _)) r22_115 rt22 rfl rfl rfl rfl rfl rfl rfl rfl trivial hQ
      · rcases am_ifE h with ⟨c4, h⟩ | ⟨c4, h⟩
        · refine x_tsw (p' := 116) r22_1 (am_swF c1 (am_swF c2 (am_swF c3 (am_swT c4)))) ?_
          refine x_ld (v := .ref 0) r22_116 rfl rfl rfl ?_
          refine y_gf (cd := 3) (v := .ref 1) r22_117 rfl rfl rfl ?_
          refine y_gf (cd := 4) (v := .ref 2) r22_120 rfl rfl rfl ?_
          refine y_gf (cd := 0) (v := .int (D.1 2 4)) r22_123 rfl rfl rfl ?_
          cases h
          exact x_ret (ret := some .int) (C := True) (v := some (.int _)) r22_126 rt22 rfl rfl rfl rfl rfl rfl rfl rfl trivial hQ
        · rcases am_ifE h with ⟨c5, h⟩ | ⟨c5, h⟩
          · refine x_tsw (p' := 127) r22_1 (am_swF c1 (am_swF c2 (am_swF c3 (am_swF c4 (am_swT c5))))) ?_
            refine x_ld (v := .ref 0) r22_127 rfl rfl rfl ?_
            refine y_gf (cd := 3) (v := .ref 1) r22_128 rfl rfl rfl ?_
            refine y_gf (cd := 4) (v := .ref 2) r22_131 rfl rfl rfl ?_
            refine x_ic (v := 0) r22_134 rfl rfl ?_
            refine x_call1 (as := [.ref 2, .int (0 : Int32)]) (rest := []) r22_135 rfl rfl rfl (by decide) (Nat.le_of_ble_eq_true rfl) (m156_ok rfl) (Nat.le_trans (by decide) hd) (Nat.zero_le _) (Nat.zero_le _) rfl ?_
            cases h
            exact x_ret (ret := some .int) (C := True) (v := some (.int _)) r22_138 rt22 rfl rfl rfl rfl rfl rfl rfl rfl trivial hQ
          · rcases am_ifE h with ⟨c6, h⟩ | ⟨c6, h⟩
            · refine x_tsw (p' := 139) r22_1 (am_swF c1 (am_swF c2 (am_swF c3 (am_swF c4 (am_swF c5 (am_swT c6)))))) ?_
              refine x_ld (v := .ref 0) r22_139 rfl rfl rfl ?_
              refine y_gf (cd := 3) (v := .ref 1) r22_140 rfl rfl rfl ?_
              refine y_gf (cd := 4) (v := .ref 2) r22_143 rfl rfl rfl ?_
              refine x_ic (v := 1) r22_146 rfl rfl ?_
              refine x_call1 (as := [.ref 2, .int (1 : Int32)]) (rest := []) r22_147 rfl rfl rfl (by decide) (Nat.le_of_ble_eq_true rfl) (m156_ok rfl) (Nat.le_trans (by decide) hd) (Nat.zero_le _) (Nat.zero_le _) rfl ?_
              cases h
              exact x_ret (ret := some .int) (C := True) (v := some (.int _)) r22_150 rt22 rfl rfl rfl rfl rfl rfl rfl rfl trivial hQ
            · rcases am_ifE h with ⟨c7, h⟩ | ⟨c7, h⟩
              · refine x_tsw (p' := 151) r22_1 (am_swF c1 (am_swF c2 (am_swF c3 (am_swF c4 (am_swF c5 (am_swF c6 (am_swT c7))))))) ?_
                refine x_ld (v := .ref 0) r22_151 rfl rfl rfl ?_
                refine y_gf (cd := 3) (v := .ref 1) r22_152 rfl rfl rfl ?_
                refine y_gf (cd := 4) (v := .ref 2) r22_155 rfl rfl rfl ?_
                refine x_call1 (as := [.ref 2]) (rest := []) r22_158 rfl rfl rfl (by decide) (Nat.le_of_ble_eq_true rfl) (m160_ok rfl) (Nat.le_trans (by decide) hd) (Nat.zero_le _) (Nat.zero_le _) rfl ?_
                cases h
                exact x_ret (ret := some .int) (C := True) (v := some (.int _)) r22_161 rt22 rfl rfl rfl rfl rfl rfl rfl rfl trivial hQ
              · rcases am_ifE h with ⟨c8, h⟩ | ⟨c8, h⟩
                · refine x_tsw (p' := 162) r22_1 (am_swF c1 (am_swF c2 (am_swF c3 (am_swF c4 (am_swF c5 (am_swF c6 (am_swF c7 (am_swT c8)))))))) ?_
                  refine x_ld (v := .ref 0) r22_162 rfl rfl rfl ?_
                  refine y_gf (cd := 3) (v := .ref 1) r22_163 rfl rfl rfl ?_
                  refine y_gf (cd := 13) (v := .ref 11) r22_166 rfl rfl rfl ?_
                  refine x_ic (v := 0) r22_169 rfl rfl ?_
                  refine x_call1 (as := [.ref 11, .int (0 : Int32)]) (rest := []) r22_170 rfl rfl rfl (by decide) (Nat.le_of_ble_eq_true rfl) (am_rows_at (n := 2) rfl (by decide)) (Nat.le_trans (by decide) hd) (Nat.zero_le _) (Nat.zero_le _) rfl ?_
                  cases h
                  exact x_ret (ret := some .int) (C := True) (v := some (.int _)) r22_173 rt22 rfl rfl rfl rfl rfl rfl rfl rfl trivial hQ
                · rcases am_ifE h with ⟨c9, h⟩ | ⟨c9, h⟩
                  · refine x_tsw (p' := 174) r22_1 (am_swF c1 (am_swF c2 (am_swF c3 (am_swF c4 (am_swF c5 (am_swF c6 (am_swF c7 (am_swF c8 (am_swT c9))))))))) ?_
                    refine x_ld (v := .ref 0) r22_174 rfl rfl rfl ?_
                    refine y_gf (cd := 3) (v := .ref 1) r22_175 rfl rfl rfl ?_
                    refine y_gf (cd := 13) (v := .ref 11) r22_178 rfl rfl rfl ?_
                    refine x_ic (v := 1) r22_181 rfl rfl ?_
                    refine x_call1 (as := [.ref 11, .int (1 : Int32)]) (rest := []) r22_182 rfl rfl rfl (by decide) (Nat.le_of_ble_eq_true rfl) (am_rows_at (n := 2) rfl (by decide)) (Nat.le_trans (by decide) hd) (Nat.zero_le _) (Nat.zero_le _) rfl ?_
                    cases h
                    exact x_ret (ret := some .int) (C := True) (v := some (.int _)) r22_185 rt22 rfl rfl rfl rfl rfl rfl rfl rfl trivial hQ
                  · rcases am_ifE h with ⟨c10, h⟩ | ⟨c10, h⟩
                    · refine x_tsw (p' := 186) r22_1 (am_swF c1 (am_swF c2 (am_swF c3 (am_swF c4 (am_swF c5 (am_swF c6 (am_swF c7 (am_swF c8 (am_swF c9 (am_swT c10)))))))))) ?_
                      refine x_ld (v := .ref 0) r22_186 rfl rfl rfl ?_
                      refine y_gf (cd := 3) (v := .ref 1) r22_187 rfl rfl rfl ?_
                      refine y_gf (cd := 0) (v := .int (D.1 1 12)) r22_190 rfl rfl rfl ?_
                      cases h
                      exact x_ret (ret := some .int) (C := True) (v := some (.int _)) r22_193 rt22 rfl rfl rfl rfl rfl rfl rfl rfl trivial hQ
                    · rcases am_ifE h with ⟨c11, h⟩ | ⟨c11, h⟩
                      · refine x_tsw (p' := 194) r22_1 (am_swF c1 (am_swF c2 (am_swF c3 (am_swF c4 (am_swF c5 (am_swF c6 (am_swF c7 (am_swF c8 (am_swF c9 (am_swF c10 (am_swT c11))))))))))) ?_
                        refine x_ld (v := .ref 0) r22_194 rfl rfl rfl ?_
                        refine y_gf (cd := 3) (v := .ref 1) r22_195 rfl rfl rfl ?_
                        refine y_gf (cd := 0) (v := .int (D.1 1 13)) r22_198 rfl rfl rfl ?_
                        cases h
                        exact x_ret (ret := some .int) (C := True) (v := some (.int _)) r22_201 rt22 rfl rfl rfl rfl rfl rfl rfl rfl trivial hQ
                      · rcases am_ifE h with ⟨c12, h⟩ | ⟨c12, h⟩
                        · refine x_tsw (p' := 202) r22_1 (am_swF c1 (am_swF c2 (am_swF c3 (am_swF c4 (am_swF c5 (am_swF c6 (am_swF c7 (am_swF c8 (am_swF c9 (am_swF c10 (am_swF c11 (am_swT c12)))))))))))) ?_
                          refine x_ld (v := .ref 0) r22_202 rfl rfl rfl ?_
                          refine y_gf (cd := 3) (v := .ref 1) r22_203 rfl rfl rfl ?_
                          refine y_gf (cd := 0) (v := .int (D.1 1 14)) r22_206 rfl rfl rfl ?_
                          cases h
                          exact x_ret (ret := some .int) (C := True) (v := some (.int _)) r22_209 rt22 rfl rfl rfl rfl rfl rfl rfl rfl trivial hQ
                        · rcases am_ifE h with ⟨c13, h⟩ | ⟨c13, h⟩
                          · refine x_tsw (p' := 210) r22_1 (am_swF c1 (am_swF c2 (am_swF c3 (am_swF c4 (am_swF c5 (am_swF c6 (am_swF c7 (am_swF c8 (am_swF c9 (am_swF c10 (am_swF c11 (am_swF c12 (am_swT c13))))))))))))) ?_
                            refine x_ld (v := .ref 0) r22_210 rfl rfl rfl ?_
                            refine y_gf (cd := 3) (v := .ref 1) r22_211 rfl rfl rfl ?_
                            refine y_gf (cd := 0) (v := .int (D.1 1 11)) r22_214 rfl rfl rfl ?_
                            cases h
                            exact x_ret (ret := some .int) (C := True) (v := some (.int _)) r22_217 rt22 rfl rfl rfl rfl rfl rfl rfl rfl trivial hQ
                          · rcases am_ifE h with ⟨c14, h⟩ | ⟨c14, h⟩
                            · refine x_tsw (p' := 218) r22_1 (am_swF c1 (am_swF c2 (am_swF c3 (am_swF c4 (am_swF c5 (am_swF c6 (am_swF c7 (am_swF c8 (am_swF c9 (am_swF c10 (am_swF c11 (am_swF c12 (am_swF c13 (am_swT c14)))))))))))))) ?_
                              refine x_ld (v := .ref 0) r22_218 rfl rfl rfl ?_
                              refine y_gf (cd := 3) (v := .ref 1) r22_219 rfl rfl rfl ?_
                              refine y_gf (cd := 0) (v := .int (D.1 1 15)) r22_222 rfl rfl rfl ?_
                              cases h
                              exact x_ret (ret := some .int) (C := True) (v := some (.int _)) r22_225 rt22 rfl rfl rfl rfl rfl rfl rfl rfl trivial hQ
                            · rcases am_ifE h with ⟨c15, h⟩ | ⟨c15, h⟩
                              · refine x_tsw (p' := 226) r22_1 (am_swF c1 (am_swF c2 (am_swF c3 (am_swF c4 (am_swF c5 (am_swF c6 (am_swF c7 (am_swF c8 (am_swF c9 (am_swF c10 (am_swF c11 (am_swF c12 (am_swF c13 (am_swF c14 (am_swT c15))))))))))))))) ?_
                                refine x_ld (v := .ref 0) r22_226 rfl rfl rfl ?_
                                refine y_gf (cd := 3) (v := .ref 1) r22_227 rfl rfl rfl ?_
                                refine x_ic (v := 5) r22_230 rfl rfl ?_
                                obtain ⟨q16, h17, h⟩ := Option.bind_eq_some_iff.mp h
                                refine x_call1 (as := [.ref 1, .int (5 : Int32)]) (rest := []) r22_231 rfl rfl rfl (by decide) (Nat.le_of_ble_eq_true rfl) (m204_ok h17) (Nat.le_trans (by decide) hd) (Nat.zero_le _) (Nat.zero_le _) rfl ?_
                                cases h
                                exact x_ret (ret := some .int) (C := True) (v := some (.int _)) r22_234 rt22 rfl rfl rfl rfl rfl rfl rfl rfl trivial hQ
                              · rcases am_ifE h with ⟨c18, h⟩ | ⟨c18, h⟩
                                · refine x_tsw (p' := 235) r22_1 (am_swF c1 (am_swF c2 (am_swF c3 (am_swF c4 (am_swF c5 (am_swF c6 (am_swF c7 (am_swF c8 (am_swF c9 (am_swF c10 (am_swF c11 (am_swF c12 (am_swF c13 (am_swF c14 (am_swF c15 (am_swT c18)))))))))))))))) ?_
                                  refine x_ld (v := .ref 0) r22_235 rfl rfl rfl ?_
                                  refine y_gf (cd := 3) (v := .ref 1) r22_236 rfl rfl rfl ?_
                                  refine x_call1 (as := [.ref 1]) (rest := []) r22_239 rfl rfl rfl (by decide) (Nat.le_of_ble_eq_true rfl) (m219_ok rfl) (Nat.le_trans (by decide) hd) (Nat.zero_le _) (Nat.zero_le _) rfl ?_
                                  rcases am_ifE h with ⟨c19, h⟩ | ⟨c19, h⟩
                                  · refine x_ifeqT r22_242 c19 ?_
                                    refine x_ic (v := 0) r22_249 rfl rfl ?_
                                    cases h
                                    exact x_ret (ret := some .int) (C := True) (v := some (.int _)) r22_250 rt22 rfl rfl rfl rfl rfl rfl rfl rfl trivial hQ
                                  · refine x_ifeqF r22_242 c19 rfl ?_
                                    refine x_ic (v := 1) r22_245 rfl rfl ?_
                                    refine x_goto r22_246 ?_
                                    cases h
                                    exact x_ret (ret := some .int) (C := True) (v := some (.int _)) r22_250 rt22 rfl rfl rfl rfl rfl rfl rfl rfl trivial hQ
                                · rcases am_ifE h with ⟨c20, h⟩ | ⟨c20, h⟩
                                  · refine x_tsw (p' := 251) r22_1 (am_swF c1 (am_swF c2 (am_swF c3 (am_swF c4 (am_swF c5 (am_swF c6 (am_swF c7 (am_swF c8 (am_swF c9 (am_swF c10 (am_swF c11 (am_swF c12 (am_swF c13 (am_swF c14 (am_swF c15 (am_swF c18 (am_swT c20))))))))))))))))) ?_
                                    refine x_ld (v := .ref 0) r22_251 rfl rfl rfl ?_
                                    refine y_gf (cd := 3) (v := .ref 1) r22_252 rfl rfl rfl ?_
                                    refine y_gf (cd := 0) (v := .int (D.1 1 9)) r22_255 rfl rfl rfl ?_
                                    cases h
                                    exact x_ret (ret := some .int) (C := True) (v := some (.int _)) r22_258 rt22 rfl rfl rfl rfl rfl rfl rfl rfl trivial hQ
                                  · rcases am_ifE h with ⟨c21, h⟩ | ⟨c21, h⟩
                                    · refine x_tsw (p' := 259) r22_1 (am_swF c1 (am_swF c2 (am_swF c3 (am_swF c4 (am_swF c5 (am_swF c6 (am_swF c7 (am_swF c8 (am_swF c9 (am_swF c10 (am_swF c11 (am_swF c12 (am_swF c13 (am_swF c14 (am_swF c15 (am_swF c18 (am_swF c20 (am_swT c21)))))))))))))))))) ?_
                                      refine x_ld (v := .ref 0) r22_259 rfl rfl rfl ?_
                                      refine y_gf (cd := 3) (v := .ref 1) r22_260 rfl rfl rfl ?_
                                      refine y_gf (cd := 0) (v := .int (D.1 1 10)) r22_263 rfl rfl rfl ?_
                                      cases h
                                      exact x_ret (ret := some .int) (C := True) (v := some (.int _)) r22_266 rt22 rfl rfl rfl rfl rfl rfl rfl rfl trivial hQ
                                    · rcases am_ifE h with ⟨c22, h⟩ | ⟨c22, h⟩
                                      · refine x_tsw (p' := 267) r22_1 (am_swF c1 (am_swF c2 (am_swF c3 (am_swF c4 (am_swF c5 (am_swF c6 (am_swF c7 (am_swF c8 (am_swF c9 (am_swF c10 (am_swF c11 (am_swF c12 (am_swF c13 (am_swF c14 (am_swF c15 (am_swF c18 (am_swF c20 (am_swF c21 (am_swT c22))))))))))))))))))) ?_
                                        refine x_ld (v := .ref 0) r22_267 rfl rfl rfl ?_
                                        refine y_gf (cd := 25) (v := .ref 23) r22_268 rfl rfl rfl ?_
                                        refine y_gf (cd := 0) (v := .int (D.1 23 2)) r22_271 rfl rfl rfl ?_
                                        cases h
                                        exact x_ret (ret := some .int) (C := True) (v := some (.int _)) r22_274 rt22 rfl rfl rfl rfl rfl rfl rfl rfl trivial hQ
                                      · refine x_tsw (p' := 275) r22_1 (am_swF c1 (am_swF c2 (am_swF c3 (am_swF c4 (am_swF c5 (am_swF c6 (am_swF c7 (am_swF c8 (am_swF c9 (am_swF c10 (am_swF c11 (am_swF c12 (am_swF c13 (am_swF c14 (am_swF c15 (am_swF c18 (am_swF c20 (am_swF c21 (am_swF c22 (rfl)))))))))))))))))))) ?_
                                        cases h
                                        exact x_thr r22_275 (hE _ rfl).1 (hE _ rfl).2 (Nat.le_of_ble_eq_true rfl) hQ
theorem m22_okv {N : Nat} {D : am_D} {v1 : Int32} {r : (Int32 ⊕ Nat)} {v : Int32} (h : m22 N D v1 = some r) (hv : am_inl r = some v) : am_Y xs L 22 5 0 0 [.ref 0, .int v1] D (.inl (some (.int v))) D := am_Yof (mi := am_m22) (lc := [.ref 0, .int v1]) pg22 (Nat.le_of_ble_eq_true rfl) (am_rc1 (ci := 7) rfl rfl rfl rfl rfl) rfl (fun Q hQ => m22_w (Nat.le_refl _) h (fun E e => by rw [e] at hv; cases hv) (by rw [am_inlE hv]; exact hQ))
theorem m22_exv {N : Nat} {D : am_D} {v1 : Int32} {r : (Int32 ⊕ Nat)} {E : Nat} (h : m22 N D v1 = some r) (hv : r = .inr E) : am_Y xs L 22 5 1 6 [.ref 0, .int v1] D (.inr E) D := am_Yof (mi := am_m22) (lc := [.ref 0, .int v1]) pg22 (Nat.le_of_ble_eq_true rfl) (am_rc1 (ci := 7) rfl rfl rfl rfl rfl) rfl (fun Q hQ => m22_w (Nat.le_refl _) h (fun E e => ⟨Nat.le_refl _, Nat.le_refl _⟩) (by rw [hv]; exact hQ))
theorem r23_0 : am_at 23 0 = some (.iload_n 1, 1, [1]) := by decide +kernel
theorem r23_1 : am_at 23 1 = some (.invokestatic 58, 3, [40, 1, 589, 0]) := by decide +kernel
theorem r23_4 : am_at 23 4 = some (.ifCond .eq (10), 3, [14]) := by decide +kernel
theorem r23_7 : am_at 23 7 = some (.iload_n 2, 1, [2]) := by decide +kernel
theorem r23_8 : am_at 23 8 = some (.invokestatic 62, 3, [41, 1, 531, 0]) := by decide +kernel
theorem r23_11 : am_at 23 11 = some (.ifCond .ne (13), 3, [24]) := by decide +kernel
theorem r23_14 : am_at 23 14 = some (.new 65, 3, [9, 1, 0, 67, 69, 534, 104, 8, 544]) := by decide +kernel
theorem r23_24 : am_at 23 24 = some (.iload_n 3, 1, [3]) := by decide +kernel
theorem r23_25 : am_at 23 25 = some (.invokestatic 128, 3, [43, 1, 637, 0]) := by decide +kernel
theorem r23_28 : am_at 23 28 = some (.ifCond .ne (13), 3, [41]) := by decide +kernel
theorem r23_31 : am_at 23 31 = some (.new 93, 3, [9, 2, 0, 131, 97, 455, 109, 15, 497]) := by decide +kernel
theorem r23_41 : am_at 23 41 = some (.aload_n 0, 1, [0]) := by decide +kernel
theorem r23_42 : am_at 23 42 = some (.getfield 10, 3, [7, 0, 3, 332]) := by decide +kernel
theorem r23_45 : am_at 23 45 = some (.iload_n 1, 1, [1]) := by decide +kernel
theorem r23_46 : am_at 23 46 = some (.iload_n 2, 1, [2]) := by decide +kernel
theorem r23_47 : am_at 23 47 = some (.iload_n 3, 1, [3]) := by decide +kernel
theorem r23_48 : am_at 23 48 = some (.invokevirtual 133, 3, [220, 4, 896, 0]) := by decide +kernel
theorem r23_51 : am_at 23 51 = some (.ireturn, 1, []) := by decide +kernel
theorem rt23 : am_rtt 23 = some (some .int) := by decide +kernel
set_option maxRecDepth 100000 in
theorem pg23 : am_pg[23]? = some am_m23 := rfl
theorem m23_w {d mc ms : Nat} {D : am_D} {v1 : Int32} {v2 : Int32} {v3 : Int32} {Q : am_O → am_AH → Prop} (hd : 5 ≤ d) {r : (Int32 ⊕ Nat)} (h : m23 D v1 v2 v3 = r) (hE : ∀ E, r = .inr E → 0 + 1 ≤ mc ∧ 0 + 6 ≤ ms) (hQ : Q (am_oI r) (am_mk D)) : am_X xs L 23 d mc ms 0 [.ref 0, .int v1, .int v2, .int v3] [] (am_mk D) 0 0 Q := by
  unfold m23 at h
  refine x_ld (v := .int v1) r23_0 rfl rfl rfl ?_
  refine x_call1 (as := [.int v1]) (rest := []) r23_1 rfl rfl rfl (by decide) (Nat.le_of_ble_eq_true rfl) (m40_ok rfl) (Nat.le_trans (by decide) hd) (Nat.zero_le _) (Nat.zero_le _) rfl ?_
  rcases am_ifE h with ⟨c1, h⟩ | ⟨c1, h⟩
  · refine x_ifeqT r23_4 c1 ?_
    subst h
    exact x_thr r23_14 (hE _ rfl).1 (hE _ rfl).2 (Nat.le_of_ble_eq_true rfl) hQ
  · refine x_ifeqF r23_4 c1 rfl ?_
    refine x_ld (v := .int v2) r23_7 rfl rfl rfl ?_
    refine x_call1 (as := [.int v2]) (rest := []) r23_8 rfl rfl rfl (by decide) (Nat.le_of_ble_eq_true rfl) (m41_ok rfl) (Nat.le_trans (by decide) hd) (Nat.zero_le _) (Nat.zero_le _) rfl ?_
    rcases am_ifE h with ⟨c2, h⟩ | ⟨c2, h⟩
    · refine x_ifneT r23_11 c2 rfl ?_
      subst h
      exact x_thr r23_14 (hE _ rfl).1 (hE _ rfl).2 (Nat.le_of_ble_eq_true rfl) hQ
    · refine x_ifneF r23_11 c2 ?_
      refine x_ld (v := .int v3) r23_24 rfl rfl rfl ?_
      refine x_call1 (as := [.int v3]) (rest := []) r23_25 rfl rfl rfl (by decide) (Nat.le_of_ble_eq_true rfl) (m43_ok rfl) (Nat.le_trans (by decide) hd) (Nat.zero_le _) (Nat.zero_le _) rfl ?_
      rcases am_ifE h with ⟨c3, h⟩ | ⟨c3, h⟩
      · refine x_ifneT r23_28 c3 rfl ?_
        subst h
        exact x_thr r23_31 (hE _ rfl).1 (hE _ rfl).2 (Nat.le_of_ble_eq_true rfl) hQ
      · refine x_ifneF r23_28 c3 ?_
        refine x_ld (v := .ref 0) r23_41 rfl rfl rfl ?_
        refine y_gf (cd := 3) (v := .ref 1) r23_42 rfl rfl rfl ?_
        refine x_ld (v := .int v1) r23_45 rfl rfl rfl ?_
        refine x_ld (v := .int v2) r23_46 rfl rfl rfl ?_
        refine x_ld (v := .int v3) r23_47 rfl rfl rfl ?_
        refine x_call1 (as := [.ref 1, .int v1, .int v2, .int v3]) (rest := []) r23_48 rfl rfl rfl (by decide) (Nat.le_of_ble_eq_true rfl) (m220_ok rfl) (Nat.le_trans (by decide) hd) (Nat.zero_le _) (Nat.zero_le _) rfl ?_
        subst h
        exact x_ret (ret := some .int) (C := True) (v := some (.int _)) r23_51 rt23 rfl rfl rfl rfl rfl rfl rfl rfl trivial hQ
theorem m23_okv {D : am_D} {v1 : Int32} {v2 : Int32} {v3 : Int32} {r : (Int32 ⊕ Nat)} {v : Int32} (h : m23 D v1 v2 v3 = r) (hv : am_inl r = some v) : am_Y xs L 23 5 0 0 [.ref 0, .int v1, .int v2, .int v3] D (.inl (some (.int v))) D := am_Yof (mi := am_m23) (lc := [.ref 0, .int v1, .int v2, .int v3]) pg23 (Nat.le_of_ble_eq_true rfl) (am_rc1 (ci := 7) rfl rfl rfl rfl rfl) rfl (fun Q hQ => m23_w (Nat.le_refl _) h (fun E e => by rw [e] at hv; cases hv) (by rw [am_inlE hv]; exact hQ))
theorem m23_exv {D : am_D} {v1 : Int32} {v2 : Int32} {v3 : Int32} {r : (Int32 ⊕ Nat)} {E : Nat} (h : m23 D v1 v2 v3 = r) (hv : r = .inr E) : am_Y xs L 23 5 1 6 [.ref 0, .int v1, .int v2, .int v3] D (.inr E) D := am_Yof (mi := am_m23) (lc := [.ref 0, .int v1, .int v2, .int v3]) pg23 (Nat.le_of_ble_eq_true rfl) (am_rc1 (ci := 7) rfl rfl rfl rfl rfl) rfl (fun Q hQ => m23_w (Nat.le_refl _) h (fun E e => ⟨Nat.le_refl _, Nat.le_refl _⟩) (by rw [hv]; exact hQ))
theorem r30_0 : am_at 30 0 = some (.aload_n 0, 1, [0]) := by decide +kernel
theorem r30_1 : am_at 30 1 = some (.getfield 10, 3, [7, 0, 3, 332]) := by decide +kernel
theorem r30_4 : am_at 30 4 = some (.invokevirtual 399, 3, [210, 1, 391, 0]) := by decide +kernel
theorem r30_7 : am_at 30 7 = some (.istore_n 1, 1, [1]) := by decide +kernel
theorem r30_8 : am_at 30 8 = some (.iload_n 1, 1, [1]) := by decide +kernel
theorem r30_9 : am_at 30 9 = some (.ifCond .ne (7), 3, [16]) := by decide +kernel
theorem r30_12 : am_at 30 12 = some (.fconst 0, 1, []) := by decide +kernel
theorem r30_13 : am_at 30 13 = some (.goto (14), 3, [27]) := by decide +kernel
theorem r30_16 : am_at 30 16 = some (.aload_n 0, 1, [0]) := by decide +kernel
theorem r30_17 : am_at 30 17 = some (.getfield 10, 3, [7, 0, 3, 332]) := by decide +kernel
theorem r30_20 : am_at 30 20 = some (.invokevirtual 413, 3, [211, 1, 399, 0]) := by decide +kernel
theorem r30_23 : am_at 30 23 = some (.i2f, 1, []) := by decide +kernel
theorem r30_24 : am_at 30 24 = some (.iload_n 1, 1, [1]) := by decide +kernel
theorem r30_25 : am_at 30 25 = some (.i2f, 1, []) := by decide +kernel
theorem r30_26 : am_at 30 26 = some (.fdiv, 1, []) := by decide +kernel
theorem r30_27 : am_at 30 27 = some (.freturn, 1, []) := by decide +kernel
theorem rt30 : am_rtt 30 = some (some .float) := by decide +kernel
set_option maxRecDepth 100000 in
theorem pg30 : am_pg[30]? = some am_m30 := rfl
theorem m30_w {d mc ms : Nat} {N : Nat} {D : am_D} {Q : am_O → am_AH → Prop} (hd : 4 ≤ d) {r : UInt32} (h : m30 N D = some r) (hQ : Q (.inl (some (.float r))) (am_mk D)) : am_X xs L 30 d mc ms 0 [.ref 0, am_dead] [] (am_mk D) 0 0 Q := by
  unfold m30 at h
  refine x_ld (v := .ref 0) r30_0 rfl rfl rfl ?_
  refine y_gf (cd := 3) (v := .ref 1) r30_1 rfl rfl rfl ?_
  obtain ⟨q1, h2, h⟩ := Option.bind_eq_some_iff.mp h
  refine x_call1 (as := [.ref 1]) (rest := []) r30_4 rfl rfl rfl (by decide) (Nat.le_of_ble_eq_true rfl) (m210_ok h2) (Nat.le_trans (by decide) hd) (Nat.zero_le _) (Nat.zero_le _) rfl ?_
  refine x_sto (lc' := [.ref 0, .int q1]) r30_7 rfl rfl rfl rfl ?_
  refine x_ld (v := .int q1) r30_8 rfl rfl rfl ?_
  obtain ⟨q3, h5, h⟩ := Option.bind_eq_some_iff.mp h
  have kj4 : am_X xs L 30 d mc ms 27 [.ref 0, .int q1] [.float q3] (am_mk D) 0 0 Q := by
    cases h
    exact x_ret (ret := some .float) (C := True) (v := some (.float _)) r30_27 rt30 rfl rfl rfl rfl rfl rfl rfl rfl trivial hQ
  rcases am_ifE h5 with ⟨c6, h5⟩ | ⟨c6, h5⟩
  · refine x_ifneT r30_9 c6 rfl ?_
    refine x_ar r30_12 rfl trivial rfl ?_
    refine x_goto r30_13 ?_
    cases h5
    exact kj4
  · refine x_ifneF r30_9 c6 ?_
    refine x_ld (v := .ref 0) r30_16 rfl rfl rfl ?_
    refine y_gf (cd := 3) (v := .ref 1) r30_17 rfl rfl rfl ?_
    obtain ⟨q7, h8, h5⟩ := Option.bind_eq_some_iff.mp h5
    refine x_call1 (as := [.ref 1]) (rest := []) r30_20 rfl rfl rfl (by decide) (Nat.le_of_ble_eq_true rfl) (m211_ok h8) (Nat.le_trans (by decide) hd) (Nat.zero_le _) (Nat.zero_le _) rfl ?_
    refine x_ar r30_23 rfl trivial rfl ?_
    refine x_ld (v := .int q1) r30_24 rfl rfl rfl ?_
    refine x_ar r30_25 rfl trivial rfl ?_
    obtain ⟨g9, h5⟩ := am_gdE h5
    refine x_ar r30_26 rfl g9 rfl ?_
    cases h5
    exact kj4
theorem m30_ok {N : Nat} {D : am_D} {r : UInt32} (h : m30 N D = some r) : am_Y xs L 30 4 0 0 [.ref 0] D (.inl (some (.float r))) D := am_Yof (mi := am_m30) (lc := [.ref 0, am_dead]) pg30 (Nat.le_of_ble_eq_true rfl) (am_rc1 (ci := 7) rfl rfl rfl rfl rfl) rfl (fun Q hQ => m30_w (Nat.le_refl _) h hQ)
theorem r32_0 : am_at 32 0 = some (.lload_n 1, 1, [1]) := by decide +kernel
theorem r32_1 : am_at 32 1 = some (.lstore_n 3, 1, [3]) := by decide +kernel
theorem r32_2 : am_at 32 2 = some (.iconst (0), 1, []) := by decide +kernel
theorem r32_3 : am_at 32 3 = some (.istore 5, 2, [5]) := by decide +kernel
theorem r32_5 : am_at 32 5 = some (.iload 5, 2, [5]) := by decide +kernel
theorem r32_7 : am_at 32 7 = some (.bipush (28), 2, []) := by decide +kernel
theorem r32_9 : am_at 32 9 = some (.if_icmp .ge (41), 3, [50]) := by decide +kernel
theorem r32_12 : am_at 32 12 = some (.iconst (0), 1, []) := by decide +kernel
theorem r32_13 : am_at 32 13 = some (.istore 6, 2, [6]) := by decide +kernel
theorem r32_15 : am_at 32 15 = some (.iload 6, 2, [6]) := by decide +kernel
theorem r32_17 : am_at 32 17 = some (.bipush (6), 2, []) := by decide +kernel
theorem r32_19 : am_at 32 19 = some (.if_icmp .gt (25), 3, [44]) := by decide +kernel
theorem r32_22 : am_at 32 22 = some (.ldc2_w 418, 3, [1, 419, 31]) := by decide +kernel
theorem r32_25 : am_at 32 25 = some (.lload_n 3, 1, [3]) := by decide +kernel
theorem r32_26 : am_at 32 26 = some (.lmul, 1, []) := by decide +kernel
theorem r32_27 : am_at 32 27 = some (.aload_n 0, 1, [0]) := by decide +kernel
theorem r32_28 : am_at 32 28 = some (.iload 5, 2, [5]) := by decide +kernel
theorem r32_30 : am_at 32 30 = some (.iload 6, 2, [6]) := by decide +kernel
theorem r32_32 : am_at 32 32 = some (.invokevirtual 450, 3, [18, 3, 527, 0]) := by decide +kernel
theorem r32_35 : am_at 32 35 = some (.i2l, 1, []) := by decide +kernel
theorem r32_36 : am_at 32 36 = some (.ladd, 1, []) := by decide +kernel
theorem r32_37 : am_at 32 37 = some (.lstore_n 3, 1, [3]) := by decide +kernel
theorem r32_38 : am_at 32 38 = some (.iinc 6 (1), 3, [6]) := by decide +kernel
theorem r32_41 : am_at 32 41 = some (.goto (-26), 3, [15]) := by decide +kernel
theorem r32_44 : am_at 32 44 = some (.iinc 5 (1), 3, [5]) := by decide +kernel
theorem r32_47 : am_at 32 47 = some (.goto (-42), 3, [5]) := by decide +kernel
theorem r32_50 : am_at 32 50 = some (.iconst (0), 1, []) := by decide +kernel
theorem r32_51 : am_at 32 51 = some (.istore 5, 2, [5]) := by decide +kernel
theorem r32_53 : am_at 32 53 = some (.iload 5, 2, [5]) := by decide +kernel
theorem r32_55 : am_at 32 55 = some (.aload_n 0, 1, [0]) := by decide +kernel
theorem r32_56 : am_at 32 56 = some (.getfield 10, 3, [7, 0, 3, 332]) := by decide +kernel
theorem r32_59 : am_at 32 59 = some (.getfield 210, 3, [4, 0, 3, 162]) := by decide +kernel
theorem r32_62 : am_at 32 62 = some (.getfield 214, 3, [0, 4, 0, 141]) := by decide +kernel
theorem r32_65 : am_at 32 65 = some (.if_icmp .ge (40), 3, [105]) := by decide +kernel
theorem r32_68 : am_at 32 68 = some (.iconst (0), 1, []) := by decide +kernel
theorem r32_69 : am_at 32 69 = some (.istore 6, 2, [6]) := by decide +kernel
theorem r32_71 : am_at 32 71 = some (.iload 6, 2, [6]) := by decide +kernel
theorem r32_73 : am_at 32 73 = some (.iconst (3), 1, []) := by decide +kernel
theorem r32_74 : am_at 32 74 = some (.if_icmp .gt (25), 3, [99]) := by decide +kernel
theorem r32_77 : am_at 32 77 = some (.ldc2_w 418, 3, [1, 419, 31]) := by decide +kernel
theorem r32_80 : am_at 32 80 = some (.lload_n 3, 1, [3]) := by decide +kernel
theorem r32_81 : am_at 32 81 = some (.lmul, 1, []) := by decide +kernel
theorem r32_82 : am_at 32 82 = some (.aload_n 0, 1, [0]) := by decide +kernel
theorem r32_83 : am_at 32 83 = some (.iload 5, 2, [5]) := by decide +kernel
theorem r32_85 : am_at 32 85 = some (.iload 6, 2, [6]) := by decide +kernel
theorem r32_87 : am_at 32 87 = some (.invokevirtual 453, 3, [20, 3, 570, 0]) := by decide +kernel
theorem r32_90 : am_at 32 90 = some (.i2l, 1, []) := by decide +kernel
theorem r32_91 : am_at 32 91 = some (.ladd, 1, []) := by decide +kernel
theorem r32_92 : am_at 32 92 = some (.lstore_n 3, 1, [3]) := by decide +kernel
theorem r32_93 : am_at 32 93 = some (.iinc 6 (1), 3, [6]) := by decide +kernel
theorem r32_96 : am_at 32 96 = some (.goto (-25), 3, [71]) := by decide +kernel
theorem r32_99 : am_at 32 99 = some (.iinc 5 (1), 3, [5]) := by decide +kernel
theorem r32_102 : am_at 32 102 = some (.goto (-49), 3, [53]) := by decide +kernel
theorem r32_105 : am_at 32 105 = some (.lload_n 3, 1, [3]) := by decide +kernel
theorem r32_106 : am_at 32 106 = some (.lreturn, 1, []) := by decide +kernel
theorem rt32 : am_rtt 32 = some (some .long) := by decide +kernel
set_option maxRecDepth 100000 in
theorem pg32 : am_pg[32]? = some am_m32 := rfl
theorem m32_L15_w {d : Nat} {N : Nat} {D : am_D} {v5 : Int32} {mc ms : Nat} {Q : am_O → am_AH → Prop} (hd : 5 ≤ d) : ∀ (n : Nat) (v3 : Int64) (v6 : Int32) {q : Int64} (h : m32_L15 N D v5  n v3 v6 = some q) (k0 : am_X xs L 32 d mc ms 44 [.ref 0, am_dead, am_dead, .long q, am_dead, .int v5, am_dead] [] (am_mk D) 0 0 Q), am_X xs L 32 d mc ms 15 [.ref 0, am_dead, am_dead, .long v3, am_dead, .int v5, .int v6] [] (am_mk D) 0 0 Q := by
  intro n
  induction n with
  | zero =>
    intro v3 v6 q h k0
    exact (nomatch (show none = some q from h))
  | succ n ih =>
    intro v3 v6 q h k0
    rw [m32_L15] at h
    refine x_ld (v := .int v6) r32_15 rfl rfl rfl ?_
    refine x_bi (v := 6) r32_17 rfl rfl ?_
    rcases am_ifE h with ⟨c2, h⟩ | ⟨c2, h⟩
    · refine x_icgtT r32_19 c2 ?_
      refine x_forget (lc0 := [.ref 0, am_dead, am_dead, .long v3, am_dead, .int v5, am_dead]) ⟨Or.inl rfl, Or.inl rfl, Or.inl rfl, Or.inl rfl, Or.inl rfl, Or.inl rfl, Or.inr ⟨rfl, rfl⟩, trivial⟩ ?_
      cases h
      exact k0
    · refine x_icgtF r32_19 c2 rfl ?_
      refine x_sp r32_22 rfl rfl rfl rfl rfl rfl trivial rfl ?_
      refine x_ld (v := .long v3) r32_25 rfl rfl rfl ?_
      refine x_ar r32_26 rfl trivial rfl ?_
      refine x_ld (v := .ref 0) r32_27 rfl rfl rfl ?_
      refine x_ld (v := .int v5) r32_28 rfl rfl rfl ?_
      refine x_ld (v := .int v6) r32_30 rfl rfl rfl ?_
      obtain ⟨q3, h4, h⟩ := Option.bind_eq_some_iff.mp h
      obtain ⟨x5, h6, h⟩ := Option.bind_eq_some_iff.mp h
      refine x_call1 (as := [.ref 0, .int v5, .int v6]) (rest := [.long ((Int64.ofNat 31) * v3)]) r32_32 rfl rfl rfl (by decide) (Nat.le_of_ble_eq_true rfl) (m18_okv h4 h6) (Nat.le_trans (by decide) hd) (Nat.zero_le _) (Nat.zero_le _) rfl ?_
      refine x_ar r32_35 rfl trivial rfl ?_
      refine x_ar r32_36 rfl trivial rfl ?_
      obtain ⟨x7, e8, h⟩ := am_ltE h
      refine am_topJ e8 ?_
      refine x_sto (lc' := [.ref 0, am_dead, am_dead, .long x7, am_dead, .int v5, .int v6]) r32_37 rfl rfl rfl rfl ?_
      obtain ⟨x9, e10, h⟩ := am_ltE h
      refine x_sto (lc' := [.ref 0, am_dead, am_dead, .long x7, am_dead, .int v5, .int x9]) r32_38 rfl rfl (by subst e10; rfl) rfl ?_
      refine x_goto r32_41 ?_
      exact x_forget (lc0 := [.ref 0, am_dead, am_dead, .long x7, am_dead, .int v5, .int x9]) ⟨Or.inl rfl, Or.inl rfl, Or.inl rfl, Or.inl rfl, Or.inl rfl, Or.inl rfl, Or.inl rfl, trivial⟩ (ih x7 x9 h k0)
theorem m32_L5_w {d : Nat} {N : Nat} {D : am_D} {mc ms : Nat} {Q : am_O → am_AH → Prop} (hd : 5 ≤ d) : ∀ (n : Nat) (v3 : Int64) (v5 : Int32) {q : Int64} (h : m32_L5 N D  n v3 v5 = some q) (k0 : am_X xs L 32 d mc ms 50 [.ref 0, am_dead, am_dead, .long q, am_dead, am_dead, am_dead] [] (am_mk D) 0 0 Q), am_X xs L 32 d mc ms 5 [.ref 0, am_dead, am_dead, .long v3, am_dead, .int v5, am_dead] [] (am_mk D) 0 0 Q := by
  intro n
  induction n with
  | zero =>
    intro v3 v5 q h k0
    exact (nomatch (show none = some q from h))
  | succ n ih =>
    intro v3 v5 q h k0
    rw [m32_L5] at h
    refine x_ld (v := .int v5) r32_5 rfl rfl rfl ?_
    refine x_bi (v := 28) r32_7 rfl rfl ?_
    rcases am_ifE h with ⟨c1, h⟩ | ⟨c1, h⟩
    · refine x_icgeT r32_9 c1 ?_
      refine x_forget (lc0 := [.ref 0, am_dead, am_dead, .long v3, am_dead, am_dead, am_dead]) ⟨Or.inl rfl, Or.inl rfl, Or.inl rfl, Or.inl rfl, Or.inl rfl, Or.inr ⟨rfl, rfl⟩, Or.inl rfl, trivial⟩ ?_
      cases h
      exact k0
    · refine x_icgeF r32_9 c1 rfl ?_
      refine x_ic (v := 0) r32_12 rfl rfl ?_
      refine x_sto (lc' := [.ref 0, am_dead, am_dead, .long v3, am_dead, .int v5, .int (0 : Int32)]) r32_13 rfl rfl rfl rfl ?_
      obtain ⟨q11, h12, h⟩ := Option.bind_eq_some_iff.mp h
      refine x_forget (lc0 := [.ref 0, am_dead, am_dead, .long v3, am_dead, .int v5, .int (0 : Int32)]) ⟨Or.inl rfl, Or.inl rfl, Or.inl rfl, Or.inl rfl, Or.inl rfl, Or.inl rfl, Or.inl rfl, trivial⟩ (m32_L15_w hd N v3 (0 : Int32) h12 ?_)
      obtain ⟨x13, e14, h⟩ := am_ltE h
      refine x_sto (lc' := [.ref 0, am_dead, am_dead, .long q11, am_dead, .int x13, am_dead]) r32_44 rfl rfl (by subst e14; rfl) rfl ?_
      refine x_goto r32_47 ?_
      exact x_forget (lc0 := [.ref 0, am_dead, am_dead, .long q11, am_dead, .int x13, am_dead]) ⟨Or.inl rfl, Or.inl rfl, Or.inl rfl, Or.inl rfl, Or.inl rfl, Or.inl rfl, Or.inl rfl, trivial⟩ (ih q11 x13 h k0)
theorem m32_L71_w {d : Nat} {N : Nat} {D : am_D} {v5 : Int32} {mc ms : Nat} {Q : am_O → am_AH → Prop} (hd : 5 ≤ d) : ∀ (n : Nat) (v3 : Int64) (v6 : Int32) {q : Int64} (h : m32_L71 N D v5  n v3 v6 = some q) (k0 : am_X xs L 32 d mc ms 99 [.ref 0, am_dead, am_dead, .long q, am_dead, .int v5, am_dead] [] (am_mk D) 0 0 Q), am_X xs L 32 d mc ms 71 [.ref 0, am_dead, am_dead, .long v3, am_dead, .int v5, .int v6] [] (am_mk D) 0 0 Q := by
  intro n
  induction n with
  | zero =>
    intro v3 v6 q h k0
    exact (nomatch (show none = some q from h))
  | succ n ih =>
    intro v3 v6 q h k0
    rw [m32_L71] at h
    refine x_ld (v := .int v6) r32_71 rfl rfl rfl ?_
    refine x_ic (v := 3) r32_73 rfl rfl ?_
    rcases am_ifE h with ⟨c18, h⟩ | ⟨c18, h⟩
    · refine x_icgtT r32_74 c18 ?_
      refine x_forget (lc0 := [.ref 0, am_dead, am_dead, .long v3, am_dead, .int v5, am_dead]) ⟨Or.inl rfl, Or.inl rfl, Or.inl rfl, Or.inl rfl, Or.inl rfl, Or.inl rfl, Or.inr ⟨rfl, rfl⟩, trivial⟩ ?_
      cases h
      exact k0
    · refine x_icgtF r32_74 c18 rfl ?_
      refine x_sp r32_77 rfl rfl rfl rfl rfl rfl trivial rfl ?_
      refine x_ld (v := .long v3) r32_80 rfl rfl rfl ?_
      refine x_ar r32_81 rfl trivial rfl ?_
      refine x_ld (v := .ref 0) r32_82 rfl rfl rfl ?_
      refine x_ld (v := .int v5) r32_83 rfl rfl rfl ?_
      refine x_ld (v := .int v6) r32_85 rfl rfl rfl ?_
      obtain ⟨q19, h20, h⟩ := am_ltE h
      replace h20 := h20.symm
      obtain ⟨x21, h22, h⟩ := Option.bind_eq_some_iff.mp h
      refine x_call1 (as := [.ref 0, .int v5, .int v6]) (rest := [.long ((Int64.ofNat 31) * v3)]) r32_87 rfl rfl rfl (by decide) (Nat.le_of_ble_eq_true rfl) (m20_okv h20 h22) (Nat.le_trans (by decide) hd) (Nat.zero_le _) (Nat.zero_le _) rfl ?_
      refine x_ar r32_90 rfl trivial rfl ?_
      refine x_ar r32_91 rfl trivial rfl ?_
      obtain ⟨x23, e24, h⟩ := am_ltE h
      refine am_topJ e24 ?_
      refine x_sto (lc' := [.ref 0, am_dead, am_dead, .long x23, am_dead, .int v5, .int v6]) r32_92 rfl rfl rfl rfl ?_
      obtain ⟨x25, e26, h⟩ := am_ltE h
      refine x_sto (lc' := [.ref 0, am_dead, am_dead, .long x23, am_dead, .int v5, .int x25]) r32_93 rfl rfl (by subst e26; rfl) rfl ?_
      refine x_goto r32_96 ?_
      exact x_forget (lc0 := [.ref 0, am_dead, am_dead, .long x23, am_dead, .int v5, .int x25]) ⟨Or.inl rfl, Or.inl rfl, Or.inl rfl, Or.inl rfl, Or.inl rfl, Or.inl rfl, Or.inl rfl, trivial⟩ (ih x23 x25 h k0)
theorem m32_L53_w {d : Nat} {N : Nat} {D : am_D} {mc ms : Nat} {Q : am_O → am_AH → Prop} (hd : 5 ≤ d) : ∀ (n : Nat) (v3 : Int64) (v5 : Int32) {q : Int64} (h : m32_L53 N D  n v3 v5 = some q) (k0 : am_X xs L 32 d mc ms 105 [.ref 0, am_dead, am_dead, .long q, am_dead, am_dead, am_dead] [] (am_mk D) 0 0 Q), am_X xs L 32 d mc ms 53 [.ref 0, am_dead, am_dead, .long v3, am_dead, .int v5, am_dead] [] (am_mk D) 0 0 Q := by
  intro n
  induction n with
  | zero =>
    intro v3 v5 q h k0
    exact (nomatch (show none = some q from h))
  | succ n ih =>
    intro v3 v5 q h k0
    rw [m32_L53] at h
    refine x_ld (v := .int v5) r32_53 rfl rfl rfl ?_
    refine x_ld (v := .ref 0) r32_55 rfl rfl rfl ?_
    refine y_gf (cd := 3) (v := .ref 1) r32_56 rfl rfl rfl ?_
    refine y_gf (cd := 4) (v := .ref 2) r32_59 rfl rfl rfl ?_
    refine y_gf (cd := 0) (v := .int (D.1 2 4)) r32_62 rfl rfl rfl ?_
    rcases am_ifE h with ⟨c17, h⟩ | ⟨c17, h⟩
    · refine x_icgeT r32_65 c17 ?_
      refine x_forget (lc0 := [.ref 0, am_dead, am_dead, .long v3, am_dead, am_dead, am_dead]) ⟨Or.inl rfl, Or.inl rfl, Or.inl rfl, Or.inl rfl, Or.inl rfl, Or.inr ⟨rfl, rfl⟩, Or.inl rfl, trivial⟩ ?_
      cases h
      exact k0
    · refine x_icgeF r32_65 c17 rfl ?_
      refine x_ic (v := 0) r32_68 rfl rfl ?_
      refine x_sto (lc' := [.ref 0, am_dead, am_dead, .long v3, am_dead, .int v5, .int (0 : Int32)]) r32_69 rfl rfl rfl rfl ?_
      obtain ⟨q27, h28, h⟩ := Option.bind_eq_some_iff.mp h
      refine x_forget (lc0 := [.ref 0, am_dead, am_dead, .long v3, am_dead, .int v5, .int (0 : Int32)]) ⟨Or.inl rfl, Or.inl rfl, Or.inl rfl, Or.inl rfl, Or.inl rfl, Or.inl rfl, Or.inl rfl, trivial⟩ (m32_L71_w hd N v3 (0 : Int32) h28 ?_)
      obtain ⟨x29, e30, h⟩ := am_ltE h
      refine x_sto (lc' := [.ref 0, am_dead, am_dead, .long q27, am_dead, .int x29, am_dead]) r32_99 rfl rfl (by subst e30; rfl) rfl ?_
      refine x_goto r32_102 ?_
      exact x_forget (lc0 := [.ref 0, am_dead, am_dead, .long q27, am_dead, .int x29, am_dead]) ⟨Or.inl rfl, Or.inl rfl, Or.inl rfl, Or.inl rfl, Or.inl rfl, Or.inl rfl, Or.inl rfl, trivial⟩ (ih q27 x29 h k0)
theorem m32_w {d mc ms : Nat} {N : Nat} {D : am_D} {v1 : Int64} {Q : am_O → am_AH → Prop} (hd : 5 ≤ d) {r : Int64} (h : m32 N D v1 = some r) (hQ : Q (.inl (some (.long r))) (am_mk D)) : am_X xs L 32 d mc ms 0 [.ref 0, .long v1, am_dead, am_dead, am_dead, am_dead, am_dead] [] (am_mk D) 0 0 Q := by
  unfold m32 at h
  refine x_ld (v := .long v1) r32_0 rfl rfl rfl ?_
  refine x_sto (lc' := [.ref 0, .long v1, am_dead, .long v1, am_dead, am_dead, am_dead]) r32_1 rfl rfl rfl rfl ?_
  refine x_ic (v := 0) r32_2 rfl rfl ?_
  refine x_sto (lc' := [.ref 0, .long v1, am_dead, .long v1, am_dead, .int (0 : Int32), am_dead]) r32_3 rfl rfl rfl rfl ?_
  obtain ⟨q15, h16, h⟩ := Option.bind_eq_some_iff.mp h
  refine x_forget (lc0 := [.ref 0, am_dead, am_dead, .long v1, am_dead, .int (0 : Int32), am_dead]) ⟨Or.inl rfl, Or.inr ⟨rfl, rfl⟩, Or.inl rfl, Or.inl rfl, Or.inl rfl, Or.inl rfl, Or.inl rfl, trivial⟩ (m32_L5_w hd N v1 (0 : Int32) h16 ?_)
  refine x_ic (v := 0) r32_50 rfl rfl ?_
  refine x_sto (lc' := [.ref 0, am_dead, am_dead, .long q15, am_dead, .int (0 : Int32), am_dead]) r32_51 rfl rfl rfl rfl ?_
  obtain ⟨q31, h32, h⟩ := Option.bind_eq_some_iff.mp h
  refine x_forget (lc0 := [.ref 0, am_dead, am_dead, .long q15, am_dead, .int (0 : Int32), am_dead]) ⟨Or.inl rfl, Or.inl rfl, Or.inl rfl, Or.inl rfl, Or.inl rfl, Or.inl rfl, Or.inl rfl, trivial⟩ (m32_L53_w hd N q15 (0 : Int32) h32 ?_)
  refine x_ld (v := .long q31) r32_105 rfl rfl rfl ?_
  cases h
  exact x_ret (ret := some .long) (C := True) (v := some (.long _)) r32_106 rt32 rfl rfl rfl rfl rfl rfl rfl rfl trivial hQ
theorem m32_ok {N : Nat} {D : am_D} {v1 : Int64} {r : Int64} (h : m32 N D v1 = some r) : am_Y xs L 32 5 0 0 [.ref 0, .long v1] D (.inl (some (.long r))) D := am_Yof (mi := am_m32) (lc := [.ref 0, .long v1, am_dead, am_dead, am_dead, am_dead, am_dead]) pg32 (Nat.le_of_ble_eq_true rfl) (am_rc1 (ci := 7) rfl rfl rfl rfl rfl) rfl (fun Q hQ => m32_w (Nat.le_refl _) h hQ)
theorem r37_0 : am_at 37 0 = some (.aload_n 0, 1, [0]) := by decide +kernel
theorem r37_1 : am_at 37 1 = some (.getfield 29, 3, [7, 3, 3, 335]) := by decide +kernel
theorem r37_4 : am_at 37 4 = some (.iload_n 1, 1, [1]) := by decide +kernel
theorem r37_5 : am_at 37 5 = some (.invokevirtual 461, 3, [234, 2, 785, 0]) := by decide +kernel
theorem r37_8 : am_at 37 8 = some (.lookupswitch (94) #[(108, 28), (112, 71)], 28, [102, 108, 36, 112, 79]) := by decide +kernel
theorem r37_36 : am_at 37 36 = some (.aload_n 0, 1, [0]) := by decide +kernel
theorem r37_37 : am_at 37 37 = some (.getfield 10, 3, [7, 0, 3, 332]) := by decide +kernel
theorem r37_40 : am_at 37 40 = some (.aload_n 0, 1, [0]) := by decide +kernel
theorem r37_41 : am_at 37 41 = some (.getfield 10, 3, [7, 0, 3, 332]) := by decide +kernel
theorem r37_44 : am_at 37 44 = some (.getfield 310, 3, [4, 7, 0, 177]) := by decide +kernel
theorem r37_47 : am_at 37 47 = some (.aload_n 0, 1, [0]) := by decide +kernel
theorem r37_48 : am_at 37 48 = some (.getfield 29, 3, [7, 3, 3, 335]) := by decide +kernel
theorem r37_51 : am_at 37 51 = some (.iload_n 1, 1, [1]) := by decide +kernel
theorem r37_52 : am_at 37 52 = some (.iconst (1), 1, []) := by decide +kernel
theorem r37_53 : am_at 37 53 = some (.iadd, 1, []) := by decide +kernel
theorem r37_54 : am_at 37 54 = some (.invokevirtual 466, 3, [236, 2, 1070, 0]) := by decide +kernel
theorem r37_57 : am_at 37 57 = some (.aload_n 0, 1, [0]) := by decide +kernel
theorem r37_58 : am_at 37 58 = some (.getfield 29, 3, [7, 3, 3, 335]) := by decide +kernel
theorem r37_61 : am_at 37 61 = some (.iload_n 1, 1, [1]) := by decide +kernel
theorem r37_62 : am_at 37 62 = some (.iconst (3), 1, []) := by decide +kernel
theorem r37_63 : am_at 37 63 = some (.iadd, 1, []) := by decide +kernel
theorem r37_64 : am_at 37 64 = some (.invokevirtual 469, 3, [237, 2, 1083, 0]) := by decide +kernel
theorem r37_67 : am_at 37 67 = some (.invokevirtual 133, 3, [220, 4, 896, 0]) := by decide +kernel
theorem r37_70 : am_at 37 70 = some (.ifCond .ne (7), 3, [77]) := by decide +kernel
theorem r37_73 : am_at 37 73 = some (.iconst (1), 1, []) := by decide +kernel
theorem r37_74 : am_at 37 74 = some (.goto (4), 3, [78]) := by decide +kernel
theorem r37_77 : am_at 37 77 = some (.iconst (0), 1, []) := by decide +kernel
theorem r37_78 : am_at 37 78 = some (.ireturn, 1, []) := by decide +kernel
theorem r37_79 : am_at 37 79 = some (.aload_n 0, 1, [0]) := by decide +kernel
theorem r37_80 : am_at 37 80 = some (.getfield 10, 3, [7, 0, 3, 332]) := by decide +kernel
theorem r37_83 : am_at 37 83 = some (.aload_n 0, 1, [0]) := by decide +kernel
theorem r37_84 : am_at 37 84 = some (.getfield 10, 3, [7, 0, 3, 332]) := by decide +kernel
theorem r37_87 : am_at 37 87 = some (.getfield 310, 3, [4, 7, 0, 177]) := by decide +kernel
theorem r37_90 : am_at 37 90 = some (.invokevirtual 142, 3, [221, 2, 610, 0]) := by decide +kernel
theorem r37_93 : am_at 37 93 = some (.ifCond .ne (7), 3, [100]) := by decide +kernel
theorem r37_96 : am_at 37 96 = some (.iconst (1), 1, []) := by decide +kernel
theorem r37_97 : am_at 37 97 = some (.goto (4), 3, [101]) := by decide +kernel
theorem r37_100 : am_at 37 100 = some (.iconst (0), 1, []) := by decide +kernel
theorem r37_101 : am_at 37 101 = some (.ireturn, 1, []) := by decide +kernel
theorem r37_102 : am_at 37 102 = some (.aload_n 0, 1, [0]) := by decide +kernel
theorem r37_103 : am_at 37 103 = some (.getfield 10, 3, [7, 0, 3, 332]) := by decide +kernel
theorem r37_106 : am_at 37 106 = some (.getfield 98, 3, [4, 6, 0, 174]) := by decide +kernel
theorem r37_109 : am_at 37 109 = some (.iconst (1), 1, []) := by decide +kernel
theorem r37_110 : am_at 37 110 = some (.if_icmp .ne (7), 3, [117]) := by decide +kernel
theorem r37_113 : am_at 37 113 = some (.iconst (1), 1, []) := by decide +kernel
theorem r37_114 : am_at 37 114 = some (.goto (4), 3, [118]) := by decide +kernel
theorem r37_117 : am_at 37 117 = some (.iconst (0), 1, []) := by decide +kernel
theorem r37_118 : am_at 37 118 = some (.ireturn, 1, []) := by decide +kernel
theorem rt37 : am_rtt 37 = some (some .boolean) := by decide +kernel
set_option maxRecDepth 100000 in
theorem pg37 : am_pg[37]? = some am_m37 := rfl
theorem m37_w {d mc ms : Nat} {N : Nat} {D : am_D} {v1 : Int32} {Q : am_O → am_AH → Prop} (hd : 6 ≤ d) {r : Int32} (h : m37 N D v1 = some r) (hQ : Q (.inl (some (.int r))) (am_mk D)) : am_X xs L 37 d mc ms 0 [.ref 0, .int v1] [] (am_mk D) 0 0 Q := by
  unfold m37 at h
  refine x_ld (v := .ref 0) r37_0 rfl rfl rfl ?_
  refine y_gf (cd := 93) (v := .ref 91) r37_1 rfl rfl rfl ?_
  refine x_ld (v := .int v1) r37_4 rfl rfl rfl ?_
  refine x_call1 (as := [.ref 91, .int v1]) (rest := []) r37_5 rfl rfl rfl (by decide) (Nat.le_of_ble_eq_true rfl) (m234_ok rfl) (Nat.le_trans (by decide) hd) (Nat.zero_le _) (Nat.zero_le _) rfl ?_
  rcases am_ifE h with ⟨c1, h⟩ | ⟨c1, h⟩
  · refine x_lsw (p' := 36) r37_8 (am_swT c1) ?_
    refine x_ld (v := .ref 0) r37_36 rfl rfl rfl ?_
    refine y_gf (cd := 3) (v := .ref 1) r37_37 rfl rfl rfl ?_
    refine x_ld (v := .ref 0) r37_40 rfl rfl rfl ?_
    refine y_gf (cd := 3) (v := .ref 1) r37_41 rfl rfl rfl ?_
    refine y_gf (cd := 0) (v := .int (D.1 1 7)) r37_44 rfl rfl rfl ?_
    refine x_ld (v := .ref 0) r37_47 rfl rfl rfl ?_
    refine y_gf (cd := 93) (v := .ref 91) r37_48 rfl rfl rfl ?_
    refine x_ld (v := .int v1) r37_51 rfl rfl rfl ?_
    refine x_ic (v := 1) r37_52 rfl rfl ?_
    refine x_ar r37_53 rfl trivial rfl ?_
    refine x_call1 (as := [.ref 91, .int (v1 + (1 : Int32))]) (rest := [.int (D.1 1 7), .ref 1]) r37_54 rfl rfl rfl (by decide) (Nat.le_of_ble_eq_true rfl) (m236_ok rfl) (Nat.le_trans (by decide) hd) (Nat.zero_le _) (Nat.zero_le _) rfl ?_
    refine x_ld (v := .ref 0) r37_57 rfl rfl rfl ?_
    refine y_gf (cd := 93) (v := .ref 91) r37_58 rfl rfl rfl ?_
    refine x_ld (v := .int v1) r37_61 rfl rfl rfl ?_
    refine x_ic (v := 3) r37_62 rfl rfl ?_
    refine x_ar r37_63 rfl trivial rfl ?_
    refine x_call1 (as := [.ref 91, .int (v1 + (3 : Int32))]) (rest := [.int (m236 D (v1 + (1 : Int32))), .int (D.1 1 7), .ref 1]) r37_64 rfl rfl rfl (by decide) (Nat.le_of_ble_eq_true rfl) (m237_ok rfl) (Nat.le_trans (by decide) hd) (Nat.zero_le _) (Nat.zero_le _) rfl ?_
    refine x_call1 (as := [.ref 1, .int (D.1 1 7), .int (m236 D (v1 + (1 : Int32))), .int (m237 D (v1 + (3 : Int32)))]) (rest := []) r37_67 rfl rfl rfl (by decide) (Nat.le_of_ble_eq_true rfl) (m220_ok rfl) (Nat.le_trans (by decide) hd) (Nat.zero_le _) (Nat.zero_le _) rfl ?_
    rcases am_ifE h with ⟨c2, h⟩ | ⟨c2, h⟩
    · refine x_ifneT r37_70 c2 rfl ?_
      refine x_ic (v := 1) r37_73 rfl rfl ?_
      refine x_goto r37_74 ?_
      cases h
      exact x_ret (ret := some .boolean) (C := narrow .boolean (.int (1 : Int32)) = .int (1 : Int32)) (v := some (.int (1 : Int32))) r37_78 rt37 rfl rfl rfl rfl rfl rfl rfl rfl (by decide) hQ
    · refine x_ifneF r37_70 c2 ?_
      refine x_ic (v := 0) r37_77 rfl rfl ?_
      cases h
      exact x_ret (ret := some .boolean) (C := narrow .boolean (.int (0 : Int32)) = .int (0 : Int32)) (v := some (.int (0 : Int32))) r37_78 rt37 rfl rfl rfl rfl rfl rfl rfl rfl (by decide) hQ
  · rcases am_ifE h with ⟨c3, h⟩ | ⟨c3, h⟩
    · refine x_lsw (p' := 79) r37_8 (am_swF c1 (am_swT c3)) ?_
      refine x_ld (v := .ref 0) r37_79 rfl rfl rfl ?_
      refine y_gf (cd := 3) (v := .ref 1) r37_80 rfl rfl rfl ?_
      refine x_ld (v := .ref 0) r37_83 rfl rfl rfl ?_
      refine y_gf (cd := 3) (v := .ref 1) r37_84 rfl rfl rfl ?_
      refine y_gf (cd := 0) (v := .int (D.1 1 7)) r37_87 rfl rfl rfl ?_
      obtain ⟨q4, h5, h⟩ := Option.bind_eq_some_iff.mp h
      refine x_call1 (as := [.ref 1, .int (D.1 1 7)]) (rest := []) r37_90 rfl rfl rfl (by decide) (Nat.le_of_ble_eq_true rfl) (m221_ok h5) (Nat.le_trans (by decide) hd) (Nat.zero_le _) (Nat.zero_le _) rfl ?_
      rcases am_ifE h with ⟨c6, h⟩ | ⟨c6, h⟩
      · refine x_ifneT r37_93 c6 rfl ?_
        refine x_ic (v := 1) r37_96 rfl rfl ?_
        refine x_goto r37_97 ?_
        cases h
        exact x_ret (ret := some .boolean) (C := narrow .boolean (.int (1 : Int32)) = .int (1 : Int32)) (v := some (.int (1 : Int32))) r37_101 rt37 rfl rfl rfl rfl rfl rfl rfl rfl (by decide) hQ
      · refine x_ifneF r37_93 c6 ?_
        refine x_ic (v := 0) r37_100 rfl rfl ?_
        cases h
        exact x_ret (ret := some .boolean) (C := narrow .boolean (.int (0 : Int32)) = .int (0 : Int32)) (v := some (.int (0 : Int32))) r37_101 rt37 rfl rfl rfl rfl rfl rfl rfl rfl (by decide) hQ
    · refine x_lsw (p' := 102) r37_8 (am_swF c1 (am_swF c3 (rfl))) ?_
      refine x_ld (v := .ref 0) r37_102 rfl rfl rfl ?_
      refine y_gf (cd := 3) (v := .ref 1) r37_103 rfl rfl rfl ?_
      refine y_gf (cd := 0) (v := .int (D.1 1 6)) r37_106 rfl rfl rfl ?_
      refine x_ic (v := 1) r37_109 rfl rfl ?_
      rcases am_ifE h with ⟨c7, h⟩ | ⟨c7, h⟩
      · refine x_icneT r37_110 c7 rfl ?_
        refine x_ic (v := 1) r37_113 rfl rfl ?_
        refine x_goto r37_114 ?_
        cases h
        exact x_ret (ret := some .boolean) (C := narrow .boolean (.int (1 : Int32)) = .int (1 : Int32)) (v := some (.int (1 : Int32))) r37_118 rt37 rfl rfl rfl rfl rfl rfl rfl rfl (by decide) hQ
      · refine x_icneF r37_110 c7 ?_
        refine x_ic (v := 0) r37_117 rfl rfl ?_
        cases h
        exact x_ret (ret := some .boolean) (C := narrow .boolean (.int (0 : Int32)) = .int (0 : Int32)) (v := some (.int (0 : Int32))) r37_118 rt37 rfl rfl rfl rfl rfl rfl rfl rfl (by decide) hQ
theorem m37_ok {N : Nat} {D : am_D} {v1 : Int32} {r : Int32} (h : m37 N D v1 = some r) : am_Y xs L 37 6 0 0 [.ref 0, .int v1] D (.inl (some (.int r))) D := am_Yof (mi := am_m37) (lc := [.ref 0, .int v1]) pg37 (Nat.le_of_ble_eq_true rfl) (am_rc1 (ci := 7) rfl rfl rfl rfl rfl) rfl (fun Q hQ => m37_w (Nat.le_refl _) h hQ)
theorem r39_0 : am_at 39 0 = some (.iconst (0), 1, []) := by decide +kernel
theorem r39_1 : am_at 39 1 = some (.istore_n 1, 1, [1]) := by decide +kernel
theorem r39_2 : am_at 39 2 = some (.iconst (-1), 1, []) := by decide +kernel
theorem r39_3 : am_at 39 3 = some (.istore_n 2, 1, [2]) := by decide +kernel
theorem r39_4 : am_at 39 4 = some (.iconst (0), 1, []) := by decide +kernel
theorem r39_5 : am_at 39 5 = some (.istore_n 3, 1, [3]) := by decide +kernel
theorem r39_6 : am_at 39 6 = some (.iload_n 3, 1, [3]) := by decide +kernel
theorem r39_7 : am_at 39 7 = some (.aload_n 0, 1, [0]) := by decide +kernel
theorem r39_8 : am_at 39 8 = some (.getfield 29, 3, [7, 3, 3, 335]) := by decide +kernel
theorem r39_11 : am_at 39 11 = some (.getfield 177, 3, [5, 1, 0, 256]) := by decide +kernel
theorem r39_14 : am_at 39 14 = some (.if_icmp .ge (77), 3, [91]) := by decide +kernel
theorem r39_17 : am_at 39 17 = some (.aload_n 0, 1, [0]) := by decide +kernel
theorem r39_18 : am_at 39 18 = some (.getfield 29, 3, [7, 3, 3, 335]) := by decide +kernel
theorem r39_21 : am_at 39 21 = some (.iload_n 3, 1, [3]) := by decide +kernel
theorem r39_22 : am_at 39 22 = some (.iconst (1), 1, []) := by decide +kernel
theorem r39_23 : am_at 39 23 = some (.iadd, 1, []) := by decide +kernel
theorem r39_24 : am_at 39 24 = some (.invokevirtual 461, 3, [234, 2, 785, 0]) := by decide +kernel
theorem r39_27 : am_at 39 27 = some (.bipush (58), 2, []) := by decide +kernel
theorem r39_29 : am_at 39 29 = some (.if_icmp .ne (18), 3, [47]) := by decide +kernel
theorem r39_32 : am_at 39 32 = some (.aload_n 0, 1, [0]) := by decide +kernel
theorem r39_33 : am_at 39 33 = some (.getfield 29, 3, [7, 3, 3, 335]) := by decide +kernel
theorem r39_36 : am_at 39 36 = some (.iload_n 3, 1, [3]) := by decide +kernel
theorem r39_37 : am_at 39 37 = some (.invokevirtual 475, 3, [235, 2, 1111, 0]) := by decide +kernel
theorem r39_40 : am_at 39 40 = some (.istore_n 2, 1, [2]) := by decide +kernel
theorem r39_41 : am_at 39 41 = some (.iinc 3 (2), 3, [3]) := by decide +kernel
theorem r39_44 : am_at 39 44 = some (.goto (-38), 3, [6]) := by decide +kernel
theorem r39_47 : am_at 39 47 = some (.aload_n 0, 1, [0]) := by decide +kernel
theorem r39_48 : am_at 39 48 = some (.getfield 29, 3, [7, 3, 3, 335]) := by decide +kernel
theorem r39_51 : am_at 39 51 = some (.iload_n 3, 1, [3]) := by decide +kernel
theorem r39_52 : am_at 39 52 = some (.invokevirtual 466, 3, [236, 2, 1070, 0]) := by decide +kernel
theorem r39_55 : am_at 39 55 = some (.istore 4, 2, [4]) := by decide +kernel
theorem r39_57 : am_at 39 57 = some (.aload_n 0, 1, [0]) := by decide +kernel
theorem r39_58 : am_at 39 58 = some (.getfield 10, 3, [7, 0, 3, 332]) := by decide +kernel
theorem r39_61 : am_at 39 61 = some (.iload_n 2, 1, [2]) := by decide +kernel
theorem r39_62 : am_at 39 62 = some (.iload 4, 2, [4]) := by decide +kernel
theorem r39_64 : am_at 39 64 = some (.invokevirtual 72, 3, [212, 3, 799, 0]) := by decide +kernel
theorem r39_67 : am_at 39 67 = some (.ifCond .ne (5), 3, [72]) := by decide +kernel
theorem r39_70 : am_at 39 70 = some (.iload_n 1, 1, [1]) := by decide +kernel
theorem r39_71 : am_at 39 71 = some (.ireturn, 1, []) := by decide +kernel
theorem r39_72 : am_at 39 72 = some (.aload_n 0, 1, [0]) := by decide +kernel
theorem r39_73 : am_at 39 73 = some (.getfield 10, 3, [7, 0, 3, 332]) := by decide +kernel
theorem r39_76 : am_at 39 76 = some (.iload_n 2, 1, [2]) := by decide +kernel
theorem r39_77 : am_at 39 77 = some (.iload 4, 2, [4]) := by decide +kernel
theorem r39_79 : am_at 39 79 = some (.invokevirtual 85, 3, [213, 3, 829, 0]) := by decide +kernel
theorem r39_82 : am_at 39 82 = some (.iinc 1 (1), 3, [1]) := by decide +kernel
theorem r39_85 : am_at 39 85 = some (.iinc 3 (3), 3, [3]) := by decide +kernel
theorem r39_88 : am_at 39 88 = some (.goto (-82), 3, [6]) := by decide +kernel
theorem r39_91 : am_at 39 91 = some (.iload_n 1, 1, [1]) := by decide +kernel
theorem r39_92 : am_at 39 92 = some (.ireturn, 1, []) := by decide +kernel
theorem rt39 : am_rtt 39 = some (some .int) := by decide +kernel
set_option maxRecDepth 100000 in
theorem pg39 : am_pg[39]? = some am_m39 := rfl
theorem m39_L6_w {d : Nat} {N : Nat} {mc ms : Nat} {Q : am_O → am_AH → Prop} (hd : 5 ≤ d) : ∀ (n : Nat) (D : am_D) (v1 : Int32) (v2 : Int32) (v3 : Int32) {q : Nat × Int32 × am_D} (h : m39_L6 N  n D v1 v2 v3 = some q) (k0 : q.1 = 0 → am_X xs L 39 d mc ms 91 [.ref 0, .int q.2.1, am_dead, am_dead, am_dead] [] (am_mk q.2.2) 0 0 Q) (k1 : q.1 = 1 → am_X xs L 39 d mc ms 70 [.ref 0, .int q.2.1, am_dead, am_dead, am_dead] [] (am_mk q.2.2) 0 0 Q), am_X xs L 39 d mc ms 6 [.ref 0, .int v1, .int v2, .int v3, am_dead] [] (am_mk D) 0 0 Q := by
  intro n
  induction n with
  | zero =>
    intro D v1 v2 v3 q h k0 k1
    exact (nomatch (show none = some q from h))
  | succ n ih =>
    intro D v1 v2 v3 q h k0 k1
    rw [m39_L6] at h
    refine x_ld (v := .int v3) r39_6 rfl rfl rfl ?_
    refine x_ld (v := .ref 0) r39_7 rfl rfl rfl ?_
    refine y_gf (cd := 93) (v := .ref 91) r39_8 rfl rfl rfl ?_
    refine y_gf (cd := 0) (v := .int (D.1 91 1)) r39_11 rfl rfl rfl ?_
    rcases am_ifE h with ⟨c1, h⟩ | ⟨c1, h⟩
    · refine x_icgeT r39_14 c1 ?_
      refine x_forget (lc0 := [.ref 0, .int v1, am_dead, am_dead, am_dead]) ⟨Or.inl rfl, Or.inl rfl, Or.inr ⟨rfl, rfl⟩, Or.inr ⟨rfl, rfl⟩, Or.inl rfl, trivial⟩ ?_
      cases h
      exact k0 rfl
    · refine x_icgeF r39_14 c1 rfl ?_
      refine x_ld (v := .ref 0) r39_17 rfl rfl rfl ?_
      refine y_gf (cd := 93) (v := .ref 91) r39_18 rfl rfl rfl ?_
      refine x_ld (v := .int v3) r39_21 rfl rfl rfl ?_
      refine x_ic (v := 1) r39_22 rfl rfl ?_
      refine x_ar r39_23 rfl trivial rfl ?_
      refine x_call1 (as := [.ref 91, .int (v3 + (1 : Int32))]) (rest := []) r39_24 rfl rfl rfl (by decide) (Nat.le_of_ble_eq_true rfl) (m234_ok rfl) (Nat.le_trans (by decide) hd) (Nat.zero_le _) (Nat.zero_le _) rfl ?_
      refine x_bi (v := 58) r39_27 rfl rfl ?_
      rcases am_ifE h with ⟨c2, h⟩ | ⟨c2, h⟩
      · refine x_icneT r39_29 c2 rfl ?_
        refine x_ld (v := .ref 0) r39_32 rfl rfl rfl ?_
        refine y_gf (cd := 93) (v := .ref 91) r39_33 rfl rfl rfl ?_
        refine x_ld (v := .int v3) r39_36 rfl rfl rfl ?_
        refine x_call1 (as := [.ref 91, .int v3]) (rest := []) r39_37 rfl rfl rfl (by decide) (Nat.le_of_ble_eq_true rfl) (m235_ok rfl) (Nat.le_trans (by decide) hd) (Nat.zero_le _) (Nat.zero_le _) rfl ?_
        obtain ⟨x3, e4, h⟩ := am_ltE h
        refine am_topI e4 ?_
        refine x_sto (lc' := [.ref 0, .int v1, .int x3, .int v3, am_dead]) r39_40 rfl rfl rfl rfl ?_
        obtain ⟨x5, e6, h⟩ := am_ltE h
        refine x_sto (lc' := [.ref 0, .int v1, .int x3, .int x5, am_dead]) r39_41 rfl rfl (by subst e6; rfl) rfl ?_
        refine x_goto r39_44 ?_
        exact x_forget (lc0 := [.ref 0, .int v1, .int x3, .int x5, am_dead]) ⟨Or.inl rfl, Or.inl rfl, Or.inl rfl, Or.inl rfl, Or.inl rfl, trivial⟩ (ih D v1 x3 x5 h k0 k1)
      · refine x_icneF r39_29 c2 ?_
        refine x_ld (v := .ref 0) r39_47 rfl rfl rfl ?_
        refine y_gf (cd := 93) (v := .ref 91) r39_48 rfl rfl rfl ?_
        refine x_ld (v := .int v3) r39_51 rfl rfl rfl ?_
        refine x_call1 (as := [.ref 91, .int v3]) (rest := []) r39_52 rfl rfl rfl (by decide) (Nat.le_of_ble_eq_true rfl) (m236_ok rfl) (Nat.le_trans (by decide) hd) (Nat.zero_le _) (Nat.zero_le _) rfl ?_
        obtain ⟨x7, e8, h⟩ := am_ltE h
        refine am_topI e8 ?_
        refine x_sto (lc' := [.ref 0, .int v1, .int v2, .int v3, .int x7]) r39_55 rfl rfl rfl rfl ?_
        refine x_ld (v := .ref 0) r39_57 rfl rfl rfl ?_
        refine y_gf (cd := 3) (v := .ref 1) r39_58 rfl rfl rfl ?_
        refine x_ld (v := .int v2) r39_61 rfl rfl rfl ?_
        refine x_ld (v := .int x7) r39_62 rfl rfl rfl ?_
        obtain ⟨q9, h10, h⟩ := Option.bind_eq_some_iff.mp h
        refine x_call1 (as := [.ref 1, .int v2, .int x7]) (rest := []) r39_64 rfl rfl rfl (by decide) (Nat.le_of_ble_eq_true rfl) (m212_ok h10) (Nat.le_trans (by decide) hd) (Nat.zero_le _) (Nat.zero_le _) rfl ?_
        rcases am_ifE h with ⟨c11, h⟩ | ⟨c11, h⟩
        · refine x_ifneT r39_67 c11 rfl ?_
          refine x_forget (lc0 := [.ref 0, .int v1, am_dead, am_dead, am_dead]) ⟨Or.inl rfl, Or.inl rfl, Or.inr ⟨rfl, rfl⟩, Or.inr ⟨rfl, rfl⟩, Or.inr ⟨rfl, rfl⟩, trivial⟩ ?_
          cases h
          exact k1 rfl
        · refine x_ifneF r39_67 c11 ?_
          refine x_ld (v := .ref 0) r39_72 rfl rfl rfl ?_
          refine y_gf (cd := 3) (v := .ref 1) r39_73 rfl rfl rfl ?_
          refine x_ld (v := .int v2) r39_76 rfl rfl rfl ?_
          refine x_ld (v := .int x7) r39_77 rfl rfl rfl ?_
          obtain ⟨q12, h13, h⟩ := am_ltE h
          replace h13 := h13.symm
          refine x_call0 (as := [.ref 1, .int v2, .int x7]) (rest := []) r39_79 rfl rfl rfl (by decide) (Nat.le_of_ble_eq_true rfl) (m213_ok h13) (Nat.le_trans (by decide) hd) (Nat.zero_le _) (Nat.zero_le _) rfl ?_
          obtain ⟨x14, e15, h⟩ := am_ltE h
          refine x_sto (lc' := [.ref 0, .int x14, .int v2, .int v3, .int x7]) r39_82 rfl rfl (by subst e15; rfl) rfl ?_
          obtain ⟨x16, e17, h⟩ := am_ltE h
          refine x_sto (lc' := [.ref 0, .int x14, .int v2, .int x16, .int x7]) r39_85 rfl rfl (by subst e17; rfl) rfl ?_
          refine x_goto r39_88 ?_
          exact x_forget (lc0 := [.ref 0, .int x14, .int v2, .int x16, am_dead]) ⟨Or.inl rfl, Or.inl rfl, Or.inl rfl, Or.inl rfl, Or.inr ⟨rfl, rfl⟩, trivial⟩ (ih q12 x14 v2 x16 h k0 k1)
theorem m39_w {d mc ms : Nat} {N : Nat} {D : am_D} {Q : am_O → am_AH → Prop} (hd : 5 ≤ d) {r : Int32 × am_D} (h : m39 N D = some r) (hQ : Q (.inl (some (.int r.1))) (am_mk r.2)) : am_X xs L 39 d mc ms 0 [.ref 0, am_dead, am_dead, am_dead, am_dead] [] (am_mk D) 0 0 Q := by
  unfold m39 at h
  refine x_ic (v := 0) r39_0 rfl rfl ?_
  refine x_sto (lc' := [.ref 0, .int (0 : Int32), am_dead, am_dead, am_dead]) r39_1 rfl rfl rfl rfl ?_
  refine x_ic (v := -1) r39_2 rfl rfl ?_
  refine x_sto (lc' := [.ref 0, .int (0 : Int32), .int (-1 : Int32), am_dead, am_dead]) r39_3 rfl rfl rfl rfl ?_
  refine x_ic (v := 0) r39_4 rfl rfl ?_
  refine x_sto (lc' := [.ref 0, .int (0 : Int32), .int (-1 : Int32), .int (0 : Int32), am_dead]) r39_5 rfl rfl rfl rfl ?_
  obtain ⟨q18, h19, h⟩ := Option.bind_eq_some_iff.mp h
  refine x_forget (lc0 := [.ref 0, .int (0 : Int32), .int (-1 : Int32), .int (0 : Int32), am_dead]) ⟨Or.inl rfl, Or.inl rfl, Or.inl rfl, Or.inl rfl, Or.inl rfl, trivial⟩ (m39_L6_w hd N D (0 : Int32) (-1 : Int32) (0 : Int32) h19 (fun e20 => ?_) (fun e21 => ?_))
  · rw [if_pos e20] at h
    refine x_ld (v := .int q18.2.1) r39_91 rfl rfl rfl ?_
    cases h
    exact x_ret (ret := some .int) (C := True) (v := some (.int _)) r39_92 rt39 rfl rfl rfl rfl rfl rfl rfl rfl trivial hQ
  · rw [if_neg (by rw [e21]; decide)] at h
    refine x_ld (v := .int q18.2.1) r39_70 rfl rfl rfl ?_
    cases h
    exact x_ret (ret := some .int) (C := True) (v := some (.int _)) r39_71 rt39 rfl rfl rfl rfl rfl rfl rfl rfl trivial hQ
theorem m39_ok {N : Nat} {D : am_D} {r : Int32 × am_D} (h : m39 N D = some r) : am_Y xs L 39 5 0 0 [.ref 0] D (.inl (some (.int r.1))) r.2 := am_Yof (mi := am_m39) (lc := [.ref 0, am_dead, am_dead, am_dead, am_dead]) pg39 (Nat.le_of_ble_eq_true rfl) (am_rc1 (ci := 7) rfl rfl rfl rfl rfl) rfl (fun Q hQ => m39_w (Nat.le_refl _) h hQ)
theorem r161_0 : am_at 161 0 = some (.aload_n 0, 1, [0]) := by decide +kernel
theorem r161_1 : am_at 161 1 = some (.getfield 37, 3, [0, 4, 0, 140]) := by decide +kernel
theorem r161_4 : am_at 161 4 = some (.ifCond .ne (8), 3, [12]) := by decide +kernel
theorem r161_7 : am_at 161 7 = some (.iload_n 1, 1, [1]) := by decide +kernel
theorem r161_8 : am_at 161 8 = some (.invokestatic 44, 3, [251, 1, 580, 0]) := by decide +kernel
theorem r161_11 : am_at 161 11 = some (.ireturn, 1, []) := by decide +kernel
theorem r161_12 : am_at 161 12 = some (.iload_n 1, 1, [1]) := by decide +kernel
theorem r161_13 : am_at 161 13 = some (.aload_n 0, 1, [0]) := by decide +kernel
theorem r161_14 : am_at 161 14 = some (.iload_n 1, 1, [1]) := by decide +kernel
theorem r161_15 : am_at 161 15 = some (.iload_n 2, 1, [2]) := by decide +kernel
theorem r161_16 : am_at 161 16 = some (.invokevirtual 64, 3, [162, 3, 918, 0]) := by decide +kernel
theorem r161_19 : am_at 161 19 = some (.invokestatic 53, 3, [255, 2, 440, 0]) := by decide +kernel
theorem r161_22 : am_at 161 22 = some (.aload_n 0, 1, [0]) := by decide +kernel
theorem r161_23 : am_at 161 23 = some (.iload_n 2, 1, [2]) := by decide +kernel
theorem r161_24 : am_at 161 24 = some (.invokestatic 67, 3, [166, 1, 924, 0]) := by decide +kernel
theorem r161_27 : am_at 161 27 = some (.invokevirtual 61, 3, [157, 2, 432, 0]) := by decide +kernel
theorem r161_30 : am_at 161 30 = some (.iadd, 1, []) := by decide +kernel
theorem r161_31 : am_at 161 31 = some (.ireturn, 1, []) := by decide +kernel
theorem rt161 : am_rtt 161 = some (some .int) := by decide +kernel
set_option maxRecDepth 100000 in
theorem pg161 : am_pg[161]? = some am_m161 := rfl
theorem m161_w {d mc ms : Nat} {D : am_D} {v1 : Int32} {v2 : Int32} {Q : am_O → am_AH → Prop} (hd : 4 ≤ d) {r : Int32} (h : m161 D v1 v2 = r) (hQ : Q (.inl (some (.int r))) (am_mk D)) : am_X xs L 161 d mc ms 0 [.ref 2, .int v1, .int v2] [] (am_mk D) 0 0 Q := by
  unfold m161 at h
  refine x_ld (v := .ref 2) r161_0 rfl rfl rfl ?_
  refine y_gf (cd := 0) (v := .int (D.1 2 4)) r161_1 rfl rfl rfl ?_
  rcases am_ifE h with ⟨c1, h⟩ | ⟨c1, h⟩
  · refine x_ifneT r161_4 c1 rfl ?_
    refine x_ld (v := .int v1) r161_7 rfl rfl rfl ?_
    refine x_call1 (as := [.int v1]) (rest := []) r161_8 rfl rfl rfl (by decide) (Nat.le_of_ble_eq_true rfl) (m251_ok rfl) (Nat.le_trans (by decide) hd) (Nat.zero_le _) (Nat.zero_le _) rfl ?_
    subst h
    exact x_ret (ret := some .int) (C := True) (v := some (.int _)) r161_11 rt161 rfl rfl rfl rfl rfl rfl rfl rfl trivial hQ
  · refine x_ifneF r161_4 c1 ?_
    refine x_ld (v := .int v1) r161_12 rfl rfl rfl ?_
    refine x_ld (v := .ref 2) r161_13 rfl rfl rfl ?_
    refine x_ld (v := .int v1) r161_14 rfl rfl rfl ?_
    refine x_ld (v := .int v2) r161_15 rfl rfl rfl ?_
    refine x_call1 (as := [.ref 2, .int v1, .int v2]) (rest := [.int v1]) r161_16 rfl rfl rfl (by decide) (Nat.le_of_ble_eq_true rfl) (m162_ok rfl) (Nat.le_trans (by decide) hd) (Nat.zero_le _) (Nat.zero_le _) rfl ?_
    refine x_call1 (as := [.int v1, .int (m162 D v1 v2)]) (rest := []) r161_19 rfl rfl rfl (by decide) (Nat.le_of_ble_eq_true rfl) (m255_ok rfl) (Nat.le_trans (by decide) hd) (Nat.zero_le _) (Nat.zero_le _) rfl ?_
    refine x_ld (v := .ref 2) r161_22 rfl rfl rfl ?_
    refine x_ld (v := .int v2) r161_23 rfl rfl rfl ?_
    refine x_call1 (as := [.int v2]) (rest := [.ref 2, .int (m255 v1 (m162 D v1 v2))]) r161_24 rfl rfl rfl (by decide) (Nat.le_of_ble_eq_true rfl) (m166_ok rfl) (Nat.le_trans (by decide) hd) (Nat.zero_le _) (Nat.zero_le _) rfl ?_
    refine x_call1 (as := [.ref 2, .int (m166 v2)]) (rest := [.int (m255 v1 (m162 D v1 v2))]) r161_27 rfl rfl rfl (by decide) (Nat.le_of_ble_eq_true rfl) (m157_ok rfl) (Nat.le_trans (by decide) hd) (Nat.zero_le _) (Nat.zero_le _) rfl ?_
    refine x_ar r161_30 rfl trivial rfl ?_
    subst h
    exact x_ret (ret := some .int) (C := True) (v := some (.int _)) r161_31 rt161 rfl rfl rfl rfl rfl rfl rfl rfl trivial hQ
theorem m161_ok {D : am_D} {v1 : Int32} {v2 : Int32} {r : Int32} (h : m161 D v1 v2 = r) : am_Y xs L 161 4 0 0 [.ref 2, .int v1, .int v2] D (.inl (some (.int r))) D := am_Yof (mi := am_m161) (lc := [.ref 2, .int v1, .int v2]) pg161 (Nat.le_of_ble_eq_true rfl) (am_rc1 (ci := 0) rfl rfl rfl rfl rfl) rfl (fun Q hQ => m161_w (Nat.le_refl _) h hQ)
theorem r174_0 : am_at 174 0 = some (.iconst (0), 1, []) := by decide +kernel
theorem r174_1 : am_at 174 1 = some (.istore 4, 2, [4]) := by decide +kernel
theorem r174_3 : am_at 174 3 = some (.iload 4, 2, [4]) := by decide +kernel
theorem r174_5 : am_at 174 5 = some (.iconst (2), 1, []) := by decide +kernel
theorem r174_6 : am_at 174 6 = some (.aload_n 0, 1, [0]) := by decide +kernel
theorem r174_7 : am_at 174 7 = some (.getfield 24, 3, [2, 4, 0, 298]) := by decide +kernel
theorem r174_10 : am_at 174 10 = some (.imul, 1, []) := by decide +kernel
theorem r174_11 : am_at 174 11 = some (.if_icmp .ge (29), 3, [40]) := by decide +kernel
theorem r174_14 : am_at 174 14 = some (.aload_n 0, 1, [0]) := by decide +kernel
theorem r174_15 : am_at 174 15 = some (.iload_n 1, 1, [1]) := by decide +kernel
theorem r174_16 : am_at 174 16 = some (.iload_n 2, 1, [2]) := by decide +kernel
theorem r174_17 : am_at 174 17 = some (.iload_n 3, 1, [3]) := by decide +kernel
theorem r174_18 : am_at 174 18 = some (.iload 4, 2, [4]) := by decide +kernel
theorem r174_20 : am_at 174 20 = some (.iconst (2), 1, []) := by decide +kernel
theorem r174_21 : am_at 174 21 = some (.idiv, 1, []) := by decide +kernel
theorem r174_22 : am_at 174 22 = some (.iload 4, 2, [4]) := by decide +kernel
theorem r174_24 : am_at 174 24 = some (.iconst (2), 1, []) := by decide +kernel
theorem r174_25 : am_at 174 25 = some (.irem, 1, []) := by decide +kernel
theorem r174_26 : am_at 174 26 = some (.invokevirtual 86, 3, [175, 6, 739, 0]) := by decide +kernel
theorem r174_29 : am_at 174 29 = some (.ifCond .eq (5), 3, [34]) := by decide +kernel
theorem r174_32 : am_at 174 32 = some (.iconst (1), 1, []) := by decide +kernel
theorem r174_33 : am_at 174 33 = some (.ireturn, 1, []) := by decide +kernel
theorem r174_34 : am_at 174 34 = some (.iinc 4 (1), 3, [4]) := by decide +kernel
theorem r174_37 : am_at 174 37 = some (.goto (-34), 3, [3]) := by decide +kernel
theorem r174_40 : am_at 174 40 = some (.iconst (0), 1, []) := by decide +kernel
theorem r174_41 : am_at 174 41 = some (.ireturn, 1, []) := by decide +kernel
theorem rt174 : am_rtt 174 = some (some .boolean) := by decide +kernel
set_option maxRecDepth 100000 in
theorem pg174 : am_pg[174]? = some am_m174 := rfl
theorem m174_L3_w {d : Nat} {N : Nat} {D : am_D} {v1 : Int32} {v2 : Int32} {v3 : Int32} {mc ms : Nat} {Q : am_O → am_AH → Prop} (hd : 4 ≤ d) : ∀ (n : Nat) (v4 : Int32) {q : Nat} (h : m174_L3 N D v1 v2 v3  n v4 = some q) (k0 : q = 0 → am_X xs L 174 d mc ms 40 [.ref 99, am_dead, am_dead, am_dead, am_dead] [] (am_mk D) 0 0 Q) (k1 : q = 1 → am_X xs L 174 d mc ms 32 [.ref 99, am_dead, am_dead, am_dead, am_dead] [] (am_mk D) 0 0 Q), am_X xs L 174 d mc ms 3 [.ref 99, .int v1, .int v2, .int v3, .int v4] [] (am_mk D) 0 0 Q := by
  intro n
  induction n with
  | zero =>
    intro v4 q h k0 k1
    exact (nomatch (show none = some q from h))
  | succ n ih =>
    intro v4 q h k0 k1
    rw [m174_L3] at h
    refine x_ld (v := .int v4) r174_3 rfl rfl rfl ?_
    refine x_ic (v := 2) r174_5 rfl rfl ?_
    refine x_ld (v := .ref 99) r174_6 rfl rfl rfl ?_
    refine y_gf (cd := 0) (v := .int (D.1 99 4)) r174_7 rfl rfl rfl ?_
    refine x_ar r174_10 rfl trivial rfl ?_
    rcases am_ifE h with ⟨c1, h⟩ | ⟨c1, h⟩
    · refine x_icgeT r174_11 c1 ?_
      refine x_forget (lc0 := [.ref 99, am_dead, am_dead, am_dead, am_dead]) ⟨Or.inl rfl, Or.inr ⟨rfl, rfl⟩, Or.inr ⟨rfl, rfl⟩, Or.inr ⟨rfl, rfl⟩, Or.inr ⟨rfl, rfl⟩, trivial⟩ ?_
      cases h
      exact k0 rfl
    · refine x_icgeF r174_11 c1 rfl ?_
      refine x_ld (v := .ref 99) r174_14 rfl rfl rfl ?_
      refine x_ld (v := .int v1) r174_15 rfl rfl rfl ?_
      refine x_ld (v := .int v2) r174_16 rfl rfl rfl ?_
      refine x_ld (v := .int v3) r174_17 rfl rfl rfl ?_
      refine x_ld (v := .int v4) r174_18 rfl rfl rfl ?_
      refine x_ic (v := 2) r174_20 rfl rfl ?_
      refine x_ar r174_21 rfl (by decide) rfl ?_
      refine x_ld (v := .int v4) r174_22 rfl rfl rfl ?_
      refine x_ic (v := 2) r174_24 rfl rfl ?_
      refine x_ar r174_25 rfl (by decide) rfl ?_
      refine x_call1 (as := [.ref 99, .int v1, .int v2, .int v3, .int (v4 / (2 : Int32)), .int (v4 - v4 / (2 : Int32) * (2 : Int32))]) (rest := []) r174_26 rfl rfl rfl (by decide) (Nat.le_of_ble_eq_true rfl) (m175_ok rfl) (Nat.le_trans (by decide) hd) (Nat.zero_le _) (Nat.zero_le _) rfl ?_
      rcases am_ifE h with ⟨c2, h⟩ | ⟨c2, h⟩
      · refine x_ifeqT r174_29 c2 ?_
        obtain ⟨x3, e4, h⟩ := am_ltE h
        refine x_sto (lc' := [.ref 99, .int v1, .int v2, .int v3, .int x3]) r174_34 rfl rfl (by subst e4; rfl) rfl ?_
        refine x_goto r174_37 ?_
        exact x_forget (lc0 := [.ref 99, .int v1, .int v2, .int v3, .int x3]) ⟨Or.inl rfl, Or.inl rfl, Or.inl rfl, Or.inl rfl, Or.inl rfl, trivial⟩ (ih x3 h k0 k1)
      · refine x_ifeqF r174_29 c2 rfl ?_
        refine x_forget (lc0 := [.ref 99, am_dead, am_dead, am_dead, am_dead]) ⟨Or.inl rfl, Or.inr ⟨rfl, rfl⟩, Or.inr ⟨rfl, rfl⟩, Or.inr ⟨rfl, rfl⟩, Or.inr ⟨rfl, rfl⟩, trivial⟩ ?_
        cases h
        exact k1 rfl
theorem m174_w {d mc ms : Nat} {N : Nat} {D : am_D} {v1 : Int32} {v2 : Int32} {v3 : Int32} {Q : am_O → am_AH → Prop} (hd : 4 ≤ d) {r : Int32} (h : m174 N D v1 v2 v3 = some r) (hQ : Q (.inl (some (.int r))) (am_mk D)) : am_X xs L 174 d mc ms 0 [.ref 99, .int v1, .int v2, .int v3, am_dead] [] (am_mk D) 0 0 Q := by
  unfold m174 at h
  refine x_ic (v := 0) r174_0 rfl rfl ?_
  refine x_sto (lc' := [.ref 99, .int v1, .int v2, .int v3, .int (0 : Int32)]) r174_1 rfl rfl rfl rfl ?_
  obtain ⟨q5, h6, h⟩ := Option.bind_eq_some_iff.mp h
  refine x_forget (lc0 := [.ref 99, .int v1, .int v2, .int v3, .int (0 : Int32)]) ⟨Or.inl rfl, Or.inl rfl, Or.inl rfl, Or.inl rfl, Or.inl rfl, trivial⟩ (m174_L3_w hd N (0 : Int32) h6 (fun e7 => ?_) (fun e8 => ?_))
  · rw [if_pos e7] at h
    refine x_ic (v := 0) r174_40 rfl rfl ?_
    cases h
    exact x_ret (ret := some .boolean) (C := narrow .boolean (.int (0 : Int32)) = .int (0 : Int32)) (v := some (.int (0 : Int32))) r174_41 rt174 rfl rfl rfl rfl rfl rfl rfl rfl (by decide) hQ
  · rw [if_neg (by rw [e8]; decide)] at h
    refine x_ic (v := 1) r174_32 rfl rfl ?_
    cases h
    exact x_ret (ret := some .boolean) (C := narrow .boolean (.int (1 : Int32)) = .int (1 : Int32)) (v := some (.int (1 : Int32))) r174_33 rt174 rfl rfl rfl rfl rfl rfl rfl rfl (by decide) hQ
theorem m174_ok {N : Nat} {D : am_D} {v1 : Int32} {v2 : Int32} {v3 : Int32} {r : Int32} (h : m174 N D v1 v2 v3 = some r) : am_Y xs L 174 4 0 0 [.ref 99, .int v1, .int v2, .int v3] D (.inl (some (.int r))) D := am_Yof (mi := am_m174) (lc := [.ref 99, .int v1, .int v2, .int v3, am_dead]) pg174 (Nat.le_of_ble_eq_true rfl) (am_rc1 (ci := 2) rfl rfl rfl rfl rfl) rfl (fun Q hQ => m174_w (Nat.le_refl _) h hQ)
theorem r189_0 : am_at 189 0 = some (.aload_n 0, 1, [0]) := by decide +kernel
theorem r189_1 : am_at 189 1 = some (.iload_n 2, 1, [2]) := by decide +kernel
theorem r189_2 : am_at 189 2 = some (.putfield 28, 3, [3, 5, 0, 273]) := by decide +kernel
theorem r189_5 : am_at 189 5 = some (.iconst (0), 1, []) := by decide +kernel
theorem r189_6 : am_at 189 6 = some (.istore_n 3, 1, [3]) := by decide +kernel
theorem r189_7 : am_at 189 7 = some (.iload_n 3, 1, [3]) := by decide +kernel
theorem r189_8 : am_at 189 8 = some (.iconst (3), 1, []) := by decide +kernel
theorem r189_9 : am_at 189 9 = some (.if_icmp .ge (28), 3, [37]) := by decide +kernel
theorem r189_12 : am_at 189 12 = some (.aload_n 0, 1, [0]) := by decide +kernel
theorem r189_13 : am_at 189 13 = some (.getfield 11, 3, [3, 0, 3, 268]) := by decide +kernel
theorem r189_16 : am_at 189 16 = some (.iload_n 3, 1, [3]) := by decide +kernel
theorem r189_17 : am_at 189 17 = some (.aload_n 1, 1, [1]) := by decide +kernel
theorem r189_18 : am_at 189 18 = some (.iload_n 2, 1, [2]) := by decide +kernel
theorem r189_19 : am_at 189 19 = some (.iconst (1), 1, []) := by decide +kernel
theorem r189_20 : am_at 189 20 = some (.iadd, 1, []) := by decide +kernel
theorem r189_21 : am_at 189 21 = some (.iload_n 3, 1, [3]) := by decide +kernel
theorem r189_22 : am_at 189 22 = some (.iadd, 1, []) := by decide +kernel
theorem r189_23 : am_at 189 23 = some (.iconst (4), 1, []) := by decide +kernel
theorem r189_24 : am_at 189 24 = some (.irem, 1, []) := by decide +kernel
theorem r189_25 : am_at 189 25 = some (.invokevirtual 32, 3, [204, 2, 645, 0]) := by decide +kernel
theorem r189_28 : am_at 189 28 = some (.invokestatic 38, 3, [181, 3, 646, 0]) := by decide +kernel
theorem r189_31 : am_at 189 31 = some (.iinc 3 (1), 3, [3]) := by decide +kernel
theorem r189_34 : am_at 189 34 = some (.goto (-27), 3, [7]) := by decide +kernel
theorem r189_37 : am_at 189 37 = some (.aload_n 0, 1, [0]) := by decide +kernel
theorem r189_38 : am_at 189 38 = some (.getfield 18, 3, [3, 2, 3, 270]) := by decide +kernel
theorem r189_41 : am_at 189 41 = some (.iconst (0), 1, []) := by decide +kernel
theorem r189_42 : am_at 189 42 = some (.invokestatic 44, 3, [183, 2, 647, 0]) := by decide +kernel
theorem r189_45 : am_at 189 45 = some (.iconst (0), 1, []) := by decide +kernel
theorem r189_46 : am_at 189 46 = some (.istore_n 3, 1, [3]) := by decide +kernel
theorem r189_47 : am_at 189 47 = some (.iload_n 3, 1, [3]) := by decide +kernel
theorem r189_48 : am_at 189 48 = some (.bipush (28), 2, []) := by decide +kernel
theorem r189_50 : am_at 189 50 = some (.if_icmp .ge (77), 3, [127]) := by decide +kernel
theorem r189_53 : am_at 189 53 = some (.aload_n 1, 1, [1]) := by decide +kernel
theorem r189_54 : am_at 189 54 = some (.iload_n 3, 1, [3]) := by decide +kernel
theorem r189_55 : am_at 189 55 = some (.invokevirtual 48, 3, [203, 2, 650, 0]) := by decide +kernel
theorem r189_58 : am_at 189 58 = some (.istore 4, 2, [4]) := by decide +kernel
theorem r189_60 : am_at 189 60 = some (.iload 4, 2, [4]) := by decide +kernel
theorem r189_62 : am_at 189 62 = some (.iload_n 2, 1, [2]) := by decide +kernel
theorem r189_63 : am_at 189 63 = some (.if_icmp .eq (18), 3, [81]) := by decide +kernel
theorem r189_66 : am_at 189 66 = some (.iload 4, 2, [4]) := by decide +kernel
theorem r189_68 : am_at 189 68 = some (.ifCond .lt (13), 3, [81]) := by decide +kernel
theorem r189_71 : am_at 189 71 = some (.iload 4, 2, [4]) := by decide +kernel
theorem r189_73 : am_at 189 73 = some (.iconst (4), 1, []) := by decide +kernel
theorem r189_74 : am_at 189 74 = some (.if_icmp .ge (7), 3, [81]) := by decide +kernel
theorem r189_77 : am_at 189 77 = some (.iconst (1), 1, []) := by decide +kernel
theorem r189_78 : am_at 189 78 = some (.goto (4), 3, [82]) := by decide +kernel
theorem r189_81 : am_at 189 81 = some (.iconst (0), 1, []) := by decide +kernel
theorem r189_82 : am_at 189 82 = some (.istore 5, 2, [5]) := by decide +kernel
theorem r189_84 : am_at 189 84 = some (.iload 5, 2, [5]) := by decide +kernel
theorem r189_86 : am_at 189 86 = some (.ifCond .eq (12), 3, [98]) := by decide +kernel
theorem r189_89 : am_at 189 89 = some (.aload_n 0, 1, [0]) := by decide +kernel
theorem r189_90 : am_at 189 90 = some (.aload_n 1, 1, [1]) := by decide +kernel
theorem r189_91 : am_at 189 91 = some (.iload_n 3, 1, [3]) := by decide +kernel
theorem r189_92 : am_at 189 92 = some (.invokevirtual 51, 3, [191, 3, 651, 0]) := by decide +kernel
theorem r189_95 : am_at 189 95 = some (.goto (4), 3, [99]) := by decide +kernel
theorem r189_98 : am_at 189 98 = some (.iconst (-1), 1, []) := by decide +kernel
theorem r189_99 : am_at 189 99 = some (.istore 6, 2, [6]) := by decide +kernel
theorem r189_101 : am_at 189 101 = some (.aload_n 0, 1, [0]) := by decide +kernel
theorem r189_102 : am_at 189 102 = some (.getfield 15, 3, [3, 1, 3, 269]) := by decide +kernel
theorem r189_105 : am_at 189 105 = some (.iload_n 3, 1, [3]) := by decide +kernel
theorem r189_106 : am_at 189 106 = some (.iload 6, 2, [6]) := by decide +kernel
theorem r189_108 : am_at 189 108 = some (.invokestatic 38, 3, [181, 3, 646, 0]) := by decide +kernel
theorem r189_111 : am_at 189 111 = some (.aload_n 0, 1, [0]) := by decide +kernel
theorem r189_112 : am_at 189 112 = some (.getfield 18, 3, [3, 2, 3, 270]) := by decide +kernel
theorem r189_115 : am_at 189 115 = some (.iload 6, 2, [6]) := by decide +kernel
theorem r189_117 : am_at 189 117 = some (.iconst (1), 1, []) := by decide +kernel
theorem r189_118 : am_at 189 118 = some (.invokestatic 55, 3, [182, 3, 658, 0]) := by decide +kernel
theorem r189_121 : am_at 189 121 = some (.iinc 3 (1), 3, [3]) := by decide +kernel
theorem r189_124 : am_at 189 124 = some (.goto (-77), 3, [47]) := by decide +kernel
theorem r189_127 : am_at 189 127 = some (.return_, 1, []) := by decide +kernel
theorem rt189 : am_rtt 189 = some (none) := by decide +kernel
set_option maxRecDepth 100000 in
theorem pg189 : am_pg[189]? = some am_m189 := rfl
theorem m189_L7_w {d : Nat} {N : Nat} {v2 : Int32} {mc ms : Nat} {Q : am_O → am_AH → Prop} (hd : 3 ≤ d) : ∀ (n : Nat) (D : am_D) (v3 : Int32) {q : am_D} (h : m189_L7 N v2  n D v3 = some q) (k0 : am_X xs L 189 d mc ms 37 [.ref 93, .ref 1, .int v2, am_dead, am_dead, am_dead, am_dead] [] (am_mk q) 0 0 Q), am_X xs L 189 d mc ms 7 [.ref 93, .ref 1, .int v2, .int v3, am_dead, am_dead, am_dead] [] (am_mk D) 0 0 Q := by
  intro n
  induction n with
  | zero =>
    intro D v3 q h k0
    exact (nomatch (show none = some q from h))
  | succ n ih =>
    intro D v3 q h k0
    rw [m189_L7] at h
    refine x_ld (v := .int v3) r189_7 rfl rfl rfl ?_
    refine x_ic (v := 3) r189_8 rfl rfl ?_
    rcases am_ifE h with ⟨c3, h⟩ | ⟨c3, h⟩
    · refine x_icgeT r189_9 c3 ?_
      refine x_forget (lc0 := [.ref 93, .ref 1, .int v2, am_dead, am_dead, am_dead, am_dead]) ⟨Or.inl rfl, Or.inl rfl, Or.inl rfl, Or.inr ⟨rfl, rfl⟩, Or.inl rfl, Or.inl rfl, Or.inl rfl, trivial⟩ ?_
      cases h
      exact k0
    · refine x_icgeF r189_9 c3 rfl ?_
      refine x_ld (v := .ref 93) r189_12 rfl rfl rfl ?_
      refine y_gf (cd := 96) (v := .ref 94) r189_13 rfl rfl rfl ?_
      refine x_ld (v := .int v3) r189_16 rfl rfl rfl ?_
      refine x_ld (v := .ref 1) r189_17 rfl rfl rfl ?_
      refine x_ld (v := .int v2) r189_18 rfl rfl rfl ?_
      refine x_ic (v := 1) r189_19 rfl rfl ?_
      refine x_ar r189_20 rfl trivial rfl ?_
      refine x_ld (v := .int v3) r189_21 rfl rfl rfl ?_
      refine x_ar r189_22 rfl trivial rfl ?_
      refine x_ic (v := 4) r189_23 rfl rfl ?_
      refine x_ar r189_24 rfl (by decide) rfl ?_
      obtain ⟨q4, h5, h⟩ := Option.bind_eq_some_iff.mp h
      refine x_call1 (as := [.ref 1, .int (((v2 + (1 : Int32)) + v3) - ((v2 + (1 : Int32)) + v3) / (4 : Int32) * (4 : Int32))]) (rest := [.int v3, .ref 94]) r189_25 rfl rfl rfl (by decide) (Nat.le_of_ble_eq_true rfl) (m204_ok h5) (Nat.le_trans (by decide) hd) (Nat.zero_le _) (Nat.zero_le _) rfl ?_
      obtain ⟨D6, e7, h⟩ := am_ltE h
      refine x_call0 (as := [.ref 94, .int v3, .int q4]) (rest := []) r189_28 rfl rfl rfl (by decide) (Nat.le_of_ble_eq_true rfl) (am_rows_put (n := 3) rfl (by decide) e7) (Nat.le_trans (by decide) hd) (Nat.zero_le _) (Nat.zero_le _) rfl ?_
      obtain ⟨x8, e9, h⟩ := am_ltE h
      refine x_sto (lc' := [.ref 93, .ref 1, .int v2, .int x8, am_dead, am_dead, am_dead]) r189_31 rfl rfl (by subst e9; rfl) rfl ?_
      refine x_goto r189_34 ?_
      exact x_forget (lc0 := [.ref 93, .ref 1, .int v2, .int x8, am_dead, am_dead, am_dead]) ⟨Or.inl rfl, Or.inl rfl, Or.inl rfl, Or.inl rfl, Or.inl rfl, Or.inl rfl, Or.inl rfl, trivial⟩ (ih D6 x8 h k0)
theorem m189_L47_w {d : Nat} {N : Nat} {v2 : Int32} {mc ms : Nat} {Q : am_O → am_AH → Prop} (hd : 3 ≤ d) : ∀ (n : Nat) (D : am_D) (v3 : Int32) {q : am_D} (h : m189_L47 N v2  n D v3 = some q) (k0 : am_X xs L 189 d mc ms 127 [.ref 93, .ref 1, am_dead, am_dead, am_dead, am_dead, am_dead] [] (am_mk q) 0 0 Q), am_X xs L 189 d mc ms 47 [.ref 93, .ref 1, .int v2, .int v3, am_dead, am_dead, am_dead] [] (am_mk D) 0 0 Q := by
  intro n
  induction n with
  | zero =>
    intro D v3 q h k0
    exact (nomatch (show none = some q from h))
  | succ n ih =>
    intro D v3 q h k0
    rw [m189_L47] at h
    refine x_ld (v := .int v3) r189_47 rfl rfl rfl ?_
    refine x_bi (v := 28) r189_48 rfl rfl ?_
    rcases am_ifE h with ⟨c14, h⟩ | ⟨c14, h⟩
    · refine x_icgeT r189_50 c14 ?_
      refine x_forget (lc0 := [.ref 93, .ref 1, am_dead, am_dead, am_dead, am_dead, am_dead]) ⟨Or.inl rfl, Or.inl rfl, Or.inr ⟨rfl, rfl⟩, Or.inr ⟨rfl, rfl⟩, Or.inl rfl, Or.inl rfl, Or.inl rfl, trivial⟩ ?_
      cases h
      exact k0
    · refine x_icgeF r189_50 c14 rfl ?_
      refine x_ld (v := .ref 1) r189_53 rfl rfl rfl ?_
      refine x_ld (v := .int v3) r189_54 rfl rfl rfl ?_
      refine x_call1 (as := [.ref 1, .int v3]) (rest := []) r189_55 rfl rfl rfl (by decide) (Nat.le_of_ble_eq_true rfl) (m203_ok rfl) (Nat.le_trans (by decide) hd) (Nat.zero_le _) (Nat.zero_le _) rfl ?_
      obtain ⟨x15, e16, h⟩ := am_ltE h
      refine am_topI e16 ?_
      refine x_sto (lc' := [.ref 93, .ref 1, .int v2, .int v3, .int x15, am_dead, am_dead]) r189_58 rfl rfl rfl rfl ?_
      refine x_ld (v := .int x15) r189_60 rfl rfl rfl ?_
      refine x_ld (v := .int v2) r189_62 rfl rfl rfl ?_
      obtain ⟨q17, h19, h⟩ := am_ltE h
      replace h19 := h19.symm
      have kj18 : am_X xs L 189 d mc ms 82 [.ref 93, .ref 1, .int v2, .int v3, .int x15, am_dead, am_dead] [.int q17] (am_mk D) 0 0 Q := by
        refine x_sto (lc' := [.ref 93, .ref 1, .int v2, .int v3, .int x15, .int q17, am_dead]) r189_82 rfl rfl rfl rfl ?_
        refine x_ld (v := .int q17) r189_84 rfl rfl rfl ?_
        obtain ⟨q23, h25, h⟩ := Option.bind_eq_some_iff.mp h
        have kj24 : am_X xs L 189 d mc ms 99 [.ref 93, .ref 1, .int v2, .int v3, .int x15, .int q17, am_dead] [.int q23] (am_mk D) 0 0 Q := by
          refine x_sto (lc' := [.ref 93, .ref 1, .int v2, .int v3, .int x15, .int q17, .int q23]) r189_99 rfl rfl rfl rfl ?_
          refine x_ld (v := .ref 93) r189_101 rfl rfl rfl ?_
          refine y_gf (cd := 97) (v := .ref 95) r189_102 rfl rfl rfl ?_
          refine x_ld (v := .int v3) r189_105 rfl rfl rfl ?_
          refine x_ld (v := .int q23) r189_106 rfl rfl rfl ?_
          obtain ⟨D29, e30, h⟩ := am_ltE h
          refine x_call0 (as := [.ref 95, .int v3, .int q23]) (rest := []) r189_108 rfl rfl rfl (by decide) (Nat.le_of_ble_eq_true rfl) (am_rows_put (n := 28) rfl (by decide) e30) (Nat.le_trans (by decide) hd) (Nat.zero_le _) (Nat.zero_le _) rfl ?_
          refine x_ld (v := .ref 93) r189_111 rfl rfl rfl ?_
          refine y_gf (cd := 98) (v := .ref 96) r189_112 rfl rfl rfl ?_
          refine x_ld (v := .int q23) r189_115 rfl rfl rfl ?_
          refine x_ic (v := 1) r189_117 rfl rfl ?_
          obtain ⟨D31, e32, h⟩ := am_ltE h
          refine x_call0 (as := [.ref 96, .int q23, .int (1 : Int32)]) (rest := []) r189_118 rfl rfl rfl (by decide) (Nat.le_of_ble_eq_true rfl) (am_rows_add (n := 8) rfl (by decide) e32) (Nat.le_trans (by decide) hd) (Nat.zero_le _) (Nat.zero_le _) rfl ?_
          obtain ⟨x33, e34, h⟩ := am_ltE h
          refine x_sto (lc' := [.ref 93, .ref 1, .int v2, .int x33, .int x15, .int q17, .int q23]) r189_121 rfl rfl (by subst e34; rfl) rfl ?_
          refine x_goto r189_124 ?_
          exact x_forget (lc0 := [.ref 93, .ref 1, .int v2, .int x33, am_dead, am_dead, am_dead]) ⟨Or.inl rfl, Or.inl rfl, Or.inl rfl, Or.inl rfl, Or.inr ⟨rfl, rfl⟩, Or.inr ⟨rfl, rfl⟩, Or.inr ⟨rfl, rfl⟩, trivial⟩ (ih D31 x33 h k0)
        rcases am_ifE h25 with ⟨c26, h25⟩ | ⟨c26, h25⟩
        · refine x_ifeqT r189_86 c26 ?_
          refine x_ic (v := -1) r189_98 rfl rfl ?_
          cases h25
          exact kj24
        · refine x_ifeqF r189_86 c26 rfl ?_
          refine x_ld (v := .ref 93) r189_89 rfl rfl rfl ?_
          refine x_ld (v := .ref 1) r189_90 rfl rfl rfl ?_
          refine x_ld (v := .int v3) r189_91 rfl rfl rfl ?_
          obtain ⟨q27, h28, h25⟩ := Option.bind_eq_some_iff.mp h25
          refine x_call1 (as := [.ref 93, .ref 1, .int v3]) (rest := []) r189_92 rfl rfl rfl (by decide) (Nat.le_of_ble_eq_true rfl) (m191_ok h28) (Nat.le_trans (by decide) hd) (Nat.zero_le _) (Nat.zero_le _) rfl ?_
          refine x_goto r189_95 ?_
          cases h25
          exact kj24
      rcases am_ifE h19 with ⟨c20, h19⟩ | ⟨c20, h19⟩
      · refine x_iceqT r189_63 c20 ?_
        refine x_ic (v := 0) r189_81 rfl rfl ?_
        subst h19
        exact kj18
      · refine x_iceqF r189_63 c20 rfl ?_
        refine x_ld (v := .int x15) r189_66 rfl rfl rfl ?_
        rcases am_ifE h19 with ⟨c21, h19⟩ | ⟨c21, h19⟩
        · refine x_ifltT r189_68 c21 ?_
          refine x_ic (v := 0) r189_81 rfl rfl ?_
          subst h19
          exact kj18
        · refine x_ifltF r189_68 c21 rfl ?_
          refine x_ld (v := .int x15) r189_71 rfl rfl rfl ?_
          refine x_ic (v := 4) r189_73 rfl rfl ?_
          rcases am_ifE h19 with ⟨c22, h19⟩ | ⟨c22, h19⟩
          · refine x_icgeT r189_74 c22 ?_
            refine x_ic (v := 0) r189_81 rfl rfl ?_
            subst h19
            exact kj18
          · refine x_icgeF r189_74 c22 rfl ?_
            refine x_ic (v := 1) r189_77 rfl rfl ?_
            refine x_goto r189_78 ?_
            subst h19
            exact kj18
theorem m189_w {d mc ms : Nat} {N : Nat} {D : am_D} {v2 : Int32} {Q : am_O → am_AH → Prop} (hd : 3 ≤ d) {r : am_D} (h : m189 N D v2 = some r) (hQ : Q (.inl none) (am_mk r)) : am_X xs L 189 d mc ms 0 [.ref 93, .ref 1, .int v2, am_dead, am_dead, am_dead, am_dead] [] (am_mk D) 0 0 Q := by
  unfold m189 at h
  refine x_ld (v := .ref 93) r189_0 rfl rfl rfl ?_
  refine x_ld (v := .int v2) r189_1 rfl rfl rfl ?_
  obtain ⟨D1, e2, h⟩ := am_ltE h
  refine y_pf0 r189_2 rfl e2 rfl ?_
  refine x_ic (v := 0) r189_5 rfl rfl ?_
  refine x_sto (lc' := [.ref 93, .ref 1, .int v2, .int (0 : Int32), am_dead, am_dead, am_dead]) r189_6 rfl rfl rfl rfl ?_
  obtain ⟨q10, h11, h⟩ := Option.bind_eq_some_iff.mp h
  refine x_forget (lc0 := [.ref 93, .ref 1, .int v2, .int (0 : Int32), am_dead, am_dead, am_dead]) ⟨Or.inl rfl, Or.inl rfl, Or.inl rfl, Or.inl rfl, Or.inl rfl, Or.inl rfl, Or.inl rfl, trivial⟩ (m189_L7_w hd N D1 (0 : Int32) h11 ?_)
  refine x_ld (v := .ref 93) r189_37 rfl rfl rfl ?_
  refine y_gf (cd := 98) (v := .ref 96) r189_38 rfl rfl rfl ?_
  refine x_ic (v := 0) r189_41 rfl rfl ?_
  obtain ⟨D12, e13, h⟩ := am_ltE h
  refine x_call0 (as := [.ref 96, .int (0 : Int32)]) (rest := []) r189_42 rfl rfl rfl (by decide) (Nat.le_of_ble_eq_true rfl) (am_rows_fill (n := 8) rfl (by decide) e13) (Nat.le_trans (by decide) hd) (Nat.zero_le _) (Nat.zero_le _) rfl ?_
  refine x_ic (v := 0) r189_45 rfl rfl ?_
  refine x_sto (lc' := [.ref 93, .ref 1, .int v2, .int (0 : Int32), am_dead, am_dead, am_dead]) r189_46 rfl rfl rfl rfl ?_
  obtain ⟨q35, h36, h⟩ := Option.bind_eq_some_iff.mp h
  refine x_forget (lc0 := [.ref 93, .ref 1, .int v2, .int (0 : Int32), am_dead, am_dead, am_dead]) ⟨Or.inl rfl, Or.inl rfl, Or.inl rfl, Or.inl rfl, Or.inl rfl, Or.inl rfl, Or.inl rfl, trivial⟩ (m189_L47_w hd N D12 (0 : Int32) h36 ?_)
  cases h
  exact x_ret (ret := none) (C := True) (v := none) r189_127 rt189 rfl rfl rfl rfl rfl rfl rfl rfl trivial hQ
theorem m189_ok {N : Nat} {D : am_D} {v2 : Int32} {r : am_D} (h : m189 N D v2 = some r) : am_Y xs L 189 3 0 0 [.ref 93, .ref 1, .int v2] D (.inl none) r := am_Yof (mi := am_m189) (lc := [.ref 93, .ref 1, .int v2, am_dead, am_dead, am_dead, am_dead]) pg189 (Nat.le_of_ble_eq_true rfl) (am_rc1 (ci := 3) rfl rfl rfl rfl rfl) rfl (fun Q hQ => m189_w (Nat.le_refl _) h hQ)
theorem r192_0 : am_at 192 0 = some (.iconst (0), 1, []) := by decide +kernel
theorem r192_1 : am_at 192 1 = some (.istore_n 1, 1, [1]) := by decide +kernel
theorem r192_2 : am_at 192 2 = some (.iload_n 1, 1, [1]) := by decide +kernel
theorem r192_3 : am_at 192 3 = some (.aload_n 0, 1, [0]) := by decide +kernel
theorem r192_4 : am_at 192 4 = some (.getfield 21, 3, [3, 3, 3, 271]) := by decide +kernel
theorem r192_7 : am_at 192 7 = some (.arraylength, 1, []) := by decide +kernel
theorem r192_8 : am_at 192 8 = some (.if_icmp .ge (16), 3, [24]) := by decide +kernel
theorem r192_11 : am_at 192 11 = some (.aload_n 0, 1, [0]) := by decide +kernel
theorem r192_12 : am_at 192 12 = some (.getfield 21, 3, [3, 3, 3, 271]) := by decide +kernel
theorem r192_15 : am_at 192 15 = some (.iload_n 1, 1, [1]) := by decide +kernel
theorem r192_16 : am_at 192 16 = some (.lconst 0, 1, []) := by decide +kernel
theorem r192_17 : am_at 192 17 = some (.lastore, 1, []) := by decide +kernel
theorem r192_18 : am_at 192 18 = some (.iinc 1 (1), 3, [1]) := by decide +kernel
theorem r192_21 : am_at 192 21 = some (.goto (-19), 3, [2]) := by decide +kernel
theorem r192_24 : am_at 192 24 = some (.aload_n 0, 1, [0]) := by decide +kernel
theorem r192_25 : am_at 192 25 = some (.iconst (0), 1, []) := by decide +kernel
theorem r192_26 : am_at 192 26 = some (.iconst (0), 1, []) := by decide +kernel
theorem r192_27 : am_at 192 27 = some (.lconst 1, 1, []) := by decide +kernel
theorem r192_28 : am_at 192 28 = some (.invokevirtual 73, 3, [195, 4, 665, 0]) := by decide +kernel
theorem r192_31 : am_at 192 31 = some (.iconst (0), 1, []) := by decide +kernel
theorem r192_32 : am_at 192 32 = some (.istore_n 1, 1, [1]) := by decide +kernel
theorem r192_33 : am_at 192 33 = some (.iconst (0), 1, []) := by decide +kernel
theorem r192_34 : am_at 192 34 = some (.istore_n 2, 1, [2]) := by decide +kernel
theorem r192_35 : am_at 192 35 = some (.iload_n 2, 1, [2]) := by decide +kernel
theorem r192_36 : am_at 192 36 = some (.aload_n 0, 1, [0]) := by decide +kernel
theorem r192_37 : am_at 192 37 = some (.getfield 15, 3, [3, 1, 3, 269]) := by decide +kernel
theorem r192_40 : am_at 192 40 = some (.arraylength, 1, []) := by decide +kernel
theorem r192_41 : am_at 192 41 = some (.if_icmp .ge (33), 3, [74]) := by decide +kernel
theorem r192_44 : am_at 192 44 = some (.aload_n 0, 1, [0]) := by decide +kernel
theorem r192_45 : am_at 192 45 = some (.getfield 15, 3, [3, 1, 3, 269]) := by decide +kernel
theorem r192_48 : am_at 192 48 = some (.iload_n 2, 1, [2]) := by decide +kernel
theorem r192_49 : am_at 192 49 = some (.iaload, 1, []) := by decide +kernel
theorem r192_50 : am_at 192 50 = some (.iconst (-1), 1, []) := by decide +kernel
theorem r192_51 : am_at 192 51 = some (.if_icmp .eq (17), 3, [68]) := by decide +kernel
theorem r192_54 : am_at 192 54 = some (.iinc 1 (1), 3, [1]) := by decide +kernel
theorem r192_57 : am_at 192 57 = some (.aload_n 0, 1, [0]) := by decide +kernel
theorem r192_58 : am_at 192 58 = some (.aload_n 0, 1, [0]) := by decide +kernel
theorem r192_59 : am_at 192 59 = some (.getfield 15, 3, [3, 1, 3, 269]) := by decide +kernel
theorem r192_62 : am_at 192 62 = some (.iload_n 2, 1, [2]) := by decide +kernel
theorem r192_63 : am_at 192 63 = some (.iaload, 1, []) := by decide +kernel
theorem r192_64 : am_at 192 64 = some (.iload_n 1, 1, [1]) := by decide +kernel
theorem r192_65 : am_at 192 65 = some (.invokevirtual 77, 3, [193, 3, 669, 0]) := by decide +kernel
theorem r192_68 : am_at 192 68 = some (.iinc 2 (1), 3, [2]) := by decide +kernel
theorem r192_71 : am_at 192 71 = some (.goto (-36), 3, [35]) := by decide +kernel
theorem r192_74 : am_at 192 74 = some (.aload_n 0, 1, [0]) := by decide +kernel
theorem r192_75 : am_at 192 75 = some (.aload_n 0, 1, [0]) := by decide +kernel
theorem r192_76 : am_at 192 76 = some (.getfield 11, 3, [3, 0, 3, 268]) := by decide +kernel
theorem r192_79 : am_at 192 79 = some (.iconst (0), 1, []) := by decide +kernel
theorem r192_80 : am_at 192 80 = some (.invokestatic 58, 3, [180, 2, 657, 0]) := by decide +kernel
theorem r192_83 : am_at 192 83 = some (.aload_n 0, 1, [0]) := by decide +kernel
theorem r192_84 : am_at 192 84 = some (.getfield 11, 3, [3, 0, 3, 268]) := by decide +kernel
theorem r192_87 : am_at 192 87 = some (.iconst (1), 1, []) := by decide +kernel
theorem r192_88 : am_at 192 88 = some (.invokestatic 58, 3, [180, 2, 657, 0]) := by decide +kernel
theorem r192_91 : am_at 192 91 = some (.invokevirtual 81, 3, [194, 3, 675, 0]) := by decide +kernel
theorem r192_94 : am_at 192 94 = some (.lreturn, 1, []) := by decide +kernel
theorem rt192 : am_rtt 192 = some (some .long) := by decide +kernel
set_option maxRecDepth 100000 in
theorem pg192 : am_pg[192]? = some am_m192 := rfl
theorem m192_L2_w {d : Nat} {N : Nat} {mc ms : Nat} {Q : am_O → am_AH → Prop} (hd : 3 ≤ d) : ∀ (n : Nat) (D : am_D) (v1 : Int32) {q : am_D} (h : m192_L2 N  n D v1 = some q) (k0 : am_X xs L 192 d mc ms 24 [.ref 93, am_dead, am_dead] [] (am_mk q) 0 0 Q), am_X xs L 192 d mc ms 2 [.ref 93, .int v1, am_dead] [] (am_mk D) 0 0 Q := by
  intro n
  induction n with
  | zero =>
    intro D v1 q h k0
    exact (nomatch (show none = some q from h))
  | succ n ih =>
    intro D v1 q h k0
    rw [m192_L2] at h
    refine x_ld (v := .int v1) r192_2 rfl rfl rfl ?_
    refine x_ld (v := .ref 93) r192_3 rfl rfl rfl ?_
    refine y_gf (cd := 99) (v := .ref 97) r192_4 rfl rfl rfl ?_
    refine y_alen (tag := 1) (n := 64) (v := 64) r192_7 rfl rfl rfl ?_
    rcases am_ifE h with ⟨c1, h⟩ | ⟨c1, h⟩
    · refine x_icgeT r192_8 c1 ?_
      refine x_forget (lc0 := [.ref 93, am_dead, am_dead]) ⟨Or.inl rfl, Or.inr ⟨rfl, rfl⟩, Or.inl rfl, trivial⟩ ?_
      cases h
      exact k0
    · refine x_icgeF r192_8 c1 rfl ?_
      refine x_ld (v := .ref 93) r192_11 rfl rfl rfl ?_
      refine y_gf (cd := 99) (v := .ref 97) r192_12 rfl rfl rfl ?_
      refine x_ld (v := .int v1) r192_15 rfl rfl rfl ?_
      refine x_ar r192_16 rfl trivial rfl ?_
      obtain ⟨g4, h⟩ := am_gdE h
      obtain ⟨D2, e3, h⟩ := am_ltE h
      refine y_las (n := 64) r192_17 rfl (by decide) g4 rfl e3 rfl ?_
      obtain ⟨x5, e6, h⟩ := am_ltE h
      refine x_sto (lc' := [.ref 93, .int x5, am_dead]) r192_18 rfl rfl (by subst e6; rfl) rfl ?_
      refine x_goto r192_21 ?_
      exact x_forget (lc0 := [.ref 93, .int x5, am_dead]) ⟨Or.inl rfl, Or.inl rfl, Or.inl rfl, trivial⟩ (ih D2 x5 h k0)
theorem m192_L35_w {d : Nat} {N : Nat} {mc ms : Nat} {Q : am_O → am_AH → Prop} (hd : 3 ≤ d) : ∀ (n : Nat) (D : am_D) (v1 : Int32) (v2 : Int32) {q : am_D} (h : m192_L35 N  n D v1 v2 = some q) (k0 : am_X xs L 192 d mc ms 74 [.ref 93, am_dead, am_dead] [] (am_mk q) 0 0 Q), am_X xs L 192 d mc ms 35 [.ref 93, .int v1, .int v2] [] (am_mk D) 0 0 Q := by
  intro n
  induction n with
  | zero =>
    intro D v1 v2 q h k0
    exact (nomatch (show none = some q from h))
  | succ n ih =>
    intro D v1 v2 q h k0
    rw [m192_L35] at h
    refine x_ld (v := .int v2) r192_35 rfl rfl rfl ?_
    refine x_ld (v := .ref 93) r192_36 rfl rfl rfl ?_
    refine y_gf (cd := 97) (v := .ref 95) r192_37 rfl rfl rfl ?_
    refine y_alen (tag := 0) (n := 28) (v := 28) r192_40 rfl rfl rfl ?_
    rcases am_ifE h with ⟨c11, h⟩ | ⟨c11, h⟩
    · refine x_icgeT r192_41 c11 ?_
      refine x_forget (lc0 := [.ref 93, am_dead, am_dead]) ⟨Or.inl rfl, Or.inr ⟨rfl, rfl⟩, Or.inr ⟨rfl, rfl⟩, trivial⟩ ?_
      cases h
      exact k0
    · refine x_icgeF r192_41 c11 rfl ?_
      refine x_ld (v := .ref 93) r192_44 rfl rfl rfl ?_
      refine y_gf (cd := 97) (v := .ref 95) r192_45 rfl rfl rfl ?_
      refine x_ld (v := .int v2) r192_48 rfl rfl rfl ?_
      obtain ⟨g12, h⟩ := am_gdE h
      refine y_ial (n := 28) r192_49 rfl (by decide) g12 rfl rfl ?_
      refine x_ic (v := -1) r192_50 rfl rfl ?_
      obtain ⟨q13, h15, h⟩ := Option.bind_eq_some_iff.mp h
      have kj14 : am_X xs L 192 d mc ms 68 [.ref 93, .int q13.1, .int v2] [] (am_mk q13.2) 0 0 Q := by
        obtain ⟨x22, e23, h⟩ := am_ltE h
        refine x_sto (lc' := [.ref 93, .int q13.1, .int x22]) r192_68 rfl rfl (by subst e23; rfl) rfl ?_
        refine x_goto r192_71 ?_
        exact x_forget (lc0 := [.ref 93, .int q13.1, .int x22]) ⟨Or.inl rfl, Or.inl rfl, Or.inl rfl, trivial⟩ (ih q13.2 q13.1 x22 h k0)
      rcases am_ifE h15 with ⟨c16, h15⟩ | ⟨c16, h15⟩
      · refine x_iceqT r192_51 c16 ?_
        cases h15
        exact kj14
      · refine x_iceqF r192_51 c16 rfl ?_
        obtain ⟨x17, e18, h15⟩ := am_ltE h15
        refine x_sto (lc' := [.ref 93, .int x17, .int v2]) r192_54 rfl rfl (by subst e18; rfl) rfl ?_
        refine x_ld (v := .ref 93) r192_57 rfl rfl rfl ?_
        refine x_ld (v := .ref 93) r192_58 rfl rfl rfl ?_
        refine y_gf (cd := 97) (v := .ref 95) r192_59 rfl rfl rfl ?_
        refine x_ld (v := .int v2) r192_62 rfl rfl rfl ?_
        obtain ⟨g19, h15⟩ := am_gdE h15
        refine y_ial (n := 28) r192_63 rfl (by decide) g19 rfl rfl ?_
        refine x_ld (v := .int x17) r192_64 rfl rfl rfl ?_
        obtain ⟨q20, h21, h15⟩ := Option.bind_eq_some_iff.mp h15
        refine x_call0 (as := [.ref 93, .int (D.1 95 (v2).toNatClampNeg), .int x17]) (rest := []) r192_65 rfl rfl rfl (by decide) (Nat.le_of_ble_eq_true rfl) (m193_ok h21) (Nat.le_trans (by decide) hd) (Nat.zero_le _) (Nat.zero_le _) rfl ?_
        cases h15
        exact kj14
theorem m192_w {d mc ms : Nat} {N : Nat} {D : am_D} {Q : am_O → am_AH → Prop} (hd : 3 ≤ d) {r : Int64 × am_D} (h : m192 N D = some r) (hQ : Q (.inl (some (.long r.1))) (am_mk r.2)) : am_X xs L 192 d mc ms 0 [.ref 93, am_dead, am_dead] [] (am_mk D) 0 0 Q := by
  unfold m192 at h
  refine x_ic (v := 0) r192_0 rfl rfl ?_
  refine x_sto (lc' := [.ref 93, .int (0 : Int32), am_dead]) r192_1 rfl rfl rfl rfl ?_
  obtain ⟨q7, h8, h⟩ := Option.bind_eq_some_iff.mp h
  refine x_forget (lc0 := [.ref 93, .int (0 : Int32), am_dead]) ⟨Or.inl rfl, Or.inl rfl, Or.inl rfl, trivial⟩ (m192_L2_w hd N D (0 : Int32) h8 ?_)
  refine x_ld (v := .ref 93) r192_24 rfl rfl rfl ?_
  refine x_ic (v := 0) r192_25 rfl rfl ?_
  refine x_ic (v := 0) r192_26 rfl rfl ?_
  refine x_ar r192_27 rfl trivial rfl ?_
  obtain ⟨q9, h10, h⟩ := am_ltE h
  replace h10 := h10.symm
  refine x_call0 (as := [.ref 93, .int (0 : Int32), .int (0 : Int32), .long (Int64.ofNat 1)]) (rest := []) r192_28 rfl rfl rfl (by decide) (Nat.le_of_ble_eq_true rfl) (m195_ok h10) (Nat.le_trans (by decide) hd) (Nat.zero_le _) (Nat.zero_le _) rfl ?_
  refine x_ic (v := 0) r192_31 rfl rfl ?_
  refine x_sto (lc' := [.ref 93, .int (0 : Int32), am_dead]) r192_32 rfl rfl rfl rfl ?_
  refine x_ic (v := 0) r192_33 rfl rfl ?_
  refine x_sto (lc' := [.ref 93, .int (0 : Int32), .int (0 : Int32)]) r192_34 rfl rfl rfl rfl ?_
  obtain ⟨q24, h25, h⟩ := Option.bind_eq_some_iff.mp h
  refine x_forget (lc0 := [.ref 93, .int (0 : Int32), .int (0 : Int32)]) ⟨Or.inl rfl, Or.inl rfl, Or.inl rfl, trivial⟩ (m192_L35_w hd N q9 (0 : Int32) (0 : Int32) h25 ?_)
  refine x_ld (v := .ref 93) r192_74 rfl rfl rfl ?_
  refine x_ld (v := .ref 93) r192_75 rfl rfl rfl ?_
  refine y_gf (cd := 96) (v := .ref 94) r192_76 rfl rfl rfl ?_
  refine x_ic (v := 0) r192_79 rfl rfl ?_
  refine x_call1 (as := [.ref 94, .int (0 : Int32)]) (rest := [.ref 93]) r192_80 rfl rfl rfl (by decide) (Nat.le_of_ble_eq_true rfl) (am_rows_at (n := 3) rfl (by decide)) (Nat.le_trans (by decide) hd) (Nat.zero_le _) (Nat.zero_le _) rfl ?_
  refine x_ld (v := .ref 93) r192_83 rfl rfl rfl ?_
  refine y_gf (cd := 96) (v := .ref 94) r192_84 rfl rfl rfl ?_
  refine x_ic (v := 1) r192_87 rfl rfl ?_
  refine x_call1 (as := [.ref 94, .int (1 : Int32)]) (rest := [.int (am_rat (q24.1 94) 3 (0 : Int32)), .ref 93]) r192_88 rfl rfl rfl (by decide) (Nat.le_of_ble_eq_true rfl) (am_rows_at (n := 3) rfl (by decide)) (Nat.le_trans (by decide) hd) (Nat.zero_le _) (Nat.zero_le _) rfl ?_
  obtain ⟨q26, h27, h⟩ := Option.bind_eq_some_iff.mp h
  refine x_call1 (as := [.ref 93, .int (am_rat (q24.1 94) 3 (0 : Int32)), .int (am_rat (q24.1 94) 3 (1 : Int32))]) (rest := []) r192_91 rfl rfl rfl (by decide) (Nat.le_of_ble_eq_true rfl) (m194_ok h27) (Nat.le_trans (by decide) hd) (Nat.zero_le _) (Nat.zero_le _) rfl ?_
  cases h
  exact x_ret (ret := some .long) (C := True) (v := some (.long _)) r192_94 rt192 rfl rfl rfl rfl rfl rfl rfl rfl trivial hQ
theorem m192_ok {N : Nat} {D : am_D} {r : Int64 × am_D} (h : m192 N D = some r) : am_Y xs L 192 3 0 0 [.ref 93] D (.inl (some (.long r.1))) r.2 := am_Yof (mi := am_m192) (lc := [.ref 93, am_dead, am_dead]) pg192 (Nat.le_of_ble_eq_true rfl) (am_rc1 (ci := 3) rfl rfl rfl rfl rfl) rfl (fun Q hQ => m192_w (Nat.le_refl _) h hQ)
end XE
