/-! walks (by wip/p34/tools/decomp.py): 22 23 30 161 174 189 192 196 199 200 222 223 -/
section XE
variable {xs : Nat → Int32} {L : Nat}
theorem r22_0 : am_at 22 0 = some (.iload_n 1, 1, [1]) := by decide +kernel
theorem r22_1 : am_at 22 1 = some (.tableswitch (274) (0) (18) #[91, 99, 107, 115, 126, 138, 150, 161, 173, 185, 193, 201, 209, 217, 225, 234, 250, 258, 266], 91, [275, 0, 92, 1, 100, 2, 108, 3, 116, 4, 127, 5, 139, 6, 151, 7, 162, 8, 174, 9, 186, 10, 194, 11, 202, 12, 210, 13, 218, 14, 226, 15, 235, 16, 251, 17, 259, 18, 267]) := by decide +kernel
theorem r22_92 : am_at 22 92 = some (.aload_n 0, 1, [0]) := by decide +kernel
theorem r22_93 : am_at 22 93 = some (.getfield 10, 3, [7, 0, 3, 257]) := by decide +kernel
theorem r22_96 : am_at 22 96 = some (.getfield 98, 3, [4, 6, 0, 101]) := by decide +kernel
theorem r22_99 : am_at 22 99 = some (.ireturn, 1, []) := by decide +kernel
theorem r22_100 : am_at 22 100 = some (.aload_n 0, 1, [0]) := by decide +kernel
theorem r22_101 : am_at 22 101 = some (.getfield 10, 3, [7, 0, 3, 257]) := by decide +kernel
theorem r22_104 : am_at 22 104 = some (.getfield 310, 3, [4, 7, 0, 104]) := by decide +kernel
theorem r22_107 : am_at 22 107 = some (.ireturn, 1, []) := by decide +kernel
theorem r22_108 : am_at 22 108 = some (.aload_n 0, 1, [0]) := by decide +kernel
theorem r22_109 : am_at 22 109 = some (.getfield 10, 3, [7, 0, 3, 257]) := by decide +kernel
theorem r22_112 : am_at 22 112 = some (.getfield 313, 3, [4, 8, 0, 106]) := by decide +kernel
theorem r22_115 : am_at 22 115 = some (.ireturn, 1, []) := by decide +kernel
theorem r22_116 : am_at 22 116 = some (.aload_n 0, 1, [0]) := by decide +kernel
theorem r22_117 : am_at 22 117 = some (.getfield 10, 3, [7, 0, 3, 257]) := by decide +kernel
theorem r22_120 : am_at 22 120 = some (.getfield 210, 3, [4, 0, 3, 89]) := by decide +kernel
theorem r22_123 : am_at 22 123 = some (.getfield 214, 3, [0, 4, 0, 68]) := by decide +kernel
theorem r22_126 : am_at 22 126 = some (.ireturn, 1, []) := by decide +kernel
theorem r22_127 : am_at 22 127 = some (.aload_n 0, 1, [0]) := by decide +kernel
theorem r22_128 : am_at 22 128 = some (.getfield 10, 3, [7, 0, 3, 257]) := by decide +kernel
theorem r22_131 : am_at 22 131 = some (.getfield 210, 3, [4, 0, 3, 89]) := by decide +kernel
theorem r22_134 : am_at 22 134 = some (.iconst (0), 1, []) := by decide +kernel
theorem r22_135 : am_at 22 135 = some (.invokevirtual 316, 3, [156, 2, 389, 0]) := by decide +kernel
theorem r22_138 : am_at 22 138 = some (.ireturn, 1, []) := by decide +kernel
theorem r22_139 : am_at 22 139 = some (.aload_n 0, 1, [0]) := by decide +kernel
theorem r22_140 : am_at 22 140 = some (.getfield 10, 3, [7, 0, 3, 257]) := by decide +kernel
theorem r22_143 : am_at 22 143 = some (.getfield 210, 3, [4, 0, 3, 89]) := by decide +kernel
theorem r22_146 : am_at 22 146 = some (.iconst (1), 1, []) := by decide +kernel
theorem r22_147 : am_at 22 147 = some (.invokevirtual 316, 3, [156, 2, 389, 0]) := by decide +kernel
theorem r22_150 : am_at 22 150 = some (.ireturn, 1, []) := by decide +kernel
theorem r22_151 : am_at 22 151 = some (.aload_n 0, 1, [0]) := by decide +kernel
theorem r22_152 : am_at 22 152 = some (.getfield 10, 3, [7, 0, 3, 257]) := by decide +kernel
theorem r22_155 : am_at 22 155 = some (.getfield 210, 3, [4, 0, 3, 89]) := by decide +kernel
theorem r22_158 : am_at 22 158 = some (.invokevirtual 319, 3, [160, 1, 393, 0]) := by decide +kernel
theorem r22_161 : am_at 22 161 = some (.ireturn, 1, []) := by decide +kernel
theorem r22_162 : am_at 22 162 = some (.aload_n 0, 1, [0]) := by decide +kernel
theorem r22_163 : am_at 22 163 = some (.getfield 10, 3, [7, 0, 3, 257]) := by decide +kernel
theorem r22_166 : am_at 22 166 = some (.getfield 322, 3, [4, 5, 3, 99]) := by decide +kernel
theorem r22_169 : am_at 22 169 = some (.iconst (0), 1, []) := by decide +kernel
theorem r22_170 : am_at 22 170 = some (.invokestatic 250, 3, [180, 2, 418, 0]) := by decide +kernel
theorem r22_173 : am_at 22 173 = some (.ireturn, 1, []) := by decide +kernel
theorem r22_174 : am_at 22 174 = some (.aload_n 0, 1, [0]) := by decide +kernel
theorem r22_175 : am_at 22 175 = some (.getfield 10, 3, [7, 0, 3, 257]) := by decide +kernel
theorem r22_178 : am_at 22 178 = some (.getfield 322, 3, [4, 5, 3, 99]) := by decide +kernel
theorem r22_181 : am_at 22 181 = some (.iconst (1), 1, []) := by decide +kernel
theorem r22_182 : am_at 22 182 = some (.invokestatic 250, 3, [180, 2, 418, 0]) := by decide +kernel
theorem r22_185 : am_at 22 185 = some (.ireturn, 1, []) := by decide +kernel
theorem r22_186 : am_at 22 186 = some (.aload_n 0, 1, [0]) := by decide +kernel
theorem r22_187 : am_at 22 187 = some (.getfield 10, 3, [7, 0, 3, 257]) := by decide +kernel
theorem r22_190 : am_at 22 190 = some (.getfield 325, 3, [4, 12, 0, 115]) := by decide +kernel
theorem r22_193 : am_at 22 193 = some (.ireturn, 1, []) := by decide +kernel
theorem r22_194 : am_at 22 194 = some (.aload_n 0, 1, [0]) := by decide +kernel
theorem r22_195 : am_at 22 195 = some (.getfield 10, 3, [7, 0, 3, 257]) := by decide +kernel
theorem r22_198 : am_at 22 198 = some (.getfield 328, 3, [4, 13, 0, 117]) := by decide +kernel
theorem r22_201 : am_at 22 201 = some (.ireturn, 1, []) := by decide +kernel
theorem r22_202 : am_at 22 202 = some (.aload_n 0, 1, [0]) := by decide +kernel
theorem r22_203 : am_at 22 203 = some (.getfield 10, 3, [7, 0, 3, 257]) := by decide +kernel
theorem r22_206 : am_at 22 206 = some (.getfield 331, 3, [4, 14, 0, 119]) := by decide +kernel
theorem r22_209 : am_at 22 209 = some (.ireturn, 1, []) := by decide +kernel
theorem r22_210 : am_at 22 210 = some (.aload_n 0, 1, [0]) := by decide +kernel
theorem r22_211 : am_at 22 211 = some (.getfield 10, 3, [7, 0, 3, 257]) := by decide +kernel
theorem r22_214 : am_at 22 214 = some (.getfield 334, 3, [4, 11, 0, 113]) := by decide +kernel
theorem r22_217 : am_at 22 217 = some (.ireturn, 1, []) := by decide +kernel
theorem r22_218 : am_at 22 218 = some (.aload_n 0, 1, [0]) := by decide +kernel
theorem r22_219 : am_at 22 219 = some (.getfield 10, 3, [7, 0, 3, 257]) := by decide +kernel
theorem r22_222 : am_at 22 222 = some (.getfield 337, 3, [4, 15, 0, 121]) := by decide +kernel
theorem r22_225 : am_at 22 225 = some (.ireturn, 1, []) := by decide +kernel
theorem r22_226 : am_at 22 226 = some (.aload_n 0, 1, [0]) := by decide +kernel
theorem r22_227 : am_at 22 227 = some (.getfield 10, 3, [7, 0, 3, 257]) := by decide +kernel
theorem r22_230 : am_at 22 230 = some (.iconst (5), 1, []) := by decide +kernel
theorem r22_231 : am_at 22 231 = some (.invokevirtual 89, 3, [204, 2, 419, 0]) := by decide +kernel
theorem r22_234 : am_at 22 234 = some (.ireturn, 1, []) := by decide +kernel
theorem r22_235 : am_at 22 235 = some (.aload_n 0, 1, [0]) := by decide +kernel
theorem r22_236 : am_at 22 236 = some (.getfield 10, 3, [7, 0, 3, 257]) := by decide +kernel
theorem r22_239 : am_at 22 239 = some (.invokevirtual 340, 3, [219, 1, 423, 0]) := by decide +kernel
theorem r22_242 : am_at 22 242 = some (.ifCond .eq (7), 3, [249]) := by decide +kernel
theorem r22_245 : am_at 22 245 = some (.iconst (1), 1, []) := by decide +kernel
theorem r22_246 : am_at 22 246 = some (.goto (4), 3, [250]) := by decide +kernel
theorem r22_249 : am_at 22 249 = some (.iconst (0), 1, []) := by decide +kernel
theorem r22_250 : am_at 22 250 = some (.ireturn, 1, []) := by decide +kernel
theorem r22_251 : am_at 22 251 = some (.aload_n 0, 1, [0]) := by decide +kernel
theorem r22_252 : am_at 22 252 = some (.getfield 10, 3, [7, 0, 3, 257]) := by decide +kernel
theorem r22_255 : am_at 22 255 = some (.getfield 343, 3, [4, 9, 0, 108]) := by decide +kernel
theorem r22_258 : am_at 22 258 = some (.ireturn, 1, []) := by decide +kernel
theorem r22_259 : am_at 22 259 = some (.aload_n 0, 1, [0]) := by decide +kernel
theorem r22_260 : am_at 22 260 = some (.getfield 10, 3, [7, 0, 3, 257]) := by decide +kernel
theorem r22_263 : am_at 22 263 = some (.getfield 164, 3, [4, 10, 0, 110]) := by decide +kernel
theorem r22_266 : am_at 22 266 = some (.ireturn, 1, []) := by decide +kernel
theorem r22_267 : am_at 22 267 = some (.aload_n 0, 1, [0]) := by decide +kernel
theorem r22_268 : am_at 22 268 = some (.getfield 22, 3, [7, 2, 3, 259]) := by decide +kernel
theorem r22_271 : am_at 22 271 = some (.getfield 221, 3, [1, 2, 0, 167]) := by decide +kernel
theorem r22_274 : am_at 22 274 = some (.ireturn, 1, []) := by decide +kernel
theorem r22_275 : am_at 22 275 = some (.new 93, 3, [9, 2, 1, 346, 97, 427, 36, 1, 437]) := by decide +kernel
theorem rt22 : am_rtt 22 = some (some .int) := by decide +kernel
set_option maxRecDepth 100000 in
theorem pg22 : am_pg[22]? = some am_m22 := rfl
theorem m22_w {d mc ms : Nat} {N : Nat} {D : am_D} {v1 : Int32} {Q : am_O → am_AH → Prop} (hd : 5 ≤ d) {r : (Int32 ⊕ Nat)} (h : m22 N D v1 = some r) (hE : ∀ E, r = .inr E → 0 + 1 ≤ mc ∧ 0 + 6 ≤ ms) (hQ : Q (am_oI r) (am_mk D)) : am_X xs L 22 d mc ms 0 [.ref 0, .int v1] [] (am_mk D) 0 0 Q := by
  unfold m22 at h
  refine x_ld (v := .int v1) r22_0 rfl rfl rfl ?_
  rcases am_ifE h with ⟨c1, h⟩ | ⟨c1, h⟩
  · refine x_tsw (p' := 92) r22_1 (am_swT c1) ?_
    refine x_ld (v := .ref 0) r22_92 rfl rfl rfl ?_
    refine y_gf (cd := 3) (v := .ref 1) r22_93 rfl rfl rfl ?_
    refine y_gf (cd := 0) (v := .int (D.1 1 6)) r22_96 rfl rfl rfl ?_
    cases h
    exact x_ret (ret := some .int) (C := True) (v := some (.int _)) r22_99 rt22 rfl rfl rfl rfl rfl rfl rfl rfl trivial hQ
  · rcases am_ifE h with ⟨c2, h⟩ | ⟨c2, h⟩
    · refine x_tsw (p' := 100) r22_1 (am_swF c1 (am_swT c2)) ?_
      refine x_ld (v := .ref 0) r22_100 rfl rfl rfl ?_
      refine y_gf (cd := 3) (v := .ref 1) r22_101 rfl rfl rfl ?_
      refine y_gf (cd := 0) (v := .int (D.1 1 7)) r22_104 rfl rfl rfl ?_
      cases h
      exact x_ret (ret := some .int) (C := True) (v := some (.int _)) r22_107 rt22 rfl rfl rfl rfl rfl rfl rfl rfl trivial hQ
    · rcases am_ifE h with ⟨c3, h⟩ | ⟨c3, h⟩
      · refine x_tsw (p' := 108) r22_1 (am_swF c1 (am_swF c2 (am_swT c3))) ?_
        refine x_ld (v := .ref 0) r22_108 rfl rfl rfl ?_
        refine y_gf (cd := 3) (v := .ref 1) r22_109 rfl rfl rfl ?_
        refine y_gf (cd := 0) (v := .int (D.1 1 8)) r22_112 rfl rfl rfl ?_
        cases h
        exact x_ret (ret := some .int) (C := True) (v := some (.int _)) r22_115 rt22 rfl rfl rfl rfl rfl rfl rfl rfl trivial hQ
      · rcases am_ifE h with ⟨c4, h⟩ | ⟨c4, h⟩
        · refine x_tsw (p' := 116) r22_1 (am_swF c1 (am_swF c2 (am_swF c3 (am_swT c4)))) ?_
          refine x_ld (v := .ref 0) r22_116 rfl rfl rfl ?_
          refine y_gf (cd := 3) (v := .ref 1) r22_117 rfl rfl rfl ?_
          refine y_gf (cd := 4) (v := .ref 2) r22_120 rfl rfl rfl ?_
          refine y_gf (cd := 0) (v := .int (D.1 2 4)) r22_123 rfl rfl rfl ?_
          cases h
          exact x_ret (ret := some .int) (C := True) (v := some (.int _)) r22_126 rt22 rfl rfl rfl rfl rfl rfl rfl rfl trivial hQ
        · rcases am_ifE h with ⟨c5, h⟩ | ⟨c5, h⟩
          · refine x_tsw (p' := 127) r22_1 (am_swF c1 (am_swF c2 (am_swF c3 (am_swF c4 (am_swT c5))))) ?_
            refine x_ld (v := .ref 0) r22_127 rfl rfl rfl ?_
            refine y_gf (cd := 3) (v := .ref 1) r22_128 rfl rfl rfl ?_
            refine y_gf (cd := 4) (v := .ref 2) r22_131 rfl rfl rfl ?_
            refine x_ic (v := 0) r22_134 rfl rfl ?_
            refine x_call1 (as := [.ref 2, .int (0 : Int32)]) (rest := []) r22_135 rfl rfl rfl (by decide) (Nat.le_of_ble_eq_true rfl) (m156_ok rfl) (Nat.le_trans (by decide) hd) (Nat.zero_le _) (Nat.zero_le _) rfl ?_
            cases h
            exact x_ret (ret := some .int) (C := True) (v := some (.int _)) r22_138 rt22 rfl rfl rfl rfl rfl rfl rfl rfl trivial hQ
          · rcases am_ifE h with ⟨c6, h⟩ | ⟨c6, h⟩
            · refine x_tsw (p' := 139) r22_1 (am_swF c1 (am_swF c2 (am_swF c3 (am_swF c4 (am_swF c5 (am_swT c6)))))) ?_
              refine x_ld (v := .ref 0) r22_139 rfl rfl rfl ?_
              refine y_gf (cd := 3) (v := .ref 1) r22_140 rfl rfl rfl ?_
              refine y_gf (cd := 4) (v := .ref 2) r22_143 rfl rfl rfl ?_
              refine x_ic (v := 1) r22_146 rfl rfl ?_
              refine x_call1 (as := [.ref 2, .int (1 : Int32)]) (rest := []) r22_147 rfl rfl rfl (by decide) (Nat.le_of_ble_eq_true rfl) (m156_ok rfl) (Nat.le_trans (by decide) hd) (Nat.zero_le _) (Nat.zero_le _) rfl ?_
              cases h
              exact x_ret (ret := some .int) (C := True) (v := some (.int _)) r22_150 rt22 rfl rfl rfl rfl rfl rfl rfl rfl trivial hQ
            · rcases am_ifE h with ⟨c7, h⟩ | ⟨c7, h⟩
              · refine x_tsw (p' := 151) r22_1 (am_swF c1 (am_swF c2 (am_swF c3 (am_swF c4 (am_swF c5 (am_swF c6 (am_swT c7))))))) ?_
                refine x_ld (v := .ref 0) r22_151 rfl rfl rfl ?_
                refine y_gf (cd := 3) (v := .ref 1) r22_152 rfl rfl rfl ?_
                refine y_gf (cd := 4) (v := .ref 2) r22_155 rfl rfl rfl ?_
                refine x_call1 (as := [.ref 2]) (rest := []) r22_158 rfl rfl rfl (by decide) (Nat.le_of_ble_eq_true rfl) (m160_ok rfl) (Nat.le_trans (by decide) hd) (Nat.zero_le _) (Nat.zero_le _) rfl ?_
                cases h
                exact x_ret (ret := some .int) (C := True) (v := some (.int _)) r22_161 rt22 rfl rfl rfl rfl rfl rfl rfl rfl trivial hQ
              · rcases am_ifE h with ⟨c8, h⟩ | ⟨c8, h⟩
                · refine x_tsw (p' := 162) r22_1 (am_swF c1 (am_swF c2 (am_swF c3 (am_swF c4 (am_swF c5 (am_swF c6 (am_swF c7 (am_swT c8)))))))) ?_
                  refine x_ld (v := .ref 0) r22_162 rfl rfl rfl ?_
                  refine y_gf (cd := 3) (v := .ref 1) r22_163 rfl rfl rfl ?_
                  refine y_gf (cd := 13) (v := .ref 11) r22_166 rfl rfl rfl ?_
                  refine x_ic (v := 0) r22_169 rfl rfl ?_
                  refine x_call1 (as := [.ref 11, .int (0 : Int32)]) (rest := []) r22_170 rfl rfl rfl (by decide) (Nat.le_of_ble_eq_true rfl) (am_rows_at (n := 2) rfl (by decide)) (Nat.le_trans (by decide) hd) (Nat.zero_le _) (Nat.zero_le _) rfl ?_
                  cases h
                  exact x_ret (ret := some .int) (C := True) (v := some (.int _)) r22_173 rt22 rfl rfl rfl rfl rfl rfl rfl rfl trivial hQ
                · rcases am_ifE h with ⟨c9, h⟩ | ⟨c9, h⟩
                  · refine x_tsw (p' := 174) r22_1 (am_swF c1 (am_swF c2 (am_swF c3 (am_swF c4 (am_swF c5 (am_swF c6 (am_swF c7 (am_swF c8 (am_swT c9))))))))) ?_
                    refine x_ld (v := .ref 0) r22_174 rfl rfl rfl ?_
                    refine y_gf (cd := 3) (v := .ref 1) r22_175 rfl rfl rfl ?_
                    refine y_gf (cd := 13) (v := .ref 11) r22_178 rfl rfl rfl ?_
                    refine x_ic (v := 1) r22_181 rfl rfl ?_
                    refine x_call1 (as := [.ref 11, .int (1 : Int32)]) (rest := []) r22_182 rfl rfl rfl (by decide) (Nat.le_of_ble_eq_true rfl) (am_rows_at (n := 2) rfl (by decide)) (Nat.le_trans (by decide) hd) (Nat.zero_le _) (Nat.zero_le _) rfl ?_
                    cases h
                    exact x_ret (ret := some .int) (C := True) (v := some (.int _)) r22_185 rt22 rfl rfl rfl rfl rfl rfl rfl rfl trivial hQ
                  · rcases am_ifE h with ⟨c10, h⟩ | ⟨c10, h⟩
                    · refine x_tsw (p' := 186) r22_1 (am_swF c1 (am_swF c2 (am_swF c3 (am_swF c4 (am_swF c5 (am_swF c6 (am_swF c7 (am_swF c8 (am_swF c9 (am_swT c10)))))))))) ?_
                      refine x_ld (v := .ref 0) r22_186 rfl rfl rfl ?_
                      refine y_gf (cd := 3) (v := .ref 1) r22_187 rfl rfl rfl ?_
                      refine y_gf (cd := 0) (v := .int (D.1 1 12)) r22_190 rfl rfl rfl ?_
                      cases h
                      exact x_ret (ret := some .int) (C := True) (v := some (.int _)) r22_193 rt22 rfl rfl rfl rfl rfl rfl rfl rfl trivial hQ
                    · rcases am_ifE h with ⟨c11, h⟩ | ⟨c11, h⟩
                      · refine x_tsw (p' := 194) r22_1 (am_swF c1 (am_swF c2 (am_swF c3 (am_swF c4 (am_swF c5 (am_swF c6 (am_swF c7 (am_swF c8 (am_swF c9 (am_swF c10 (am_swT c11))))))))))) ?_
                        refine x_ld (v := .ref 0) r22_194 rfl rfl rfl ?_
                        refine y_gf (cd := 3) (v := .ref 1) r22_195 rfl rfl rfl ?_
                        refine y_gf (cd := 0) (v := .int (D.1 1 13)) r22_198 rfl rfl rfl ?_
                        cases h
                        exact x_ret (ret := some .int) (C := True) (v := some (.int _)) r22_201 rt22 rfl rfl rfl rfl rfl rfl rfl rfl trivial hQ
                      · rcases am_ifE h with ⟨c12, h⟩ | ⟨c12, h⟩
                        · refine x_tsw (p' := 202) r22_1 (am_swF c1 (am_swF c2 (am_swF c3 (am_swF c4 (am_swF c5 (am_swF c6 (am_swF c7 (am_swF c8 (am_swF c9 (am_swF c10 (am_swF c11 (am_swT c12)))))))))))) ?_
                          refine x_ld (v := .ref 0) r22_202 rfl rfl rfl ?_
                          refine y_gf (cd := 3) (v := .ref 1) r22_203 rfl rfl rfl ?_
                          refine y_gf (cd := 0) (v := .int (D.1 1 14)) r22_206 rfl rfl rfl ?_
                          cases h
                          exact x_ret (ret := some .int) (C := True) (v := some (.int _)) r22_209 rt22 rfl rfl rfl rfl rfl rfl rfl rfl trivial hQ
                        · rcases am_ifE h with ⟨c13, h⟩ | ⟨c13, h⟩
                          · refine x_tsw (p' := 210) r22_1 (am_swF c1 (am_swF c2 (am_swF c3 (am_swF c4 (am_swF c5 (am_swF c6 (am_swF c7 (am_swF c8 (am_swF c9 (am_swF c10 (am_swF c11 (am_swF c12 (am_swT c13))))))))))))) ?_
                            refine x_ld (v := .ref 0) r22_210 rfl rfl rfl ?_
                            refine y_gf (cd := 3) (v := .ref 1) r22_211 rfl rfl rfl ?_
                            refine y_gf (cd := 0) (v := .int (D.1 1 11)) r22_214 rfl rfl rfl ?_
                            cases h
                            exact x_ret (ret := some .int) (C := True) (v := some (.int _)) r22_217 rt22 rfl rfl rfl rfl rfl rfl rfl rfl trivial hQ
                          · rcases am_ifE h with ⟨c14, h⟩ | ⟨c14, h⟩
                            · refine x_tsw (p' := 218) r22_1 (am_swF c1 (am_swF c2 (am_swF c3 (am_swF c4 (am_swF c5 (am_swF c6 (am_swF c7 (am_swF c8 (am_swF c9 (am_swF c10 (am_swF c11 (am_swF c12 (am_swF c13 (am_swT c14)))))))))))))) ?_
                              refine x_ld (v := .ref 0) r22_218 rfl rfl rfl ?_
                              refine y_gf (cd := 3) (v := .ref 1) r22_219 rfl rfl rfl ?_
                              refine y_gf (cd := 0) (v := .int (D.1 1 15)) r22_222 rfl rfl rfl ?_
                              cases h
                              exact x_ret (ret := some .int) (C := True) (v := some (.int _)) r22_225 rt22 rfl rfl rfl rfl rfl rfl rfl rfl trivial hQ
                            · rcases am_ifE h with ⟨c15, h⟩ | ⟨c15, h⟩
                              · refine x_tsw (p' := 226) r22_1 (am_swF c1 (am_swF c2 (am_swF c3 (am_swF c4 (am_swF c5 (am_swF c6 (am_swF c7 (am_swF c8 (am_swF c9 (am_swF c10 (am_swF c11 (am_swF c12 (am_swF c13 (am_swF c14 (am_swT c15))))))))))))))) ?_
                                refine x_ld (v := .ref 0) r22_226 rfl rfl rfl ?_
                                refine y_gf (cd := 3) (v := .ref 1) r22_227 rfl rfl rfl ?_
                                refine x_ic (v := 5) r22_230 rfl rfl ?_
                                obtain ⟨q16, h17, h⟩ := Option.bind_eq_some_iff.mp h
                                refine x_call1 (as := [.ref 1, .int (5 : Int32)]) (rest := []) r22_231 rfl rfl rfl (by decide) (Nat.le_of_ble_eq_true rfl) (m204_ok h17) (Nat.le_trans (by decide) hd) (Nat.zero_le _) (Nat.zero_le _) rfl ?_
                                cases h
                                exact x_ret (ret := some .int) (C := True) (v := some (.int _)) r22_234 rt22 rfl rfl rfl rfl rfl rfl rfl rfl trivial hQ
                              · rcases am_ifE h with ⟨c18, h⟩ | ⟨c18, h⟩
                                · refine x_tsw (p' := 235) r22_1 (am_swF c1 (am_swF c2 (am_swF c3 (am_swF c4 (am_swF c5 (am_swF c6 (am_swF c7 (am_swF c8 (am_swF c9 (am_swF c10 (am_swF c11 (am_swF c12 (am_swF c13 (am_swF c14 (am_swF c15 (am_swT c18)))))))))))))))) ?_
                                  refine x_ld (v := .ref 0) r22_235 rfl rfl rfl ?_
                                  refine y_gf (cd := 3) (v := .ref 1) r22_236 rfl rfl rfl ?_
                                  refine x_call1 (as := [.ref 1]) (rest := []) r22_239 rfl rfl rfl (by decide) (Nat.le_of_ble_eq_true rfl) (m219_ok rfl) (Nat.le_trans (by decide) hd) (Nat.zero_le _) (Nat.zero_le _) rfl ?_
                                  rcases am_ifE h with ⟨c19, h⟩ | ⟨c19, h⟩
                                  · refine x_ifeqT r22_242 c19 ?_
                                    refine x_ic (v := 0) r22_249 rfl rfl ?_
                                    cases h
                                    exact x_ret (ret := some .int) (C := True) (v := some (.int _)) r22_250 rt22 rfl rfl rfl rfl rfl rfl rfl rfl trivial hQ
                                  · refine x_ifeqF r22_242 c19 rfl ?_
                                    refine x_ic (v := 1) r22_245 rfl rfl ?_
                                    refine x_goto r22_246 ?_
                                    cases h
                                    exact x_ret (ret := some .int) (C := True) (v := some (.int _)) r22_250 rt22 rfl rfl rfl rfl rfl rfl rfl rfl trivial hQ
                                · rcases am_ifE h with ⟨c20, h⟩ | ⟨c20, h⟩
                                  · refine x_tsw (p' := 251) r22_1 (am_swF c1 (am_swF c2 (am_swF c3 (am_swF c4 (am_swF c5 (am_swF c6 (am_swF c7 (am_swF c8 (am_swF c9 (am_swF c10 (am_swF c11 (am_swF c12 (am_swF c13 (am_swF c14 (am_swF c15 (am_swF c18 (am_swT c20))))))))))))))))) ?_
                                    refine x_ld (v := .ref 0) r22_251 rfl rfl rfl ?_
                                    refine y_gf (cd := 3) (v := .ref 1) r22_252 rfl rfl rfl ?_
                                    refine y_gf (cd := 0) (v := .int (D.1 1 9)) r22_255 rfl rfl rfl ?_
                                    cases h
                                    exact x_ret (ret := some .int) (C := True) (v := some (.int _)) r22_258 rt22 rfl rfl rfl rfl rfl rfl rfl rfl trivial hQ
                                  · rcases am_ifE h with ⟨c21, h⟩ | ⟨c21, h⟩
                                    · refine x_tsw (p' := 259) r22_1 (am_swF c1 (am_swF c2 (am_swF c3 (am_swF c4 (am_swF c5 (am_swF c6 (am_swF c7 (am_swF c8 (am_swF c9 (am_swF c10 (am_swF c11 (am_swF c12 (am_swF c13 (am_swF c14 (am_swF c15 (am_swF c18 (am_swF c20 (am_swT c21)))))))))))))))))) ?_
                                      refine x_ld (v := .ref 0) r22_259 rfl rfl rfl ?_
                                      refine y_gf (cd := 3) (v := .ref 1) r22_260 rfl rfl rfl ?_
                                      refine y_gf (cd := 0) (v := .int (D.1 1 10)) r22_263 rfl rfl rfl ?_
                                      cases h
                                      exact x_ret (ret := some .int) (C := True) (v := some (.int _)) r22_266 rt22 rfl rfl rfl rfl rfl rfl rfl rfl trivial hQ
                                    · rcases am_ifE h with ⟨c22, h⟩ | ⟨c22, h⟩
                                      · refine x_tsw (p' := 267) r22_1 (am_swF c1 (am_swF c2 (am_swF c3 (am_swF c4 (am_swF c5 (am_swF c6 (am_swF c7 (am_swF c8 (am_swF c9 (am_swF c10 (am_swF c11 (am_swF c12 (am_swF c13 (am_swF c14 (am_swF c15 (am_swF c18 (am_swF c20 (am_swF c21 (am_swT c22))))))))))))))))))) ?_
                                        refine x_ld (v := .ref 0) r22_267 rfl rfl rfl ?_
                                        refine y_gf (cd := 25) (v := .ref 23) r22_268 rfl rfl rfl ?_
                                        refine y_gf (cd := 0) (v := .int (D.1 23 2)) r22_271 rfl rfl rfl ?_
                                        cases h
                                        exact x_ret (ret := some .int) (C := True) (v := some (.int _)) r22_274 rt22 rfl rfl rfl rfl rfl rfl rfl rfl trivial hQ
                                      · refine x_tsw (p' := 275) r22_1 (am_swF c1 (am_swF c2 (am_swF c3 (am_swF c4 (am_swF c5 (am_swF c6 (am_swF c7 (am_swF c8 (am_swF c9 (am_swF c10 (am_swF c11 (am_swF c12 (am_swF c13 (am_swF c14 (am_swF c15 (am_swF c18 (am_swF c20 (am_swF c21 (am_swF c22 (rfl)))))))))))))))))))) ?_
                                        cases h
                                        exact x_thr r22_275 (hE _ rfl).1 (hE _ rfl).2 (Nat.le_of_ble_eq_true rfl) hQ
theorem m22_okv {N : Nat} {D : am_D} {v1 : Int32} {r : (Int32 ⊕ Nat)} {v : Int32} (h : m22 N D v1 = some r) (hv : am_inl r = some v) : am_Y xs L 22 5 0 0 [.ref 0, .int v1] D (.inl (some (.int v))) D := am_Yof (mi := am_m22) (lc := [.ref 0, .int v1]) pg22 (Nat.le_of_ble_eq_true rfl) (am_rc1 (ci := 7) rfl rfl rfl rfl rfl) rfl (fun Q hQ => m22_w (Nat.le_refl _) h (fun E e => by rw [e] at hv; cases hv) (by rw [am_inlE hv]; exact hQ))
theorem m22_exv {N : Nat} {D : am_D} {v1 : Int32} {r : (Int32 ⊕ Nat)} {E : Nat} (h : m22 N D v1 = some r) (hv : r = .inr E) : am_Y xs L 22 5 1 6 [.ref 0, .int v1] D (.inr E) D := am_Yof (mi := am_m22) (lc := [.ref 0, .int v1]) pg22 (Nat.le_of_ble_eq_true rfl) (am_rc1 (ci := 7) rfl rfl rfl rfl rfl) rfl (fun Q hQ => m22_w (Nat.le_refl _) h (fun E e => ⟨Nat.le_refl _, Nat.le_refl _⟩) (by rw [hv]; exact hQ))
theorem r23_0 : am_at 23 0 = some (.iload_n 1, 1, [1]) := by decide +kernel
theorem r23_1 : am_at 23 1 = some (.invokestatic 58, 3, [40, 1, 516, 0]) := by decide +kernel
theorem r23_4 : am_at 23 4 = some (.ifCond .eq (10), 3, [14]) := by decide +kernel
theorem r23_7 : am_at 23 7 = some (.iload_n 2, 1, [2]) := by decide +kernel
theorem r23_8 : am_at 23 8 = some (.invokestatic 62, 3, [41, 1, 460, 0]) := by decide +kernel
theorem r23_11 : am_at 23 11 = some (.ifCond .ne (13), 3, [24]) := by decide +kernel
theorem r23_14 : am_at 23 14 = some (.new 65, 3, [9, 1, 0, 67, 69, 463, 34, 11, 473]) := by decide +kernel
theorem r23_24 : am_at 23 24 = some (.iload_n 3, 1, [3]) := by decide +kernel
theorem r23_25 : am_at 23 25 = some (.invokestatic 128, 3, [43, 1, 651, 0]) := by decide +kernel
theorem r23_28 : am_at 23 28 = some (.ifCond .ne (13), 3, [41]) := by decide +kernel
theorem r23_31 : am_at 23 31 = some (.new 93, 3, [9, 2, 0, 131, 97, 427, 36, 21, 437]) := by decide +kernel
theorem r23_41 : am_at 23 41 = some (.aload_n 0, 1, [0]) := by decide +kernel
theorem r23_42 : am_at 23 42 = some (.getfield 10, 3, [7, 0, 3, 257]) := by decide +kernel
theorem r23_45 : am_at 23 45 = some (.iload_n 1, 1, [1]) := by decide +kernel
theorem r23_46 : am_at 23 46 = some (.iload_n 2, 1, [2]) := by decide +kernel
theorem r23_47 : am_at 23 47 = some (.iload_n 3, 1, [3]) := by decide +kernel
theorem r23_48 : am_at 23 48 = some (.invokevirtual 133, 3, [220, 4, 753, 0]) := by decide +kernel
theorem r23_51 : am_at 23 51 = some (.ireturn, 1, []) := by decide +kernel
theorem rt23 : am_rtt 23 = some (some .int) := by decide +kernel
set_option maxRecDepth 100000 in
theorem pg23 : am_pg[23]? = some am_m23 := rfl
theorem m23_w {d mc ms : Nat} {D : am_D} {v1 : Int32} {v2 : Int32} {v3 : Int32} {Q : am_O → am_AH → Prop} (hd : 5 ≤ d) {r : (Int32 ⊕ Nat)} (h : m23 D v1 v2 v3 = r) (hE : ∀ E, r = .inr E → 0 + 1 ≤ mc ∧ 0 + 6 ≤ ms) (hQ : Q (am_oI r) (am_mk D)) : am_X xs L 23 d mc ms 0 [.ref 0, .int v1, .int v2, .int v3] [] (am_mk D) 0 0 Q := by
  unfold m23 at h
  refine x_ld (v := .int v1) r23_0 rfl rfl rfl ?_
  refine x_call1 (as := [.int v1]) (rest := []) r23_1 rfl rfl rfl (by decide) (Nat.le_of_ble_eq_true rfl) (m40_ok rfl) (Nat.le_trans (by decide) hd) (Nat.zero_le _) (Nat.zero_le _) rfl ?_
  rcases am_ifE h with ⟨c1, h⟩ | ⟨c1, h⟩
  · refine x_ifeqT r23_4 c1 ?_
    subst h
    exact x_thr r23_14 (hE _ rfl).1 (hE _ rfl).2 (Nat.le_of_ble_eq_true rfl) hQ
  · refine x_ifeqF r23_4 c1 rfl ?_
    refine x_ld (v := .int v2) r23_7 rfl rfl rfl ?_
    refine x_call1 (as := [.int v2]) (rest := []) r23_8 rfl rfl rfl (by decide) (Nat.le_of_ble_eq_true rfl) (m41_ok rfl) (Nat.le_trans (by decide) hd) (Nat.zero_le _) (Nat.zero_le _) rfl ?_
    rcases am_ifE h with ⟨c2, h⟩ | ⟨c2, h⟩
    · refine x_ifneT r23_11 c2 rfl ?_
      subst h
      exact x_thr r23_14 (hE _ rfl).1 (hE _ rfl).2 (Nat.le_of_ble_eq_true rfl) hQ
    · refine x_ifneF r23_11 c2 ?_
      refine x_ld (v := .int v3) r23_24 rfl rfl rfl ?_
      refine x_call1 (as := [.int v3]) (rest := []) r23_25 rfl rfl rfl (by decide) (Nat.le_of_ble_eq_true rfl) (m43_ok rfl) (Nat.le_trans (by decide) hd) (Nat.zero_le _) (Nat.zero_le _) rfl ?_
      rcases am_ifE h with ⟨c3, h⟩ | ⟨c3, h⟩
      · refine x_ifneT r23_28 c3 rfl ?_
        subst h
        exact x_thr r23_31 (hE _ rfl).1 (hE _ rfl).2 (Nat.le_of_ble_eq_true rfl) hQ
      · refine x_ifneF r23_28 c3 ?_
        refine x_ld (v := .ref 0) r23_41 rfl rfl rfl ?_
        refine y_gf (cd := 3) (v := .ref 1) r23_42 rfl rfl rfl ?_
        refine x_ld (v := .int v1) r23_45 rfl rfl rfl ?_
        refine x_ld (v := .int v2) r23_46 rfl rfl rfl ?_
        refine x_ld (v := .int v3) r23_47 rfl rfl rfl ?_
        refine x_call1 (as := [.ref 1, .int v1, .int v2, .int v3]) (rest := []) r23_48 rfl rfl rfl (by decide) (Nat.le_of_ble_eq_true rfl) (m220_ok rfl) (Nat.le_trans (by decide) hd) (Nat.zero_le _) (Nat.zero_le _) rfl ?_
        subst h
        exact x_ret (ret := some .int) (C := True) (v := some (.int _)) r23_51 rt23 rfl rfl rfl rfl rfl rfl rfl rfl trivial hQ
theorem m23_okv {D : am_D} {v1 : Int32} {v2 : Int32} {v3 : Int32} {r : (Int32 ⊕ Nat)} {v : Int32} (h : m23 D v1 v2 v3 = r) (hv : am_inl r = some v) : am_Y xs L 23 5 0 0 [.ref 0, .int v1, .int v2, .int v3] D (.inl (some (.int v))) D := am_Yof (mi := am_m23) (lc := [.ref 0, .int v1, .int v2, .int v3]) pg23 (Nat.le_of_ble_eq_true rfl) (am_rc1 (ci := 7) rfl rfl rfl rfl rfl) rfl (fun Q hQ => m23_w (Nat.le_refl _) h (fun E e => by rw [e] at hv; cases hv) (by rw [am_inlE hv]; exact hQ))
theorem m23_exv {D : am_D} {v1 : Int32} {v2 : Int32} {v3 : Int32} {r : (Int32 ⊕ Nat)} {E : Nat} (h : m23 D v1 v2 v3 = r) (hv : r = .inr E) : am_Y xs L 23 5 1 6 [.ref 0, .int v1, .int v2, .int v3] D (.inr E) D := am_Yof (mi := am_m23) (lc := [.ref 0, .int v1, .int v2, .int v3]) pg23 (Nat.le_of_ble_eq_true rfl) (am_rc1 (ci := 7) rfl rfl rfl rfl rfl) rfl (fun Q hQ => m23_w (Nat.le_refl _) h (fun E e => ⟨Nat.le_refl _, Nat.le_refl _⟩) (by rw [hv]; exact hQ))
theorem r30_0 : am_at 30 0 = some (.aload_n 0, 1, [0]) := by decide +kernel
theorem r30_1 : am_at 30 1 = some (.getfield 10, 3, [7, 0, 3, 257]) := by decide +kernel
theorem r30_4 : am_at 30 4 = some (.invokevirtual 399, 3, [210, 1, 799, 0]) := by decide +kernel
theorem r30_7 : am_at 30 7 = some (.istore_n 1, 1, [1]) := by decide +kernel
theorem r30_8 : am_at 30 8 = some (.iload_n 1, 1, [1]) := by decide +kernel
theorem r30_9 : am_at 30 9 = some (.ifCond .ne (7), 3, [16]) := by decide +kernel
theorem r30_12 : am_at 30 12 = some (.fconst 0, 1, []) := by decide +kernel
theorem r30_13 : am_at 30 13 = some (.goto (14), 3, [27]) := by decide +kernel
theorem r30_16 : am_at 30 16 = some (.aload_n 0, 1, [0]) := by decide +kernel
theorem r30_17 : am_at 30 17 = some (.getfield 10, 3, [7, 0, 3, 257]) := by decide +kernel
theorem r30_20 : am_at 30 20 = some (.invokevirtual 413, 3, [211, 1, 847, 0]) := by decide +kernel
theorem r30_23 : am_at 30 23 = some (.i2f, 1, []) := by decide +kernel
theorem r30_24 : am_at 30 24 = some (.iload_n 1, 1, [1]) := by decide +kernel
theorem r30_25 : am_at 30 25 = some (.i2f, 1, []) := by decide +kernel
theorem r30_26 : am_at 30 26 = some (.fdiv, 1, []) := by decide +kernel
theorem r30_27 : am_at 30 27 = some (.freturn, 1, []) := by decide +kernel
theorem rt30 : am_rtt 30 = some (some .float) := by decide +kernel
set_option maxRecDepth 100000 in
theorem pg30 : am_pg[30]? = some am_m30 := rfl
theorem m30_w {d mc ms : Nat} {N : Nat} {D : am_D} {Q : am_O → am_AH → Prop} (hd : 4 ≤ d) {r : UInt32} (h : m30 N D = some r) (hQ : Q (.inl (some (.float r))) (am_mk D)) : am_X xs L 30 d mc ms 0 [.ref 0, am_dead] [] (am_mk D) 0 0 Q := by
  unfold m30 at h
  refine x_ld (v := .ref 0) r30_0 rfl rfl rfl ?_
  refine y_gf (cd := 3) (v := .ref 1) r30_1 rfl rfl rfl ?_
  obtain ⟨q1, h2, h⟩ := Option.bind_eq_some_iff.mp h
  refine x_call1 (as := [.ref 1]) (rest := []) r30_4 rfl rfl rfl (by decide) (Nat.le_of_ble_eq_true rfl) (m210_ok h2) (Nat.le_trans (by decide) hd) (Nat.zero_le _) (Nat.zero_le _) rfl ?_
  refine x_sto (lc' := [.ref 0, .int q1]) r30_7 rfl rfl rfl rfl ?_
  refine x_ld (v := .int q1) r30_8 rfl rfl rfl ?_
  obtain ⟨q3, h5, h⟩ := Option.bind_eq_some_iff.mp h
  have kj4 : am_X xs L 30 d mc ms 27 [.ref 0, .int q1] [.float q3] (am_mk D) 0 0 Q := by
    cases h
    exact x_ret (ret := some .float) (C := True) (v := some (.float _)) r30_27 rt30 rfl rfl rfl rfl rfl rfl rfl rfl trivial hQ
  rcases am_ifE h5 with ⟨c6, h5⟩ | ⟨c6, h5⟩
  · refine x_ifneT r30_9 c6 rfl ?_
    refine x_ar r30_12 rfl trivial rfl ?_
    refine x_goto r30_13 ?_
    cases h5
    exact kj4
  · refine x_ifneF r30_9 c6 ?_
    refine x_ld (v := .ref 0) r30_16 rfl rfl rfl ?_
    refine y_gf (cd := 3) (v := .ref 1) r30_17 rfl rfl rfl ?_
    obtain ⟨q7, h8, h5⟩ := Option.bind_eq_some_iff.mp h5
    refine x_call1 (as := [.ref 1]) (rest := []) r30_20 rfl rfl rfl (by decide) (Nat.le_of_ble_eq_true rfl) (m211_ok h8) (Nat.le_trans (by decide) hd) (Nat.zero_le _) (Nat.zero_le _) rfl ?_
    refine x_ar r30_23 rfl trivial rfl ?_
    refine x_ld (v := .int q1) r30_24 rfl rfl rfl ?_
    refine x_ar r30_25 rfl trivial rfl ?_
    obtain ⟨g9, h5⟩ := am_gdE h5
    refine x_ar r30_26 rfl g9 rfl ?_
    cases h5
    exact kj4
theorem m30_ok {N : Nat} {D : am_D} {r : UInt32} (h : m30 N D = some r) : am_Y xs L 30 4 0 0 [.ref 0] D (.inl (some (.float r))) D := am_Yof (mi := am_m30) (lc := [.ref 0, am_dead]) pg30 (Nat.le_of_ble_eq_true rfl) (am_rc1 (ci := 7) rfl rfl rfl rfl rfl) rfl (fun Q hQ => m30_w (Nat.le_refl _) h hQ)
theorem r161_0 : am_at 161 0 = some (.aload_n 0, 1, [0]) := by decide +kernel
theorem r161_1 : am_at 161 1 = some (.getfield 37, 3, [0, 4, 0, 67]) := by decide +kernel
theorem r161_4 : am_at 161 4 = some (.ifCond .ne (8), 3, [12]) := by decide +kernel
theorem r161_7 : am_at 161 7 = some (.iload_n 1, 1, [1]) := by decide +kernel
theorem r161_8 : am_at 161 8 = some (.invokestatic 44, 3, [251, 1, 511, 0]) := by decide +kernel
theorem r161_11 : am_at 161 11 = some (.ireturn, 1, []) := by decide +kernel
theorem r161_12 : am_at 161 12 = some (.iload_n 1, 1, [1]) := by decide +kernel
theorem r161_13 : am_at 161 13 = some (.aload_n 0, 1, [0]) := by decide +kernel
theorem r161_14 : am_at 161 14 = some (.iload_n 1, 1, [1]) := by decide +kernel
theorem r161_15 : am_at 161 15 = some (.iload_n 2, 1, [2]) := by decide +kernel
theorem r161_16 : am_at 161 16 = some (.invokevirtual 64, 3, [162, 3, 667, 0]) := by decide +kernel
theorem r161_19 : am_at 161 19 = some (.invokestatic 53, 3, [255, 2, 405, 0]) := by decide +kernel
theorem r161_22 : am_at 161 22 = some (.aload_n 0, 1, [0]) := by decide +kernel
theorem r161_23 : am_at 161 23 = some (.iload_n 2, 1, [2]) := by decide +kernel
theorem r161_24 : am_at 161 24 = some (.invokestatic 67, 3, [166, 1, 673, 0]) := by decide +kernel
theorem r161_27 : am_at 161 27 = some (.invokevirtual 61, 3, [157, 2, 397, 0]) := by decide +kernel
theorem r161_30 : am_at 161 30 = some (.iadd, 1, []) := by decide +kernel
theorem r161_31 : am_at 161 31 = some (.ireturn, 1, []) := by decide +kernel
theorem rt161 : am_rtt 161 = some (some .int) := by decide +kernel
set_option maxRecDepth 100000 in
theorem pg161 : am_pg[161]? = some am_m161 := rfl
theorem m161_w {d mc ms : Nat} {D : am_D} {v1 : Int32} {v2 : Int32} {Q : am_O → am_AH → Prop} (hd : 4 ≤ d) {r : Int32} (h : m161 D v1 v2 = r) (hQ : Q (.inl (some (.int r))) (am_mk D)) : am_X xs L 161 d mc ms 0 [.ref 2, .int v1, .int v2] [] (am_mk D) 0 0 Q := by
  unfold m161 at h
  refine x_ld (v := .ref 2) r161_0 rfl rfl rfl ?_
  refine y_gf (cd := 0) (v := .int (D.1 2 4)) r161_1 rfl rfl rfl ?_
  rcases am_ifE h with ⟨c1, h⟩ | ⟨c1, h⟩
  · refine x_ifneT r161_4 c1 rfl ?_
    refine x_ld (v := .int v1) r161_7 rfl rfl rfl ?_
    refine x_call1 (as := [.int v1]) (rest := []) r161_8 rfl rfl rfl (by decide) (Nat.le_of_ble_eq_true rfl) (m251_ok rfl) (Nat.le_trans (by decide) hd) (Nat.zero_le _) (Nat.zero_le _) rfl ?_
    subst h
    exact x_ret (ret := some .int) (C := True) (v := some (.int _)) r161_11 rt161 rfl rfl rfl rfl rfl rfl rfl rfl trivial hQ
  · refine x_ifneF r161_4 c1 ?_
    refine x_ld (v := .int v1) r161_12 rfl rfl rfl ?_
    refine x_ld (v := .ref 2) r161_13 rfl rfl rfl ?_
    refine x_ld (v := .int v1) r161_14 rfl rfl rfl ?_
    refine x_ld (v := .int v2) r161_15 rfl rfl rfl ?_
    refine x_call1 (as := [.ref 2, .int v1, .int v2]) (rest := [.int v1]) r161_16 rfl rfl rfl (by decide) (Nat.le_of_ble_eq_true rfl) (m162_ok rfl) (Nat.le_trans (by decide) hd) (Nat.zero_le _) (Nat.zero_le _) rfl ?_
    refine x_call1 (as := [.int v1, .int (m162 D v1 v2)]) (rest := []) r161_19 rfl rfl rfl (by decide) (Nat.le_of_ble_eq_true rfl) (m255_ok rfl) (Nat.le_trans (by decide) hd) (Nat.zero_le _) (Nat.zero_le _) rfl ?_
    refine x_ld (v := .ref 2) r161_22 rfl rfl rfl ?_
    refine x_ld (v := .int v2) r161_23 rfl rfl rfl ?_
    refine x_call1 (as := [.int v2]) (rest := [.ref 2, .int (m255 v1 (m162 D v1 v2))]) r161_24 rfl rfl rfl (by decide) (Nat.le_of_ble_eq_true rfl) (m166_ok rfl) (Nat.le_trans (by decide) hd) (Nat.zero_le _) (Nat.zero_le _) rfl ?_
    refine x_call1 (as := [.ref 2, .int (m166 v2)]) (rest := [.int (m255 v1 (m162 D v1 v2))]) r161_27 rfl rfl rfl (by decide) (Nat.le_of_ble_eq_true rfl) (m157_ok rfl) (Nat.le_trans (by decide) hd) (Nat.zero_le _) (Nat.zero_le _) rfl ?_
    refine x_ar r161_30 rfl trivial rfl ?_
    subst h
    exact x_ret (ret := some .int) (C := True) (v := some (.int _)) r161_31 rt161 rfl rfl rfl rfl rfl rfl rfl rfl trivial hQ
theorem m161_ok {D : am_D} {v1 : Int32} {v2 : Int32} {r : Int32} (h : m161 D v1 v2 = r) : am_Y xs L 161 4 0 0 [.ref 2, .int v1, .int v2] D (.inl (some (.int r))) D := am_Yof (mi := am_m161) (lc := [.ref 2, .int v1, .int v2]) pg161 (Nat.le_of_ble_eq_true rfl) (am_rc1 (ci := 0) rfl rfl rfl rfl rfl) rfl (fun Q hQ => m161_w (Nat.le_refl _) h hQ)
theorem r174_0 : am_at 174 0 = some (.iconst (0), 1, []) := by decide +kernel
theorem r174_1 : am_at 174 1 = some (.istore 4, 2, [4]) := by decide +kernel
theorem r174_3 : am_at 174 3 = some (.iload 4, 2, [4]) := by decide +kernel
theorem r174_5 : am_at 174 5 = some (.iconst (2), 1, []) := by decide +kernel
theorem r174_6 : am_at 174 6 = some (.aload_n 0, 1, [0]) := by decide +kernel
theorem r174_7 : am_at 174 7 = some (.getfield 24, 3, [2, 4, 0, 223]) := by decide +kernel
theorem r174_10 : am_at 174 10 = some (.imul, 1, []) := by decide +kernel
theorem r174_11 : am_at 174 11 = some (.if_icmp .ge (29), 3, [40]) := by decide +kernel
theorem r174_14 : am_at 174 14 = some (.aload_n 0, 1, [0]) := by decide +kernel
theorem r174_15 : am_at 174 15 = some (.iload_n 1, 1, [1]) := by decide +kernel
theorem r174_16 : am_at 174 16 = some (.iload_n 2, 1, [2]) := by decide +kernel
theorem r174_17 : am_at 174 17 = some (.iload_n 3, 1, [3]) := by decide +kernel
theorem r174_18 : am_at 174 18 = some (.iload 4, 2, [4]) := by decide +kernel
theorem r174_20 : am_at 174 20 = some (.iconst (2), 1, []) := by decide +kernel
theorem r174_21 : am_at 174 21 = some (.idiv, 1, []) := by decide +kernel
theorem r174_22 : am_at 174 22 = some (.iload 4, 2, [4]) := by decide +kernel
theorem r174_24 : am_at 174 24 = some (.iconst (2), 1, []) := by decide +kernel
theorem r174_25 : am_at 174 25 = some (.irem, 1, []) := by decide +kernel
theorem r174_26 : am_at 174 26 = some (.invokevirtual 86, 3, [175, 6, 816, 0]) := by decide +kernel
theorem r174_29 : am_at 174 29 = some (.ifCond .eq (5), 3, [34]) := by decide +kernel
theorem r174_32 : am_at 174 32 = some (.iconst (1), 1, []) := by decide +kernel
theorem r174_33 : am_at 174 33 = some (.ireturn, 1, []) := by decide +kernel
theorem r174_34 : am_at 174 34 = some (.iinc 4 (1), 3, [4]) := by decide +kernel
theorem r174_37 : am_at 174 37 = some (.goto (-34), 3, [3]) := by decide +kernel
theorem r174_40 : am_at 174 40 = some (.iconst (0), 1, []) := by decide +kernel
theorem r174_41 : am_at 174 41 = some (.ireturn, 1, []) := by decide +kernel
theorem rt174 : am_rtt 174 = some (some .boolean) := by decide +kernel
set_option maxRecDepth 100000 in
theorem pg174 : am_pg[174]? = some am_m174 := rfl
theorem m174_L3_w {d : Nat} {N : Nat} {D : am_D} {v1 : Int32} {v2 : Int32} {v3 : Int32} {mc ms : Nat} {Q : am_O → am_AH → Prop} (hd : 4 ≤ d) : ∀ (n : Nat) (v4 : Int32) {q : Nat} (h : m174_L3 N D v1 v2 v3  n v4 = some q) (k0 : q = 0 → am_X xs L 174 d mc ms 40 [.ref 99, am_dead, am_dead, am_dead, am_dead] [] (am_mk D) 0 0 Q) (k1 : q = 1 → am_X xs L 174 d mc ms 32 [.ref 99, am_dead, am_dead, am_dead, am_dead] [] (am_mk D) 0 0 Q), am_X xs L 174 d mc ms 3 [.ref 99, .int v1, .int v2, .int v3, .int v4] [] (am_mk D) 0 0 Q := by
  intro n
  induction n with
  | zero =>
    intro v4 q h k0 k1
    exact (nomatch (show none = some q from h))
  | succ n ih =>
    intro v4 q h k0 k1
    rw [m174_L3] at h
    refine x_ld (v := .int v4) r174_3 rfl rfl rfl ?_
    refine x_ic (v := 2) r174_5 rfl rfl ?_
    refine x_ld (v := .ref 99) r174_6 rfl rfl rfl ?_
    refine y_gf (cd := 0) (v := .int (D.1 99 4)) r174_7 rfl rfl rfl ?_
    refine x_ar r174_10 rfl trivial rfl ?_
    rcases am_ifE h with ⟨c1, h⟩ | ⟨c1, h⟩
    · refine x_icgeT r174_11 c1 ?_
      refine x_forget (lc0 := [.ref 99, am_dead, am_dead, am_dead, am_dead]) ⟨Or.inl rfl, Or.inr ⟨rfl, rfl⟩, Or.inr ⟨rfl, rfl⟩, Or.inr ⟨rfl, rfl⟩, Or.inr ⟨rfl, rfl⟩, trivial⟩ ?_
      cases h
      exact k0 rfl
    · refine x_icgeF r174_11 c1 rfl ?_
      refine x_ld (v := .ref 99) r174_14 rfl rfl rfl ?_
      refine x_ld (v := .int v1) r174_15 rfl rfl rfl ?_
      refine x_ld (v := .int v2) r174_16 rfl rfl rfl ?_
      refine x_ld (v := .int v3) r174_17 rfl rfl rfl ?_
      refine x_ld (v := .int v4) r174_18 rfl rfl rfl ?_
      refine x_ic (v := 2) r174_20 rfl rfl ?_
      refine x_ar r174_21 rfl (by decide) rfl ?_
      refine x_ld (v := .int v4) r174_22 rfl rfl rfl ?_
      refine x_ic (v := 2) r174_24 rfl rfl ?_
      refine x_ar r174_25 rfl (by decide) rfl ?_
      refine x_call1 (as := [.ref 99, .int v1, .int v2, .int v3, .int (v4 / (2 : Int32)), .int (v4 - v4 / (2 : Int32) * (2 : Int32))]) (rest := []) r174_26 rfl rfl rfl (by decide) (Nat.le_of_ble_eq_true rfl) (m175_ok rfl) (Nat.le_trans (by decide) hd) (Nat.zero_le _) (Nat.zero_le _) rfl ?_
      rcases am_ifE h with ⟨c2, h⟩ | ⟨c2, h⟩
      · refine x_ifeqT r174_29 c2 ?_
        obtain ⟨x3, e4, h⟩ := am_ltE h
        refine x_sto (lc' := [.ref 99, .int v1, .int v2, .int v3, .int x3]) r174_34 rfl rfl (by subst e4; rfl) rfl ?_
        refine x_goto r174_37 ?_
        exact x_forget (lc0 := [.ref 99, .int v1, .int v2, .int v3, .int x3]) ⟨Or.inl rfl, Or.inl rfl, Or.inl rfl, Or.inl rfl, Or.inl rfl, trivial⟩ (ih x3 h k0 k1)
      · refine x_ifeqF r174_29 c2 rfl ?_
        refine x_forget (lc0 := [.ref 99, am_dead, am_dead, am_dead, am_dead]) ⟨Or.inl rfl, Or.inr ⟨rfl, rfl⟩, Or.inr ⟨rfl, rfl⟩, Or.inr ⟨rfl, rfl⟩, Or.inr ⟨rfl, rfl⟩, trivial⟩ ?_
        cases h
        exact k1 rfl
theorem m174_w {d mc ms : Nat} {N : Nat} {D : am_D} {v1 : Int32} {v2 : Int32} {v3 : Int32} {Q : am_O → am_AH → Prop} (hd : 4 ≤ d) {r : Int32} (h : m174 N D v1 v2 v3 = some r) (hQ : Q (.inl (some (.int r))) (am_mk D)) : am_X xs L 174 d mc ms 0 [.ref 99, .int v1, .int v2, .int v3, am_dead] [] (am_mk D) 0 0 Q := by
  unfold m174 at h
  refine x_ic (v := 0) r174_0 rfl rfl ?_
  refine x_sto (lc' := [.ref 99, .int v1, .int v2, .int v3, .int (0 : Int32)]) r174_1 rfl rfl rfl rfl ?_
  obtain ⟨q5, h6, h⟩ := Option.bind_eq_some_iff.mp h
  refine x_forget (lc0 := [.ref 99, .int v1, .int v2, .int v3, .int (0 : Int32)]) ⟨Or.inl rfl, Or.inl rfl, Or.inl rfl, Or.inl rfl, Or.inl rfl, trivial⟩ (m174_L3_w hd N (0 : Int32) h6 (fun e7 => ?_) (fun e8 => ?_))
  · rw [if_pos e7] at h
    refine x_ic (v := 0) r174_40 rfl rfl ?_
    cases h
    exact x_ret (ret := some .boolean) (C := narrow .boolean (.int (0 : Int32)) = .int (0 : Int32)) (v := some (.int (0 : Int32))) r174_41 rt174 rfl rfl rfl rfl rfl rfl rfl rfl (by decide) hQ
  · rw [if_neg (by rw [e8]; decide)] at h
    refine x_ic (v := 1) r174_32 rfl rfl ?_
    cases h
    exact x_ret (ret := some .boolean) (C := narrow .boolean (.int (1 : Int32)) = .int (1 : Int32)) (v := some (.int (1 : Int32))) r174_33 rt174 rfl rfl rfl rfl rfl rfl rfl rfl (by decide) hQ
theorem m174_ok {N : Nat} {D : am_D} {v1 : Int32} {v2 : Int32} {v3 : Int32} {r : Int32} (h : m174 N D v1 v2 v3 = some r) : am_Y xs L 174 4 0 0 [.ref 99, .int v1, .int v2, .int v3] D (.inl (some (.int r))) D := am_Yof (mi := am_m174) (lc := [.ref 99, .int v1, .int v2, .int v3, am_dead]) pg174 (Nat.le_of_ble_eq_true rfl) (am_rc1 (ci := 2) rfl rfl rfl rfl rfl) rfl (fun Q hQ => m174_w (Nat.le_refl _) h hQ)
theorem r189_0 : am_at 189 0 = some (.aload_n 0, 1, [0]) := by decide +kernel
theorem r189_1 : am_at 189 1 = some (.iload_n 2, 1, [2]) := by decide +kernel
theorem r189_2 : am_at 189 2 = some (.putfield 28, 3, [3, 5, 0, 198]) := by decide +kernel
theorem r189_5 : am_at 189 5 = some (.iconst (0), 1, []) := by decide +kernel
theorem r189_6 : am_at 189 6 = some (.istore_n 3, 1, [3]) := by decide +kernel
theorem r189_7 : am_at 189 7 = some (.iload_n 3, 1, [3]) := by decide +kernel
theorem r189_8 : am_at 189 8 = some (.iconst (3), 1, []) := by decide +kernel
theorem r189_9 : am_at 189 9 = some (.if_icmp .ge (28), 3, [37]) := by decide +kernel
theorem r189_12 : am_at 189 12 = some (.aload_n 0, 1, [0]) := by decide +kernel
theorem r189_13 : am_at 189 13 = some (.getfield 11, 3, [3, 0, 3, 193]) := by decide +kernel
theorem r189_16 : am_at 189 16 = some (.iload_n 3, 1, [3]) := by decide +kernel
theorem r189_17 : am_at 189 17 = some (.aload_n 1, 1, [1]) := by decide +kernel
theorem r189_18 : am_at 189 18 = some (.iload_n 2, 1, [2]) := by decide +kernel
theorem r189_19 : am_at 189 19 = some (.iconst (1), 1, []) := by decide +kernel
theorem r189_20 : am_at 189 20 = some (.iadd, 1, []) := by decide +kernel
theorem r189_21 : am_at 189 21 = some (.iload_n 3, 1, [3]) := by decide +kernel
theorem r189_22 : am_at 189 22 = some (.iadd, 1, []) := by decide +kernel
theorem r189_23 : am_at 189 23 = some (.iconst (4), 1, []) := by decide +kernel
theorem r189_24 : am_at 189 24 = some (.irem, 1, []) := by decide +kernel
theorem r189_25 : am_at 189 25 = some (.invokevirtual 32, 3, [204, 2, 860, 0]) := by decide +kernel
theorem r189_28 : am_at 189 28 = some (.invokestatic 38, 3, [181, 3, 861, 0]) := by decide +kernel
theorem r189_31 : am_at 189 31 = some (.iinc 3 (1), 3, [3]) := by decide +kernel
theorem r189_34 : am_at 189 34 = some (.goto (-27), 3, [7]) := by decide +kernel
theorem r189_37 : am_at 189 37 = some (.aload_n 0, 1, [0]) := by decide +kernel
theorem r189_38 : am_at 189 38 = some (.getfield 18, 3, [3, 2, 3, 195]) := by decide +kernel
theorem r189_41 : am_at 189 41 = some (.iconst (0), 1, []) := by decide +kernel
theorem r189_42 : am_at 189 42 = some (.invokestatic 44, 3, [183, 2, 862, 0]) := by decide +kernel
theorem r189_45 : am_at 189 45 = some (.iconst (0), 1, []) := by decide +kernel
theorem r189_46 : am_at 189 46 = some (.istore_n 3, 1, [3]) := by decide +kernel
theorem r189_47 : am_at 189 47 = some (.iload_n 3, 1, [3]) := by decide +kernel
theorem r189_48 : am_at 189 48 = some (.bipush (28), 2, []) := by decide +kernel
theorem r189_50 : am_at 189 50 = some (.if_icmp .ge (77), 3, [127]) := by decide +kernel
theorem r189_53 : am_at 189 53 = some (.aload_n 1, 1, [1]) := by decide +kernel
theorem r189_54 : am_at 189 54 = some (.iload_n 3, 1, [3]) := by decide +kernel
theorem r189_55 : am_at 189 55 = some (.invokevirtual 48, 3, [203, 2, 863, 0]) := by decide +kernel
theorem r189_58 : am_at 189 58 = some (.istore 4, 2, [4]) := by decide +kernel
theorem r189_60 : am_at 189 60 = some (.iload 4, 2, [4]) := by decide +kernel
theorem r189_62 : am_at 189 62 = some (.iload_n 2, 1, [2]) := by decide +kernel
theorem r189_63 : am_at 189 63 = some (.if_icmp .eq (18), 3, [81]) := by decide +kernel
theorem r189_66 : am_at 189 66 = some (.iload 4, 2, [4]) := by decide +kernel
theorem r189_68 : am_at 189 68 = some (.ifCond .lt (13), 3, [81]) := by decide +kernel
theorem r189_71 : am_at 189 71 = some (.iload 4, 2, [4]) := by decide +kernel
theorem r189_73 : am_at 189 73 = some (.iconst (4), 1, []) := by decide +kernel
theorem r189_74 : am_at 189 74 = some (.if_icmp .ge (7), 3, [81]) := by decide +kernel
theorem r189_77 : am_at 189 77 = some (.iconst (1), 1, []) := by decide +kernel
theorem r189_78 : am_at 189 78 = some (.goto (4), 3, [82]) := by decide +kernel
theorem r189_81 : am_at 189 81 = some (.iconst (0), 1, []) := by decide +kernel
theorem r189_82 : am_at 189 82 = some (.istore 5, 2, [5]) := by decide +kernel
theorem r189_84 : am_at 189 84 = some (.iload 5, 2, [5]) := by decide +kernel
theorem r189_86 : am_at 189 86 = some (.ifCond .eq (12), 3, [98]) := by decide +kernel
theorem r189_89 : am_at 189 89 = some (.aload_n 0, 1, [0]) := by decide +kernel
theorem r189_90 : am_at 189 90 = some (.aload_n 1, 1, [1]) := by decide +kernel
theorem r189_91 : am_at 189 91 = some (.iload_n 3, 1, [3]) := by decide +kernel
theorem r189_92 : am_at 189 92 = some (.invokevirtual 51, 3, [191, 3, 864, 0]) := by decide +kernel
theorem r189_95 : am_at 189 95 = some (.goto (4), 3, [99]) := by decide +kernel
theorem r189_98 : am_at 189 98 = some (.iconst (-1), 1, []) := by decide +kernel
theorem r189_99 : am_at 189 99 = some (.istore 6, 2, [6]) := by decide +kernel
theorem r189_101 : am_at 189 101 = some (.aload_n 0, 1, [0]) := by decide +kernel
theorem r189_102 : am_at 189 102 = some (.getfield 15, 3, [3, 1, 3, 194]) := by decide +kernel
theorem r189_105 : am_at 189 105 = some (.iload_n 3, 1, [3]) := by decide +kernel
theorem r189_106 : am_at 189 106 = some (.iload 6, 2, [6]) := by decide +kernel
theorem r189_108 : am_at 189 108 = some (.invokestatic 38, 3, [181, 3, 861, 0]) := by decide +kernel
theorem r189_111 : am_at 189 111 = some (.aload_n 0, 1, [0]) := by decide +kernel
theorem r189_112 : am_at 189 112 = some (.getfield 18, 3, [3, 2, 3, 195]) := by decide +kernel
theorem r189_115 : am_at 189 115 = some (.iload 6, 2, [6]) := by decide +kernel
theorem r189_117 : am_at 189 117 = some (.iconst (1), 1, []) := by decide +kernel
theorem r189_118 : am_at 189 118 = some (.invokestatic 55, 3, [182, 3, 871, 0]) := by decide +kernel
theorem r189_121 : am_at 189 121 = some (.iinc 3 (1), 3, [3]) := by decide +kernel
theorem r189_124 : am_at 189 124 = some (.goto (-77), 3, [47]) := by decide +kernel
theorem r189_127 : am_at 189 127 = some (.return_, 1, []) := by decide +kernel
theorem rt189 : am_rtt 189 = some (none) := by decide +kernel
set_option maxRecDepth 100000 in
theorem pg189 : am_pg[189]? = some am_m189 := rfl
theorem m189_L7_w {d : Nat} {N : Nat} {v2 : Int32} {mc ms : Nat} {Q : am_O → am_AH → Prop} (hd : 3 ≤ d) : ∀ (n : Nat) (D : am_D) (v3 : Int32) {q : am_D} (h : m189_L7 N v2  n D v3 = some q) (k0 : am_X xs L 189 d mc ms 37 [.ref 93, .ref 1, .int v2, am_dead, am_dead, am_dead, am_dead] [] (am_mk q) 0 0 Q), am_X xs L 189 d mc ms 7 [.ref 93, .ref 1, .int v2, .int v3, am_dead, am_dead, am_dead] [] (am_mk D) 0 0 Q := by
  intro n
  induction n with
  | zero =>
    intro D v3 q h k0
    exact (nomatch (show none = some q from h))
  | succ n ih =>
    intro D v3 q h k0
    rw [m189_L7] at h
    refine x_ld (v := .int v3) r189_7 rfl rfl rfl ?_
    refine x_ic (v := 3) r189_8 rfl rfl ?_
    rcases am_ifE h with ⟨c3, h⟩ | ⟨c3, h⟩
    · refine x_icgeT r189_9 c3 ?_
      refine x_forget (lc0 := [.ref 93, .ref 1, .int v2, am_dead, am_dead, am_dead, am_dead]) ⟨Or.inl rfl, Or.inl rfl, Or.inl rfl, Or.inr ⟨rfl, rfl⟩, Or.inl rfl, Or.inl rfl, Or.inl rfl, trivial⟩ ?_
      cases h
      exact k0
    · refine x_icgeF r189_9 c3 rfl ?_
      refine x_ld (v := .ref 93) r189_12 rfl rfl rfl ?_
      refine y_gf (cd := 96) (v := .ref 94) r189_13 rfl rfl rfl ?_
      refine x_ld (v := .int v3) r189_16 rfl rfl rfl ?_
      refine x_ld (v := .ref 1) r189_17 rfl rfl rfl ?_
      refine x_ld (v := .int v2) r189_18 rfl rfl rfl ?_
      refine x_ic (v := 1) r189_19 rfl rfl ?_
      refine x_ar r189_20 rfl trivial rfl ?_
      refine x_ld (v := .int v3) r189_21 rfl rfl rfl ?_
      refine x_ar r189_22 rfl trivial rfl ?_
      refine x_ic (v := 4) r189_23 rfl rfl ?_
      refine x_ar r189_24 rfl (by decide) rfl ?_
      obtain ⟨q4, h5, h⟩ := Option.bind_eq_some_iff.mp h
      refine x_call1 (as := [.ref 1, .int (((v2 + (1 : Int32)) + v3) - ((v2 + (1 : Int32)) + v3) / (4 : Int32) * (4 : Int32))]) (rest := [.int v3, .ref 94]) r189_25 rfl rfl rfl (by decide) (Nat.le_of_ble_eq_true rfl) (m204_ok h5) (Nat.le_trans (by decide) hd) (Nat.zero_le _) (Nat.zero_le _) rfl ?_
      obtain ⟨D6, e7, h⟩ := am_ltE h
      refine x_call0 (as := [.ref 94, .int v3, .int q4]) (rest := []) r189_28 rfl rfl rfl (by decide) (Nat.le_of_ble_eq_true rfl) (am_rows_put (n := 3) rfl (by decide) e7) (Nat.le_trans (by decide) hd) (Nat.zero_le _) (Nat.zero_le _) rfl ?_
      obtain ⟨x8, e9, h⟩ := am_ltE h
      refine x_sto (lc' := [.ref 93, .ref 1, .int v2, .int x8, am_dead, am_dead, am_dead]) r189_31 rfl rfl (by subst e9; rfl) rfl ?_
      refine x_goto r189_34 ?_
      exact x_forget (lc0 := [.ref 93, .ref 1, .int v2, .int x8, am_dead, am_dead, am_dead]) ⟨Or.inl rfl, Or.inl rfl, Or.inl rfl, Or.inl rfl, Or.inl rfl, Or.inl rfl, Or.inl rfl, trivial⟩ (ih D6 x8 h k0)
theorem m189_L47_w {d : Nat} {N : Nat} {v2 : Int32} {mc ms : Nat} {Q : am_O → am_AH → Prop} (hd : 3 ≤ d) : ∀ (n : Nat) (D : am_D) (v3 : Int32) {q : am_D} (h : m189_L47 N v2  n D v3 = some q) (k0 : am_X xs L 189 d mc ms 127 [.ref 93, .ref 1, am_dead, am_dead, am_dead, am_dead, am_dead] [] (am_mk q) 0 0 Q), am_X xs L 189 d mc ms 47 [.ref 93, .ref 1, .int v2, .int v3, am_dead, am_dead, am_dead] [] (am_mk D) 0 0 Q := by
  intro n
  induction n with
  | zero =>
    intro D v3 q h k0
    exact (nomatch (show none = some q from h))
  | succ n ih =>
    intro D v3 q h k0
    rw [m189_L47] at h
    refine x_ld (v := .int v3) r189_47 rfl rfl rfl ?_
    refine x_bi (v := 28) r189_48 rfl rfl ?_
    rcases am_ifE h with ⟨c14, h⟩ | ⟨c14, h⟩
    · refine x_icgeT r189_50 c14 ?_
      refine x_forget (lc0 := [.ref 93, .ref 1, am_dead, am_dead, am_dead, am_dead, am_dead]) ⟨Or.inl rfl, Or.inl rfl, Or.inr ⟨rfl, rfl⟩, Or.inr ⟨rfl, rfl⟩, Or.inl rfl, Or.inl rfl, Or.inl rfl, trivial⟩ ?_
      cases h
      exact k0
    · refine x_icgeF r189_50 c14 rfl ?_
      refine x_ld (v := .ref 1) r189_53 rfl rfl rfl ?_
      refine x_ld (v := .int v3) r189_54 rfl rfl rfl ?_
      refine x_call1 (as := [.ref 1, .int v3]) (rest := []) r189_55 rfl rfl rfl (by decide) (Nat.le_of_ble_eq_true rfl) (m203_ok rfl) (Nat.le_trans (by decide) hd) (Nat.zero_le _) (Nat.zero_le _) rfl ?_
      obtain ⟨x15, e16, h⟩ := am_ltE h
      refine am_topI e16 ?_
      refine x_sto (lc' := [.ref 93, .ref 1, .int v2, .int v3, .int x15, am_dead, am_dead]) r189_58 rfl rfl rfl rfl ?_
      refine x_ld (v := .int x15) r189_60 rfl rfl rfl ?_
      refine x_ld (v := .int v2) r189_62 rfl rfl rfl ?_
      obtain ⟨q17, h19, h⟩ := am_ltE h
      replace h19 := h19.symm
      have kj18 : am_X xs L 189 d mc ms 82 [.ref 93, .ref 1, .int v2, .int v3, .int x15, am_dead, am_dead] [.int q17] (am_mk D) 0 0 Q := by
        refine x_sto (lc' := [.ref 93, .ref 1, .int v2, .int v3, .int x15, .int q17, am_dead]) r189_82 rfl rfl rfl rfl ?_
        refine x_ld (v := .int q17) r189_84 rfl rfl rfl ?_
        obtain ⟨q23, h25, h⟩ := Option.bind_eq_some_iff.mp h
        have kj24 : am_X xs L 189 d mc ms 99 [.ref 93, .ref 1, .int v2, .int v3, .int x15, .int q17, am_dead] [.int q23] (am_mk D) 0 0 Q := by
          refine x_sto (lc' := [.ref 93, .ref 1, .int v2, .int v3, .int x15, .int q17, .int q23]) r189_99 rfl rfl rfl rfl ?_
          refine x_ld (v := .ref 93) r189_101 rfl rfl rfl ?_
          refine y_gf (cd := 97) (v := .ref 95) r189_102 rfl rfl rfl ?_
          refine x_ld (v := .int v3) r189_105 rfl rfl rfl ?_
          refine x_ld (v := .int q23) r189_106 rfl rfl rfl ?_
          obtain ⟨D29, e30, h⟩ := am_ltE h
          refine x_call0 (as := [.ref 95, .int v3, .int q23]) (rest := []) r189_108 rfl rfl rfl (by decide) (Nat.le_of_ble_eq_true rfl) (am_rows_put (n := 28) rfl (by decide) e30) (Nat.le_trans (by decide) hd) (Nat.zero_le _) (Nat.zero_le _) rfl ?_
          refine x_ld (v := .ref 93) r189_111 rfl rfl rfl ?_
          refine y_gf (cd := 98) (v := .ref 96) r189_112 rfl rfl rfl ?_
          refine x_ld (v := .int q23) r189_115 rfl rfl rfl ?_
          refine x_ic (v := 1) r189_117 rfl rfl ?_
          obtain ⟨D31, e32, h⟩ := am_ltE h
          refine x_call0 (as := [.ref 96, .int q23, .int (1 : Int32)]) (rest := []) r189_118 rfl rfl rfl (by decide) (Nat.le_of_ble_eq_true rfl) (am_rows_add (n := 8) rfl (by decide) e32) (Nat.le_trans (by decide) hd) (Nat.zero_le _) (Nat.zero_le _) rfl ?_
          obtain ⟨x33, e34, h⟩ := am_ltE h
          refine x_sto (lc' := [.ref 93, .ref 1, .int v2, .int x33, .int x15, .int q17, .int q23]) r189_121 rfl rfl (by subst e34; rfl) rfl ?_
          refine x_goto r189_124 ?_
          exact x_forget (lc0 := [.ref 93, .ref 1, .int v2, .int x33, am_dead, am_dead, am_dead]) ⟨Or.inl rfl, Or.inl rfl, Or.inl rfl, Or.inl rfl, Or.inr ⟨rfl, rfl⟩, Or.inr ⟨rfl, rfl⟩, Or.inr ⟨rfl, rfl⟩, trivial⟩ (ih D31 x33 h k0)
        rcases am_ifE h25 with ⟨c26, h25⟩ | ⟨c26, h25⟩
        · refine x_ifeqT r189_86 c26 ?_
          refine x_ic (v := -1) r189_98 rfl rfl ?_
          cases h25
          exact kj24
        · refine x_ifeqF r189_86 c26 rfl ?_
          refine x_ld (v := .ref 93) r189_89 rfl rfl rfl ?_
          refine x_ld (v := .ref 1) r189_90 rfl rfl rfl ?_
          refine x_ld (v := .int v3) r189_91 rfl rfl rfl ?_
          obtain ⟨q27, h28, h25⟩ := Option.bind_eq_some_iff.mp h25
          refine x_call1 (as := [.ref 93, .ref 1, .int v3]) (rest := []) r189_92 rfl rfl rfl (by decide) (Nat.le_of_ble_eq_true rfl) (m191_ok h28) (Nat.le_trans (by decide) hd) (Nat.zero_le _) (Nat.zero_le _) rfl ?_
          refine x_goto r189_95 ?_
          cases h25
          exact kj24
      rcases am_ifE h19 with ⟨c20, h19⟩ | ⟨c20, h19⟩
      · refine x_iceqT r189_63 c20 ?_
        refine x_ic (v := 0) r189_81 rfl rfl ?_
        subst h19
        exact kj18
      · refine x_iceqF r189_63 c20 rfl ?_
        refine x_ld (v := .int x15) r189_66 rfl rfl rfl ?_
        rcases am_ifE h19 with ⟨c21, h19⟩ | ⟨c21, h19⟩
        · refine x_ifltT r189_68 c21 ?_
          refine x_ic (v := 0) r189_81 rfl rfl ?_
          subst h19
          exact kj18
        · refine x_ifltF r189_68 c21 rfl ?_
          refine x_ld (v := .int x15) r189_71 rfl rfl rfl ?_
          refine x_ic (v := 4) r189_73 rfl rfl ?_
          rcases am_ifE h19 with ⟨c22, h19⟩ | ⟨c22, h19⟩
          · refine x_icgeT r189_74 c22 ?_
            refine x_ic (v := 0) r189_81 rfl rfl ?_
            subst h19
            exact kj18
          · refine x_icgeF r189_74 c22 rfl ?_
            refine x_ic (v := 1) r189_77 rfl rfl ?_
            refine x_goto r189_78 ?_
            subst h19
            exact kj18
theorem m189_w {d mc ms : Nat} {N : Nat} {D : am_D} {v2 : Int32} {Q : am_O → am_AH → Prop} (hd : 3 ≤ d) {r : am_D} (h : m189 N D v2 = some r) (hQ : Q (.inl none) (am_mk r)) : am_X xs L 189 d mc ms 0 [.ref 93, .ref 1, .int v2, am_dead, am_dead, am_dead, am_dead] [] (am_mk D) 0 0 Q := by
  unfold m189 at h
  refine x_ld (v := .ref 93) r189_0 rfl rfl rfl ?_
  refine x_ld (v := .int v2) r189_1 rfl rfl rfl ?_
  obtain ⟨D1, e2, h⟩ := am_ltE h
  refine y_pf0 r189_2 rfl e2 rfl ?_
  refine x_ic (v := 0) r189_5 rfl rfl ?_
  refine x_sto (lc' := [.ref 93, .ref 1, .int v2, .int (0 : Int32), am_dead, am_dead, am_dead]) r189_6 rfl rfl rfl rfl ?_
  obtain ⟨q10, h11, h⟩ := Option.bind_eq_some_iff.mp h
  refine x_forget (lc0 := [.ref 93, .ref 1, .int v2, .int (0 : Int32), am_dead, am_dead, am_dead]) ⟨Or.inl rfl, Or.inl rfl, Or.inl rfl, Or.inl rfl, Or.inl rfl, Or.inl rfl, Or.inl rfl, trivial⟩ (m189_L7_w hd N D1 (0 : Int32) h11 ?_)
  refine x_ld (v := .ref 93) r189_37 rfl rfl rfl ?_
  refine y_gf (cd := 98) (v := .ref 96) r189_38 rfl rfl rfl ?_
  refine x_ic (v := 0) r189_41 rfl rfl ?_
  obtain ⟨D12, e13, h⟩ := am_ltE h
  refine x_call0 (as := [.ref 96, .int (0 : Int32)]) (rest := []) r189_42 rfl rfl rfl (by decide) (Nat.le_of_ble_eq_true rfl) (am_rows_fill (n := 8) rfl (by decide) e13) (Nat.le_trans (by decide) hd) (Nat.zero_le _) (Nat.zero_le _) rfl ?_
  refine x_ic (v := 0) r189_45 rfl rfl ?_
  refine x_sto (lc' := [.ref 93, .ref 1, .int v2, .int (0 : Int32), am_dead, am_dead, am_dead]) r189_46 rfl rfl rfl rfl ?_
  obtain ⟨q35, h36, h⟩ := Option.bind_eq_some_iff.mp h
  refine x_forget (lc0 := [.ref 93, .ref 1, .int v2, .int (0 : Int32), am_dead, am_dead, am_dead]) ⟨Or.inl rfl, Or.inl rfl, Or.inl rfl, Or.inl rfl, Or.inl rfl, Or.inl rfl, Or.inl rfl, trivial⟩ (m189_L47_w hd N D12 (0 : Int32) h36 ?_)
  cases h
  exact x_ret (ret := none) (C := True) (v := none) r189_127 rt189 rfl rfl rfl rfl rfl rfl rfl rfl trivial hQ
theorem m189_ok {N : Nat} {D : am_D} {v2 : Int32} {r : am_D} (h : m189 N D v2 = some r) : am_Y xs L 189 3 0 0 [.ref 93, .ref 1, .int v2] D (.inl none) r := am_Yof (mi := am_m189) (lc := [.ref 93, .ref 1, .int v2, am_dead, am_dead, am_dead, am_dead]) pg189 (Nat.le_of_ble_eq_true rfl) (am_rc1 (ci := 3) rfl rfl rfl rfl rfl) rfl (fun Q hQ => m189_w (Nat.le_refl _) h hQ)
theorem r192_0 : am_at 192 0 = some (.iconst (0), 1, []) := by decide +kernel
theorem r192_1 : am_at 192 1 = some (.istore_n 1, 1, [1]) := by decide +kernel
theorem r192_2 : am_at 192 2 = some (.iload_n 1, 1, [1]) := by decide +kernel
theorem r192_3 : am_at 192 3 = some (.aload_n 0, 1, [0]) := by decide +kernel
theorem r192_4 : am_at 192 4 = some (.getfield 21, 3, [3, 3, 3, 196]) := by decide +kernel
theorem r192_7 : am_at 192 7 = some (.arraylength, 1, []) := by decide +kernel
theorem r192_8 : am_at 192 8 = some (.if_icmp .ge (16), 3, [24]) := by decide +kernel
theorem r192_11 : am_at 192 11 = some (.aload_n 0, 1, [0]) := by decide +kernel
theorem r192_12 : am_at 192 12 = some (.getfield 21, 3, [3, 3, 3, 196]) := by decide +kernel
theorem r192_15 : am_at 192 15 = some (.iload_n 1, 1, [1]) := by decide +kernel
theorem r192_16 : am_at 192 16 = some (.lconst 0, 1, []) := by decide +kernel
theorem r192_17 : am_at 192 17 = some (.lastore, 1, []) := by decide +kernel
theorem r192_18 : am_at 192 18 = some (.iinc 1 (1), 3, [1]) := by decide +kernel
theorem r192_21 : am_at 192 21 = some (.goto (-19), 3, [2]) := by decide +kernel
theorem r192_24 : am_at 192 24 = some (.aload_n 0, 1, [0]) := by decide +kernel
theorem r192_25 : am_at 192 25 = some (.iconst (0), 1, []) := by decide +kernel
theorem r192_26 : am_at 192 26 = some (.iconst (0), 1, []) := by decide +kernel
theorem r192_27 : am_at 192 27 = some (.lconst 1, 1, []) := by decide +kernel
theorem r192_28 : am_at 192 28 = some (.invokevirtual 73, 3, [195, 4, 876, 0]) := by decide +kernel
theorem r192_31 : am_at 192 31 = some (.iconst (0), 1, []) := by decide +kernel
theorem r192_32 : am_at 192 32 = some (.istore_n 1, 1, [1]) := by decide +kernel
theorem r192_33 : am_at 192 33 = some (.iconst (0), 1, []) := by decide +kernel
theorem r192_34 : am_at 192 34 = some (.istore_n 2, 1, [2]) := by decide +kernel
theorem r192_35 : am_at 192 35 = some (.iload_n 2, 1, [2]) := by decide +kernel
theorem r192_36 : am_at 192 36 = some (.aload_n 0, 1, [0]) := by decide +kernel
theorem r192_37 : am_at 192 37 = some (.getfield 15, 3, [3, 1, 3, 194]) := by decide +kernel
theorem r192_40 : am_at 192 40 = some (.arraylength, 1, []) := by decide +kernel
theorem r192_41 : am_at 192 41 = some (.if_icmp .ge (33), 3, [74]) := by decide +kernel
theorem r192_44 : am_at 192 44 = some (.aload_n 0, 1, [0]) := by decide +kernel
theorem r192_45 : am_at 192 45 = some (.getfield 15, 3, [3, 1, 3, 194]) := by decide +kernel
theorem r192_48 : am_at 192 48 = some (.iload_n 2, 1, [2]) := by decide +kernel
theorem r192_49 : am_at 192 49 = some (.iaload, 1, []) := by decide +kernel
theorem r192_50 : am_at 192 50 = some (.iconst (-1), 1, []) := by decide +kernel
theorem r192_51 : am_at 192 51 = some (.if_icmp .eq (17), 3, [68]) := by decide +kernel
theorem r192_54 : am_at 192 54 = some (.iinc 1 (1), 3, [1]) := by decide +kernel
theorem r192_57 : am_at 192 57 = some (.aload_n 0, 1, [0]) := by decide +kernel
theorem r192_58 : am_at 192 58 = some (.aload_n 0, 1, [0]) := by decide +kernel
theorem r192_59 : am_at 192 59 = some (.getfield 15, 3, [3, 1, 3, 194]) := by decide +kernel
theorem r192_62 : am_at 192 62 = some (.iload_n 2, 1, [2]) := by decide +kernel
theorem r192_63 : am_at 192 63 = some (.iaload, 1, []) := by decide +kernel
theorem r192_64 : am_at 192 64 = some (.iload_n 1, 1, [1]) := by decide +kernel
theorem r192_65 : am_at 192 65 = some (.invokevirtual 77, 3, [193, 3, 880, 0]) := by decide +kernel
theorem r192_68 : am_at 192 68 = some (.iinc 2 (1), 3, [2]) := by decide +kernel
theorem r192_71 : am_at 192 71 = some (.goto (-36), 3, [35]) := by decide +kernel
theorem r192_74 : am_at 192 74 = some (.aload_n 0, 1, [0]) := by decide +kernel
theorem r192_75 : am_at 192 75 = some (.aload_n 0, 1, [0]) := by decide +kernel
theorem r192_76 : am_at 192 76 = some (.getfield 11, 3, [3, 0, 3, 193]) := by decide +kernel
theorem r192_79 : am_at 192 79 = some (.iconst (0), 1, []) := by decide +kernel
theorem r192_80 : am_at 192 80 = some (.invokestatic 58, 3, [180, 2, 870, 0]) := by decide +kernel
theorem r192_83 : am_at 192 83 = some (.aload_n 0, 1, [0]) := by decide +kernel
theorem r192_84 : am_at 192 84 = some (.getfield 11, 3, [3, 0, 3, 193]) := by decide +kernel
theorem r192_87 : am_at 192 87 = some (.iconst (1), 1, []) := by decide +kernel
theorem r192_88 : am_at 192 88 = some (.invokestatic 58, 3, [180, 2, 870, 0]) := by decide +kernel
theorem r192_91 : am_at 192 91 = some (.invokevirtual 81, 3, [194, 3, 886, 0]) := by decide +kernel
theorem r192_94 : am_at 192 94 = some (.lreturn, 1, []) := by decide +kernel
theorem rt192 : am_rtt 192 = some (some .long) := by decide +kernel
set_option maxRecDepth 100000 in
theorem pg192 : am_pg[192]? = some am_m192 := rfl
theorem m192_L2_w {d : Nat} {N : Nat} {mc ms : Nat} {Q : am_O → am_AH → Prop} (hd : 3 ≤ d) : ∀ (n : Nat) (D : am_D) (v1 : Int32) {q : am_D} (h : m192_L2 N  n D v1 = some q) (k0 : am_X xs L 192 d mc ms 24 [.ref 93, am_dead, am_dead] [] (am_mk q) 0 0 Q), am_X xs L 192 d mc ms 2 [.ref 93, .int v1, am_dead] [] (am_mk D) 0 0 Q := by
  intro n
  induction n with
  | zero =>
    intro D v1 q h k0
    exact (nomatch (show none = some q from h))
  | succ n ih =>
    intro D v1 q h k0
    rw [m192_L2] at h
    refine x_ld (v := .int v1) r192_2 rfl rfl rfl ?_
    refine x_ld (v := .ref 93) r192_3 rfl rfl rfl ?_
    refine y_gf (cd := 99) (v := .ref 97) r192_4 rfl rfl rfl ?_
    refine y_alen (tag := 1) (n := 64) (v := 64) r192_7 rfl rfl rfl ?_
    rcases am_ifE h with ⟨c1, h⟩ | ⟨c1, h⟩
    · refine x_icgeT r192_8 c1 ?_
      refine x_forget (lc0 := [.ref 93, am_dead, am_dead]) ⟨Or.inl rfl, Or.inr ⟨rfl, rfl⟩, Or.inl rfl, trivial⟩ ?_
      cases h
      exact k0
    · refine x_icgeF r192_8 c1 rfl ?_
      refine x_ld (v := .ref 93) r192_11 rfl rfl rfl ?_
      refine y_gf (cd := 99) (v := .ref 97) r192_12 rfl rfl rfl ?_
      refine x_ld (v := .int v1) r192_15 rfl rfl rfl ?_
      refine x_ar r192_16 rfl trivial rfl ?_
      obtain ⟨g4, h⟩ := am_gdE h
      obtain ⟨D2, e3, h⟩ := am_ltE h
      refine y_las (n := 64) r192_17 rfl (by decide) g4 rfl e3 rfl ?_
      obtain ⟨x5, e6, h⟩ := am_ltE h
      refine x_sto (lc' := [.ref 93, .int x5, am_dead]) r192_18 rfl rfl (by subst e6; rfl) rfl ?_
      refine x_goto r192_21 ?_
      exact x_forget (lc0 := [.ref 93, .int x5, am_dead]) ⟨Or.inl rfl, Or.inl rfl, Or.inl rfl, trivial⟩ (ih D2 x5 h k0)
theorem m192_L35_w {d : Nat} {N : Nat} {mc ms : Nat} {Q : am_O → am_AH → Prop} (hd : 3 ≤ d) : ∀ (n : Nat) (D : am_D) (v1 : Int32) (v2 : Int32) {q : am_D} (h : m192_L35 N  n D v1 v2 = some q) (k0 : am_X xs L 192 d mc ms 74 [.ref 93, am_dead, am_dead] [] (am_mk q) 0 0 Q), am_X xs L 192 d mc ms 35 [.ref 93, .int v1, .int v2] [] (am_mk D) 0 0 Q := by
  intro n
  induction n with
  | zero =>
    intro D v1 v2 q h k0
    exact (nomatch (show none = some q from h))
  | succ n ih =>
    intro D v1 v2 q h k0
    rw [m192_L35] at h
    refine x_ld (v := .int v2) r192_35 rfl rfl rfl ?_
    refine x_ld (v := .ref 93) r192_36 rfl rfl rfl ?_
    refine y_gf (cd := 97) (v := .ref 95) r192_37 rfl rfl rfl ?_
    refine y_alen (tag := 0) (n := 28) (v := 28) r192_40 rfl rfl rfl ?_
    rcases am_ifE h with ⟨c11, h⟩ | ⟨c11, h⟩
    · refine x_icgeT r192_41 c11 ?_
      refine x_forget (lc0 := [.ref 93, am_dead, am_dead]) ⟨Or.inl rfl, Or.inr ⟨rfl, rfl⟩, Or.inr ⟨rfl, rfl⟩, trivial⟩ ?_
      cases h
      exact k0
    · refine x_icgeF r192_41 c11 rfl ?_
      refine x_ld (v := .ref 93) r192_44 rfl rfl rfl ?_
      refine y_gf (cd := 97) (v := .ref 95) r192_45 rfl rfl rfl ?_
      refine x_ld (v := .int v2) r192_48 rfl rfl rfl ?_
      obtain ⟨g12, h⟩ := am_gdE h
      refine y_ial (n := 28) r192_49 rfl (by decide) g12 rfl rfl ?_
      refine x_ic (v := -1) r192_50 rfl rfl ?_
      obtain ⟨q13, h15, h⟩ := Option.bind_eq_some_iff.mp h
      have kj14 : am_X xs L 192 d mc ms 68 [.ref 93, .int q13.1, .int v2] [] (am_mk q13.2) 0 0 Q := by
        obtain ⟨x22, e23, h⟩ := am_ltE h
        refine x_sto (lc' := [.ref 93, .int q13.1, .int x22]) r192_68 rfl rfl (by subst e23; rfl) rfl ?_
        refine x_goto r192_71 ?_
        exact x_forget (lc0 := [.ref 93, .int q13.1, .int x22]) ⟨Or.inl rfl, Or.inl rfl, Or.inl rfl, trivial⟩ (ih q13.2 q13.1 x22 h k0)
      rcases am_ifE h15 with ⟨c16, h15⟩ | ⟨c16, h15⟩
      · refine x_iceqT r192_51 c16 ?_
        cases h15
        exact kj14
      · refine x_iceqF r192_51 c16 rfl ?_
        obtain ⟨x17, e18, h15⟩ := am_ltE h15
        refine x_sto (lc' := [.ref 93, .int x17, .int v2]) r192_54 rfl rfl (by subst e18; rfl) rfl ?_
        refine x_ld (v := .ref 93) r192_57 rfl rfl rfl ?_
        refine x_ld (v := .ref 93) r192_58 rfl rfl rfl ?_
        refine y_gf (cd := 97) (v := .ref 95) r192_59 rfl rfl rfl ?_
        refine x_ld (v := .int v2) r192_62 rfl rfl rfl ?_
        obtain ⟨g19, h15⟩ := am_gdE h15
        refine y_ial (n := 28) r192_63 rfl (by decide) g19 rfl rfl ?_
        refine x_ld (v := .int x17) r192_64 rfl rfl rfl ?_
        obtain ⟨q20, h21, h15⟩ := Option.bind_eq_some_iff.mp h15
        refine x_call0 (as := [.ref 93, .int (D.1 95 (v2).toNatClampNeg), .int x17]) (rest := []) r192_65 rfl rfl rfl (by decide) (Nat.le_of_ble_eq_true rfl) (m193_ok h21) (Nat.le_trans (by decide) hd) (Nat.zero_le _) (Nat.zero_le _) rfl ?_
        cases h15
        exact kj14
theorem m192_w {d mc ms : Nat} {N : Nat} {D : am_D} {Q : am_O → am_AH → Prop} (hd : 3 ≤ d) {r : Int64 × am_D} (h : m192 N D = some r) (hQ : Q (.inl (some (.long r.1))) (am_mk r.2)) : am_X xs L 192 d mc ms 0 [.ref 93, am_dead, am_dead] [] (am_mk D) 0 0 Q := by
  unfold m192 at h
  refine x_ic (v := 0) r192_0 rfl rfl ?_
  refine x_sto (lc' := [.ref 93, .int (0 : Int32), am_dead]) r192_1 rfl rfl rfl rfl ?_
  obtain ⟨q7, h8, h⟩ := Option.bind_eq_some_iff.mp h
  refine x_forget (lc0 := [.ref 93, .int (0 : Int32), am_dead]) ⟨Or.inl rfl, Or.inl rfl, Or.inl rfl, trivial⟩ (m192_L2_w hd N D (0 : Int32) h8 ?_)
  refine x_ld (v := .ref 93) r192_24 rfl rfl rfl ?_
  refine x_ic (v := 0) r192_25 rfl rfl ?_
  refine x_ic (v := 0) r192_26 rfl rfl ?_
  refine x_ar r192_27 rfl trivial rfl ?_
  obtain ⟨q9, h10, h⟩ := am_ltE h
  replace h10 := h10.symm
  refine x_call0 (as := [.ref 93, .int (0 : Int32), .int (0 : Int32), .long (Int64.ofNat 1)]) (rest := []) r192_28 rfl rfl rfl (by decide) (Nat.le_of_ble_eq_true rfl) (m195_ok h10) (Nat.le_trans (by decide) hd) (Nat.zero_le _) (Nat.zero_le _) rfl ?_
  refine x_ic (v := 0) r192_31 rfl rfl ?_
  refine x_sto (lc' := [.ref 93, .int (0 : Int32), am_dead]) r192_32 rfl rfl rfl rfl ?_
  refine x_ic (v := 0) r192_33 rfl rfl ?_
  refine x_sto (lc' := [.ref 93, .int (0 : Int32), .int (0 : Int32)]) r192_34 rfl rfl rfl rfl ?_
  obtain ⟨q24, h25, h⟩ := Option.bind_eq_some_iff.mp h
  refine x_forget (lc0 := [.ref 93, .int (0 : Int32), .int (0 : Int32)]) ⟨Or.inl rfl, Or.inl rfl, Or.inl rfl, trivial⟩ (m192_L35_w hd N q9 (0 : Int32) (0 : Int32) h25 ?_)
  refine x_ld (v := .ref 93) r192_74 rfl rfl rfl ?_
  refine x_ld (v := .ref 93) r192_75 rfl rfl rfl ?_
  refine y_gf (cd := 96) (v := .ref 94) r192_76 rfl rfl rfl ?_
  refine x_ic (v := 0) r192_79 rfl rfl ?_
  refine x_call1 (as := [.ref 94, .int (0 : Int32)]) (rest := [.ref 93]) r192_80 rfl rfl rfl (by decide) (Nat.le_of_ble_eq_true rfl) (am_rows_at (n := 3) rfl (by decide)) (Nat.le_trans (by decide) hd) (Nat.zero_le _) (Nat.zero_le _) rfl ?_
  refine x_ld (v := .ref 93) r192_83 rfl rfl rfl ?_
  refine y_gf (cd := 96) (v := .ref 94) r192_84 rfl rfl rfl ?_
  refine x_ic (v := 1) r192_87 rfl rfl ?_
  refine x_call1 (as := [.ref 94, .int (1 : Int32)]) (rest := [.int (am_rat (q24.1 94) 3 (0 : Int32)), .ref 93]) r192_88 rfl rfl rfl (by decide) (Nat.le_of_ble_eq_true rfl) (am_rows_at (n := 3) rfl (by decide)) (Nat.le_trans (by decide) hd) (Nat.zero_le _) (Nat.zero_le _) rfl ?_
  obtain ⟨q26, h27, h⟩ := Option.bind_eq_some_iff.mp h
  refine x_call1 (as := [.ref 93, .int (am_rat (q24.1 94) 3 (0 : Int32)), .int (am_rat (q24.1 94) 3 (1 : Int32))]) (rest := []) r192_91 rfl rfl rfl (by decide) (Nat.le_of_ble_eq_true rfl) (m194_ok h27) (Nat.le_trans (by decide) hd) (Nat.zero_le _) (Nat.zero_le _) rfl ?_
  cases h
  exact x_ret (ret := some .long) (C := True) (v := some (.long _)) r192_94 rt192 rfl rfl rfl rfl rfl rfl rfl rfl trivial hQ
theorem m192_ok {N : Nat} {D : am_D} {r : Int64 × am_D} (h : m192 N D = some r) : am_Y xs L 192 3 0 0 [.ref 93] D (.inl (some (.long r.1))) r.2 := am_Yof (mi := am_m192) (lc := [.ref 93, am_dead, am_dead]) pg192 (Nat.le_of_ble_eq_true rfl) (am_rc1 (ci := 3) rfl rfl rfl rfl rfl) rfl (fun Q hQ => m192_w (Nat.le_refl _) h hQ)
theorem r196_0 : am_at 196 0 = some (.aload_n 0, 1, [0]) := by decide +kernel
theorem r196_1 : am_at 196 1 = some (.getfield 18, 3, [3, 2, 3, 195]) := by decide +kernel
theorem r196_4 : am_at 196 4 = some (.iconst (0), 1, []) := by decide +kernel
theorem r196_5 : am_at 196 5 = some (.invokestatic 58, 3, [180, 2, 870, 0]) := by decide +kernel
theorem r196_8 : am_at 196 8 = some (.ifCond .le (5), 3, [13]) := by decide +kernel
theorem r196_11 : am_at 196 11 = some (.lconst 0, 1, []) := by decide +kernel
theorem r196_12 : am_at 196 12 = some (.lreturn, 1, []) := by decide +kernel
theorem r196_13 : am_at 196 13 = some (.aload_n 0, 1, [0]) := by decide +kernel
theorem r196_14 : am_at 196 14 = some (.getfield 11, 3, [3, 0, 3, 193]) := by decide +kernel
theorem r196_17 : am_at 196 17 = some (.iconst (0), 1, []) := by decide +kernel
theorem r196_18 : am_at 196 18 = some (.invokestatic 58, 3, [180, 2, 870, 0]) := by decide +kernel
theorem r196_21 : am_at 196 21 = some (.aload_n 0, 1, [0]) := by decide +kernel
theorem r196_22 : am_at 196 22 = some (.getfield 18, 3, [3, 2, 3, 195]) := by decide +kernel
theorem r196_25 : am_at 196 25 = some (.iconst (1), 1, []) := by decide +kernel
theorem r196_26 : am_at 196 26 = some (.invokestatic 58, 3, [180, 2, 870, 0]) := by decide +kernel
theorem r196_29 : am_at 196 29 = some (.isub, 1, []) := by decide +kernel
theorem r196_30 : am_at 196 30 = some (.istore_n 1, 1, [1]) := by decide +kernel
theorem r196_31 : am_at 196 31 = some (.aload_n 0, 1, [0]) := by decide +kernel
theorem r196_32 : am_at 196 32 = some (.getfield 11, 3, [3, 0, 3, 193]) := by decide +kernel
theorem r196_35 : am_at 196 35 = some (.iconst (1), 1, []) := by decide +kernel
theorem r196_36 : am_at 196 36 = some (.invokestatic 58, 3, [180, 2, 870, 0]) := by decide +kernel
theorem r196_39 : am_at 196 39 = some (.aload_n 0, 1, [0]) := by decide +kernel
theorem r196_40 : am_at 196 40 = some (.getfield 18, 3, [3, 2, 3, 195]) := by decide +kernel
theorem r196_43 : am_at 196 43 = some (.iconst (2), 1, []) := by decide +kernel
theorem r196_44 : am_at 196 44 = some (.invokestatic 58, 3, [180, 2, 870, 0]) := by decide +kernel
theorem r196_47 : am_at 196 47 = some (.isub, 1, []) := by decide +kernel
theorem r196_48 : am_at 196 48 = some (.istore_n 2, 1, [2]) := by decide +kernel
theorem r196_49 : am_at 196 49 = some (.aload_n 0, 1, [0]) := by decide +kernel
theorem r196_50 : am_at 196 50 = some (.getfield 18, 3, [3, 2, 3, 195]) := by decide +kernel
theorem r196_53 : am_at 196 53 = some (.iconst (3), 1, []) := by decide +kernel
theorem r196_54 : am_at 196 54 = some (.invokestatic 58, 3, [180, 2, 870, 0]) := by decide +kernel
theorem r196_57 : am_at 196 57 = some (.istore_n 3, 1, [3]) := by decide +kernel
theorem r196_58 : am_at 196 58 = some (.lconst 0, 1, []) := by decide +kernel
theorem r196_59 : am_at 196 59 = some (.lstore 4, 2, [4]) := by decide +kernel
theorem r196_61 : am_at 196 61 = some (.iconst (0), 1, []) := by decide +kernel
theorem r196_62 : am_at 196 62 = some (.istore 6, 2, [6]) := by decide +kernel
theorem r196_64 : am_at 196 64 = some (.iload 6, 2, [6]) := by decide +kernel
theorem r196_66 : am_at 196 66 = some (.iload_n 3, 1, [3]) := by decide +kernel
theorem r196_67 : am_at 196 67 = some (.if_icmp .gt (42), 3, [109]) := by decide +kernel
theorem r196_70 : am_at 196 70 = some (.iload 6, 2, [6]) := by decide +kernel
theorem r196_72 : am_at 196 72 = some (.iload_n 1, 1, [1]) := by decide +kernel
theorem r196_73 : am_at 196 73 = some (.if_icmp .gt (36), 3, [109]) := by decide +kernel
theorem r196_76 : am_at 196 76 = some (.lload 4, 2, [4]) := by decide +kernel
theorem r196_78 : am_at 196 78 = some (.aload_n 0, 1, [0]) := by decide +kernel
theorem r196_79 : am_at 196 79 = some (.iload_n 3, 1, [3]) := by decide +kernel
theorem r196_80 : am_at 196 80 = some (.iload 6, 2, [6]) := by decide +kernel
theorem r196_82 : am_at 196 82 = some (.invokevirtual 94, 3, [198, 3, 894, 0]) := by decide +kernel
theorem r196_85 : am_at 196 85 = some (.aload_n 0, 1, [0]) := by decide +kernel
theorem r196_86 : am_at 196 86 = some (.iload_n 1, 1, [1]) := by decide +kernel
theorem r196_87 : am_at 196 87 = some (.iload 6, 2, [6]) := by decide +kernel
theorem r196_89 : am_at 196 89 = some (.isub, 1, []) := by decide +kernel
theorem r196_90 : am_at 196 90 = some (.iload_n 2, 1, [2]) := by decide +kernel
theorem r196_91 : am_at 196 91 = some (.iload_n 3, 1, [3]) := by decide +kernel
theorem r196_92 : am_at 196 92 = some (.isub, 1, []) := by decide +kernel
theorem r196_93 : am_at 196 93 = some (.iload 6, 2, [6]) := by decide +kernel
theorem r196_95 : am_at 196 95 = some (.iadd, 1, []) := by decide +kernel
theorem r196_96 : am_at 196 96 = some (.invokevirtual 97, 3, [197, 3, 898, 0]) := by decide +kernel
theorem r196_99 : am_at 196 99 = some (.lmul, 1, []) := by decide +kernel
theorem r196_100 : am_at 196 100 = some (.ladd, 1, []) := by decide +kernel
theorem r196_101 : am_at 196 101 = some (.lstore 4, 2, [4]) := by decide +kernel
theorem r196_103 : am_at 196 103 = some (.iinc 6 (1), 3, [6]) := by decide +kernel
theorem r196_106 : am_at 196 106 = some (.goto (-42), 3, [64]) := by decide +kernel
theorem r196_109 : am_at 196 109 = some (.lload 4, 2, [4]) := by decide +kernel
theorem r196_111 : am_at 196 111 = some (.lreturn, 1, []) := by decide +kernel
theorem rt196 : am_rtt 196 = some (some .long) := by decide +kernel
set_option maxRecDepth 100000 in
theorem pg196 : am_pg[196]? = some am_m196 := rfl
theorem m196_L64_w {d : Nat} {N : Nat} {D : am_D} {v1 : Int32} {v2 : Int32} {v3 : Int32} {mc ms : Nat} {Q : am_O → am_AH → Prop} (hd : 3 ≤ d) : ∀ (n : Nat) (v4 : Int64) (v6 : Int32) {q : Int64} (h : m196_L64 N D v1 v2 v3  n v4 v6 = some q) (k0 : am_X xs L 196 d mc ms 109 [.ref 93, am_dead, am_dead, am_dead, .long q, am_dead, am_dead] [] (am_mk D) 0 0 Q), am_X xs L 196 d mc ms 64 [.ref 93, .int v1, .int v2, .int v3, .long v4, am_dead, .int v6] [] (am_mk D) 0 0 Q := by
  intro n
  induction n with
  | zero =>
    intro v4 v6 q h k0
    exact (nomatch (show none = some q from h))
  | succ n ih =>
    intro v4 v6 q h k0
    rw [m196_L64] at h
    refine x_ld (v := .int v6) r196_64 rfl rfl rfl ?_
    refine x_ld (v := .int v3) r196_66 rfl rfl rfl ?_
    rcases am_ifE h with ⟨c10, h⟩ | ⟨c10, h⟩
    · refine x_icgtT r196_67 c10 ?_
      refine x_forget (lc0 := [.ref 93, am_dead, am_dead, am_dead, .long v4, am_dead, am_dead]) ⟨Or.inl rfl, Or.inr ⟨rfl, rfl⟩, Or.inr ⟨rfl, rfl⟩, Or.inr ⟨rfl, rfl⟩, Or.inl rfl, Or.inl rfl, Or.inr ⟨rfl, rfl⟩, trivial⟩ ?_
      cases h
      exact k0
    · refine x_icgtF r196_67 c10 rfl ?_
      refine x_ld (v := .int v6) r196_70 rfl rfl rfl ?_
      refine x_ld (v := .int v1) r196_72 rfl rfl rfl ?_
      rcases am_ifE h with ⟨c11, h⟩ | ⟨c11, h⟩
      · refine x_icgtT r196_73 c11 ?_
        refine x_forget (lc0 := [.ref 93, am_dead, am_dead, am_dead, .long v4, am_dead, am_dead]) ⟨Or.inl rfl, Or.inr ⟨rfl, rfl⟩, Or.inr ⟨rfl, rfl⟩, Or.inr ⟨rfl, rfl⟩, Or.inl rfl, Or.inl rfl, Or.inr ⟨rfl, rfl⟩, trivial⟩ ?_
        cases h
        exact k0
      · refine x_icgtF r196_73 c11 rfl ?_
        refine x_ld (v := .long v4) r196_76 rfl rfl rfl ?_
        refine x_ld (v := .ref 93) r196_78 rfl rfl rfl ?_
        refine x_ld (v := .int v3) r196_79 rfl rfl rfl ?_
        refine x_ld (v := .int v6) r196_80 rfl rfl rfl ?_
        obtain ⟨q12, h13, h⟩ := Option.bind_eq_some_iff.mp h
        refine x_call1 (as := [.ref 93, .int v3, .int v6]) (rest := [.long v4]) r196_82 rfl rfl rfl (by decide) (Nat.le_of_ble_eq_true rfl) (m198_ok h13) (Nat.le_trans (by decide) hd) (Nat.zero_le _) (Nat.zero_le _) rfl ?_
        refine x_ld (v := .ref 93) r196_85 rfl rfl rfl ?_
        refine x_ld (v := .int v1) r196_86 rfl rfl rfl ?_
        refine x_ld (v := .int v6) r196_87 rfl rfl rfl ?_
        refine x_ar r196_89 rfl trivial rfl ?_
        refine x_ld (v := .int v2) r196_90 rfl rfl rfl ?_
        refine x_ld (v := .int v3) r196_91 rfl rfl rfl ?_
        refine x_ar r196_92 rfl trivial rfl ?_
        refine x_ld (v := .int v6) r196_93 rfl rfl rfl ?_
        refine x_ar r196_95 rfl trivial rfl ?_
        obtain ⟨q14, h15, h⟩ := Option.bind_eq_some_iff.mp h
        refine x_call1 (as := [.ref 93, .int (v1 - v6), .int ((v2 - v3) + v6)]) (rest := [.long q12, .long v4]) r196_96 rfl rfl rfl (by decide) (Nat.le_of_ble_eq_true rfl) (m197_ok h15) (Nat.le_trans (by decide) hd) (Nat.zero_le _) (Nat.zero_le _) rfl ?_
        refine x_ar r196_99 rfl trivial rfl ?_
        refine x_ar r196_100 rfl trivial rfl ?_
        obtain ⟨x16, e17, h⟩ := am_ltE h
        refine am_topJ e17 ?_
        refine x_sto (lc' := [.ref 93, .int v1, .int v2, .int v3, .long x16, am_dead, .int v6]) r196_101 rfl rfl rfl rfl ?_
        obtain ⟨x18, e19, h⟩ := am_ltE h
        refine x_sto (lc' := [.ref 93, .int v1, .int v2, .int v3, .long x16, am_dead, .int x18]) r196_103 rfl rfl (by subst e19; rfl) rfl ?_
        refine x_goto r196_106 ?_
        exact x_forget (lc0 := [.ref 93, .int v1, .int v2, .int v3, .long x16, am_dead, .int x18]) ⟨Or.inl rfl, Or.inl rfl, Or.inl rfl, Or.inl rfl, Or.inl rfl, Or.inl rfl, Or.inl rfl, trivial⟩ (ih x16 x18 h k0)
theorem m196_w {d mc ms : Nat} {N : Nat} {D : am_D} {Q : am_O → am_AH → Prop} (hd : 3 ≤ d) {r : Int64} (h : m196 N D = some r) (hQ : Q (.inl (some (.long r))) (am_mk D)) : am_X xs L 196 d mc ms 0 [.ref 93, am_dead, am_dead, am_dead, am_dead, am_dead, am_dead] [] (am_mk D) 0 0 Q := by
  unfold m196 at h
  refine x_ld (v := .ref 93) r196_0 rfl rfl rfl ?_
  refine y_gf (cd := 98) (v := .ref 96) r196_1 rfl rfl rfl ?_
  refine x_ic (v := 0) r196_4 rfl rfl ?_
  refine x_call1 (as := [.ref 96, .int (0 : Int32)]) (rest := []) r196_5 rfl rfl rfl (by decide) (Nat.le_of_ble_eq_true rfl) (am_rows_at (n := 8) rfl (by decide)) (Nat.le_trans (by decide) hd) (Nat.zero_le _) (Nat.zero_le _) rfl ?_
  rcases am_ifE h with ⟨c1, h⟩ | ⟨c1, h⟩
  · refine x_ifleT r196_8 c1 ?_
    refine x_ld (v := .ref 93) r196_13 rfl rfl rfl ?_
    refine y_gf (cd := 96) (v := .ref 94) r196_14 rfl rfl rfl ?_
    refine x_ic (v := 0) r196_17 rfl rfl ?_
    refine x_call1 (as := [.ref 94, .int (0 : Int32)]) (rest := []) r196_18 rfl rfl rfl (by decide) (Nat.le_of_ble_eq_true rfl) (am_rows_at (n := 3) rfl (by decide)) (Nat.le_trans (by decide) hd) (Nat.zero_le _) (Nat.zero_le _) rfl ?_
    refine x_ld (v := .ref 93) r196_21 rfl rfl rfl ?_
    refine y_gf (cd := 98) (v := .ref 96) r196_22 rfl rfl rfl ?_
    refine x_ic (v := 1) r196_25 rfl rfl ?_
    refine x_call1 (as := [.ref 96, .int (1 : Int32)]) (rest := [.int (am_rat (D.1 94) 3 (0 : Int32))]) r196_26 rfl rfl rfl (by decide) (Nat.le_of_ble_eq_true rfl) (am_rows_at (n := 8) rfl (by decide)) (Nat.le_trans (by decide) hd) (Nat.zero_le _) (Nat.zero_le _) rfl ?_
    refine x_ar r196_29 rfl trivial rfl ?_
    obtain ⟨x2, e3, h⟩ := am_ltE h
    refine am_topI e3 ?_
    refine x_sto (lc' := [.ref 93, .int x2, am_dead, am_dead, am_dead, am_dead, am_dead]) r196_30 rfl rfl rfl rfl ?_
    refine x_ld (v := .ref 93) r196_31 rfl rfl rfl ?_
    refine y_gf (cd := 96) (v := .ref 94) r196_32 rfl rfl rfl ?_
    refine x_ic (v := 1) r196_35 rfl rfl ?_
    refine x_call1 (as := [.ref 94, .int (1 : Int32)]) (rest := []) r196_36 rfl rfl rfl (by decide) (Nat.le_of_ble_eq_true rfl) (am_rows_at (n := 3) rfl (by decide)) (Nat.le_trans (by decide) hd) (Nat.zero_le _) (Nat.zero_le _) rfl ?_
    refine x_ld (v := .ref 93) r196_39 rfl rfl rfl ?_
    refine y_gf (cd := 98) (v := .ref 96) r196_40 rfl rfl rfl ?_
    refine x_ic (v := 2) r196_43 rfl rfl ?_
    refine x_call1 (as := [.ref 96, .int (2 : Int32)]) (rest := [.int (am_rat (D.1 94) 3 (1 : Int32))]) r196_44 rfl rfl rfl (by decide) (Nat.le_of_ble_eq_true rfl) (am_rows_at (n := 8) rfl (by decide)) (Nat.le_trans (by decide) hd) (Nat.zero_le _) (Nat.zero_le _) rfl ?_
    refine x_ar r196_47 rfl trivial rfl ?_
    obtain ⟨x4, e5, h⟩ := am_ltE h
    refine am_topI e5 ?_
    refine x_sto (lc' := [.ref 93, .int x2, .int x4, am_dead, am_dead, am_dead, am_dead]) r196_48 rfl rfl rfl rfl ?_
    refine x_ld (v := .ref 93) r196_49 rfl rfl rfl ?_
    refine y_gf (cd := 98) (v := .ref 96) r196_50 rfl rfl rfl ?_
    refine x_ic (v := 3) r196_53 rfl rfl ?_
    refine x_call1 (as := [.ref 96, .int (3 : Int32)]) (rest := []) r196_54 rfl rfl rfl (by decide) (Nat.le_of_ble_eq_true rfl) (am_rows_at (n := 8) rfl (by decide)) (Nat.le_trans (by decide) hd) (Nat.zero_le _) (Nat.zero_le _) rfl ?_
    obtain ⟨x6, e7, h⟩ := am_ltE h
    refine am_topI e7 ?_
    refine x_sto (lc' := [.ref 93, .int x2, .int x4, .int x6, am_dead, am_dead, am_dead]) r196_57 rfl rfl rfl rfl ?_
    refine x_ar r196_58 rfl trivial rfl ?_
    obtain ⟨x8, e9, h⟩ := am_ltE h
    refine am_topJ e9 ?_
    refine x_sto (lc' := [.ref 93, .int x2, .int x4, .int x6, .long x8, am_dead, am_dead]) r196_59 rfl rfl rfl rfl ?_
    refine x_ic (v := 0) r196_61 rfl rfl ?_
    refine x_sto (lc' := [.ref 93, .int x2, .int x4, .int x6, .long x8, am_dead, .int (0 : Int32)]) r196_62 rfl rfl rfl rfl ?_
    obtain ⟨q20, h21, h⟩ := Option.bind_eq_some_iff.mp h
    refine x_forget (lc0 := [.ref 93, .int x2, .int x4, .int x6, .long x8, am_dead, .int (0 : Int32)]) ⟨Or.inl rfl, Or.inl rfl, Or.inl rfl, Or.inl rfl, Or.inl rfl, Or.inl rfl, Or.inl rfl, trivial⟩ (m196_L64_w hd N x8 (0 : Int32) h21 ?_)
    refine x_ld (v := .long q20) r196_109 rfl rfl rfl ?_
    cases h
    exact x_ret (ret := some .long) (C := True) (v := some (.long _)) r196_111 rt196 rfl rfl rfl rfl rfl rfl rfl rfl trivial hQ
  · refine x_ifleF r196_8 c1 rfl ?_
    refine x_ar r196_11 rfl trivial rfl ?_
    cases h
    exact x_ret (ret := some .long) (C := True) (v := some (.long _)) r196_12 rt196 rfl rfl rfl rfl rfl rfl rfl rfl trivial hQ
theorem m196_ok {N : Nat} {D : am_D} {r : Int64} (h : m196 N D = some r) : am_Y xs L 196 3 0 0 [.ref 93] D (.inl (some (.long r))) D := am_Yof (mi := am_m196) (lc := [.ref 93, am_dead, am_dead, am_dead, am_dead, am_dead, am_dead]) pg196 (Nat.le_of_ble_eq_true rfl) (am_rc1 (ci := 3) rfl rfl rfl rfl rfl) rfl (fun Q hQ => m196_w (Nat.le_refl _) h hQ)
theorem r199_0 : am_at 199 0 = some (.iload_n 1, 1, [1]) := by decide +kernel
theorem r199_1 : am_at 199 1 = some (.aload_n 0, 1, [0]) := by decide +kernel
theorem r199_2 : am_at 199 2 = some (.getfield 28, 3, [3, 5, 0, 198]) := by decide +kernel
theorem r199_5 : am_at 199 5 = some (.isub, 1, []) := by decide +kernel
theorem r199_6 : am_at 199 6 = some (.iconst (4), 1, []) := by decide +kernel
theorem r199_7 : am_at 199 7 = some (.iadd, 1, []) := by decide +kernel
theorem r199_8 : am_at 199 8 = some (.iconst (1), 1, []) := by decide +kernel
theorem r199_9 : am_at 199 9 = some (.isub, 1, []) := by decide +kernel
theorem r199_10 : am_at 199 10 = some (.iconst (4), 1, []) := by decide +kernel
theorem r199_11 : am_at 199 11 = some (.irem, 1, []) := by decide +kernel
theorem r199_12 : am_at 199 12 = some (.istore_n 3, 1, [3]) := by decide +kernel
theorem r199_13 : am_at 199 13 = some (.iload_n 2, 1, [2]) := by decide +kernel
theorem r199_14 : am_at 199 14 = some (.ifCond .lt (27), 3, [41]) := by decide +kernel
theorem r199_17 : am_at 199 17 = some (.iload_n 3, 1, [3]) := by decide +kernel
theorem r199_18 : am_at 199 18 = some (.iconst (3), 1, []) := by decide +kernel
theorem r199_19 : am_at 199 19 = some (.if_icmp .ge (22), 3, [41]) := by decide +kernel
theorem r199_22 : am_at 199 22 = some (.iload_n 2, 1, [2]) := by decide +kernel
theorem r199_23 : am_at 199 23 = some (.iload_n 3, 1, [3]) := by decide +kernel
theorem r199_24 : am_at 199 24 = some (.ishr, 1, []) := by decide +kernel
theorem r199_25 : am_at 199 25 = some (.iconst (1), 1, []) := by decide +kernel
theorem r199_26 : am_at 199 26 = some (.iand, 1, []) := by decide +kernel
theorem r199_27 : am_at 199 27 = some (.ifCond .eq (14), 3, [41]) := by decide +kernel
theorem r199_30 : am_at 199 30 = some (.aload_n 0, 1, [0]) := by decide +kernel
theorem r199_31 : am_at 199 31 = some (.getfield 11, 3, [3, 0, 3, 193]) := by decide +kernel
theorem r199_34 : am_at 199 34 = some (.iload_n 3, 1, [3]) := by decide +kernel
theorem r199_35 : am_at 199 35 = some (.invokestatic 58, 3, [180, 2, 870, 0]) := by decide +kernel
theorem r199_38 : am_at 199 38 = some (.ifCond .gt (5), 3, [43]) := by decide +kernel
theorem r199_41 : am_at 199 41 = some (.lconst 0, 1, []) := by decide +kernel
theorem r199_42 : am_at 199 42 = some (.lreturn, 1, []) := by decide +kernel
theorem r199_43 : am_at 199 43 = some (.aload_n 0, 1, [0]) := by decide +kernel
theorem r199_44 : am_at 199 44 = some (.getfield 18, 3, [3, 2, 3, 195]) := by decide +kernel
theorem r199_47 : am_at 199 47 = some (.iload_n 2, 1, [2]) := by decide +kernel
theorem r199_48 : am_at 199 48 = some (.iconst (-1), 1, []) := by decide +kernel
theorem r199_49 : am_at 199 49 = some (.invokestatic 55, 3, [182, 3, 871, 0]) := by decide +kernel
theorem r199_52 : am_at 199 52 = some (.aload_n 0, 1, [0]) := by decide +kernel
theorem r199_53 : am_at 199 53 = some (.getfield 11, 3, [3, 0, 3, 193]) := by decide +kernel
theorem r199_56 : am_at 199 56 = some (.iload_n 3, 1, [3]) := by decide +kernel
theorem r199_57 : am_at 199 57 = some (.iconst (-1), 1, []) := by decide +kernel
theorem r199_58 : am_at 199 58 = some (.invokestatic 55, 3, [182, 3, 871, 0]) := by decide +kernel
theorem r199_61 : am_at 199 61 = some (.aload_n 0, 1, [0]) := by decide +kernel
theorem r199_62 : am_at 199 62 = some (.invokevirtual 100, 3, [196, 1, 915, 0]) := by decide +kernel
theorem r199_65 : am_at 199 65 = some (.lstore 4, 2, [4]) := by decide +kernel
theorem r199_67 : am_at 199 67 = some (.aload_n 0, 1, [0]) := by decide +kernel
theorem r199_68 : am_at 199 68 = some (.getfield 18, 3, [3, 2, 3, 195]) := by decide +kernel
theorem r199_71 : am_at 199 71 = some (.iload_n 2, 1, [2]) := by decide +kernel
theorem r199_72 : am_at 199 72 = some (.iconst (1), 1, []) := by decide +kernel
theorem r199_73 : am_at 199 73 = some (.invokestatic 55, 3, [182, 3, 871, 0]) := by decide +kernel
theorem r199_76 : am_at 199 76 = some (.aload_n 0, 1, [0]) := by decide +kernel
theorem r199_77 : am_at 199 77 = some (.getfield 11, 3, [3, 0, 3, 193]) := by decide +kernel
theorem r199_80 : am_at 199 80 = some (.iload_n 3, 1, [3]) := by decide +kernel
theorem r199_81 : am_at 199 81 = some (.iconst (1), 1, []) := by decide +kernel
theorem r199_82 : am_at 199 82 = some (.invokestatic 55, 3, [182, 3, 871, 0]) := by decide +kernel
theorem r199_85 : am_at 199 85 = some (.lload 4, 2, [4]) := by decide +kernel
theorem r199_87 : am_at 199 87 = some (.lreturn, 1, []) := by decide +kernel
theorem rt199 : am_rtt 199 = some (some .long) := by decide +kernel
set_option maxRecDepth 100000 in
theorem pg199 : am_pg[199]? = some am_m199 := rfl
theorem m199_w {d mc ms : Nat} {N : Nat} {D : am_D} {v1 : Int32} {v2 : Int32} {Q : am_O → am_AH → Prop} (hd : 4 ≤ d) {r : Int64 × am_D} (h : m199 N D v1 v2 = some r) (hQ : Q (.inl (some (.long r.1))) (am_mk r.2)) : am_X xs L 199 d mc ms 0 [.ref 93, .int v1, .int v2, am_dead, am_dead, am_dead] [] (am_mk D) 0 0 Q := by
  unfold m199 at h
  refine x_ld (v := .int v1) r199_0 rfl rfl rfl ?_
  refine x_ld (v := .ref 93) r199_1 rfl rfl rfl ?_
  refine y_gf (cd := 0) (v := .int (D.1 93 5)) r199_2 rfl rfl rfl ?_
  refine x_ar r199_5 rfl trivial rfl ?_
  refine x_ic (v := 4) r199_6 rfl rfl ?_
  refine x_ar r199_7 rfl trivial rfl ?_
  refine x_ic (v := 1) r199_8 rfl rfl ?_
  refine x_ar r199_9 rfl trivial rfl ?_
  refine x_ic (v := 4) r199_10 rfl rfl ?_
  refine x_ar r199_11 rfl (by decide) rfl ?_
  obtain ⟨x1, e2, h⟩ := am_ltE h
  refine am_topI e2 ?_
  refine x_sto (lc' := [.ref 93, .int v1, .int v2, .int x1, am_dead, am_dead]) r199_12 rfl rfl rfl rfl ?_
  refine x_ld (v := .int v2) r199_13 rfl rfl rfl ?_
  rcases am_ifE h with ⟨c3, h⟩ | ⟨c3, h⟩
  · refine x_ifltT r199_14 c3 ?_
    refine x_ar r199_41 rfl trivial rfl ?_
    cases h
    exact x_ret (ret := some .long) (C := True) (v := some (.long _)) r199_42 rt199 rfl rfl rfl rfl rfl rfl rfl rfl trivial hQ
  · refine x_ifltF r199_14 c3 rfl ?_
    refine x_ld (v := .int x1) r199_17 rfl rfl rfl ?_
    refine x_ic (v := 3) r199_18 rfl rfl ?_
    rcases am_ifE h with ⟨c4, h⟩ | ⟨c4, h⟩
    · refine x_icgeT r199_19 c4 ?_
      refine x_ar r199_41 rfl trivial rfl ?_
      cases h
      exact x_ret (ret := some .long) (C := True) (v := some (.long _)) r199_42 rt199 rfl rfl rfl rfl rfl rfl rfl rfl trivial hQ
    · refine x_icgeF r199_19 c4 rfl ?_
      refine x_ld (v := .int v2) r199_22 rfl rfl rfl ?_
      refine x_ld (v := .int x1) r199_23 rfl rfl rfl ?_
      refine x_ar r199_24 rfl trivial rfl ?_
      refine x_ic (v := 1) r199_25 rfl rfl ?_
      refine x_ar r199_26 rfl trivial rfl ?_
      rcases am_ifE h with ⟨c5, h⟩ | ⟨c5, h⟩
      · refine x_ifeqT r199_27 c5 ?_
        refine x_ar r199_41 rfl trivial rfl ?_
        cases h
        exact x_ret (ret := some .long) (C := True) (v := some (.long _)) r199_42 rt199 rfl rfl rfl rfl rfl rfl rfl rfl trivial hQ
      · refine x_ifeqF r199_27 c5 rfl ?_
        refine x_ld (v := .ref 93) r199_30 rfl rfl rfl ?_
        refine y_gf (cd := 96) (v := .ref 94) r199_31 rfl rfl rfl ?_
        refine x_ld (v := .int x1) r199_34 rfl rfl rfl ?_
        refine x_call1 (as := [.ref 94, .int x1]) (rest := []) r199_35 rfl rfl rfl (by decide) (Nat.le_of_ble_eq_true rfl) (am_rows_at (n := 3) rfl (by decide)) (Nat.le_trans (by decide) hd) (Nat.zero_le _) (Nat.zero_le _) rfl ?_
        rcases am_ifE h with ⟨c6, h⟩ | ⟨c6, h⟩
        · refine x_ifgtT r199_38 c6 ?_
          refine x_ld (v := .ref 93) r199_43 rfl rfl rfl ?_
          refine y_gf (cd := 98) (v := .ref 96) r199_44 rfl rfl rfl ?_
          refine x_ld (v := .int v2) r199_47 rfl rfl rfl ?_
          refine x_ic (v := -1) r199_48 rfl rfl ?_
          obtain ⟨D7, e8, h⟩ := am_ltE h
          refine x_call0 (as := [.ref 96, .int v2, .int (-1 : Int32)]) (rest := []) r199_49 rfl rfl rfl (by decide) (Nat.le_of_ble_eq_true rfl) (am_rows_add (n := 8) rfl (by decide) e8) (Nat.le_trans (by decide) hd) (Nat.zero_le _) (Nat.zero_le _) rfl ?_
          refine x_ld (v := .ref 93) r199_52 rfl rfl rfl ?_
          refine y_gf (cd := 96) (v := .ref 94) r199_53 rfl rfl rfl ?_
          refine x_ld (v := .int x1) r199_56 rfl rfl rfl ?_
          refine x_ic (v := -1) r199_57 rfl rfl ?_
          obtain ⟨D9, e10, h⟩ := am_ltE h
          refine x_call0 (as := [.ref 94, .int x1, .int (-1 : Int32)]) (rest := []) r199_58 rfl rfl rfl (by decide) (Nat.le_of_ble_eq_true rfl) (am_rows_add (n := 3) rfl (by decide) e10) (Nat.le_trans (by decide) hd) (Nat.zero_le _) (Nat.zero_le _) rfl ?_
          refine x_ld (v := .ref 93) r199_61 rfl rfl rfl ?_
          obtain ⟨q11, h12, h⟩ := Option.bind_eq_some_iff.mp h
          refine x_call1 (as := [.ref 93]) (rest := []) r199_62 rfl rfl rfl (by decide) (Nat.le_of_ble_eq_true rfl) (m196_ok h12) (Nat.le_trans (by decide) hd) (Nat.zero_le _) (Nat.zero_le _) rfl ?_
          refine x_sto (lc' := [.ref 93, .int v1, .int v2, .int x1, .long q11, am_dead]) r199_65 rfl rfl rfl rfl ?_
          refine x_ld (v := .ref 93) r199_67 rfl rfl rfl ?_
          refine y_gf (cd := 98) (v := .ref 96) r199_68 rfl rfl rfl ?_
          refine x_ld (v := .int v2) r199_71 rfl rfl rfl ?_
          refine x_ic (v := 1) r199_72 rfl rfl ?_
          obtain ⟨D13, e14, h⟩ := am_ltE h
          refine x_call0 (as := [.ref 96, .int v2, .int (1 : Int32)]) (rest := []) r199_73 rfl rfl rfl (by decide) (Nat.le_of_ble_eq_true rfl) (am_rows_add (n := 8) rfl (by decide) e14) (Nat.le_trans (by decide) hd) (Nat.zero_le _) (Nat.zero_le _) rfl ?_
          refine x_ld (v := .ref 93) r199_76 rfl rfl rfl ?_
          refine y_gf (cd := 96) (v := .ref 94) r199_77 rfl rfl rfl ?_
          refine x_ld (v := .int x1) r199_80 rfl rfl rfl ?_
          refine x_ic (v := 1) r199_81 rfl rfl ?_
          obtain ⟨D15, e16, h⟩ := am_ltE h
          refine x_call0 (as := [.ref 94, .int x1, .int (1 : Int32)]) (rest := []) r199_82 rfl rfl rfl (by decide) (Nat.le_of_ble_eq_true rfl) (am_rows_add (n := 3) rfl (by decide) e16) (Nat.le_trans (by decide) hd) (Nat.zero_le _) (Nat.zero_le _) rfl ?_
          refine x_ld (v := .long q11) r199_85 rfl rfl rfl ?_
          cases h
          exact x_ret (ret := some .long) (C := True) (v := some (.long _)) r199_87 rt199 rfl rfl rfl rfl rfl rfl rfl rfl trivial hQ
        · refine x_ifgtF r199_38 c6 rfl ?_
          refine x_ar r199_41 rfl trivial rfl ?_
          cases h
          exact x_ret (ret := some .long) (C := True) (v := some (.long _)) r199_42 rt199 rfl rfl rfl rfl rfl rfl rfl rfl trivial hQ
theorem m199_ok {N : Nat} {D : am_D} {v1 : Int32} {v2 : Int32} {r : Int64 × am_D} (h : m199 N D v1 v2 = some r) : am_Y xs L 199 4 0 0 [.ref 93, .int v1, .int v2] D (.inl (some (.long r.1))) r.2 := am_Yof (mi := am_m199) (lc := [.ref 93, .int v1, .int v2, am_dead, am_dead, am_dead]) pg199 (Nat.le_of_ble_eq_true rfl) (am_rc1 (ci := 3) rfl rfl rfl rfl rfl) rfl (fun Q hQ => m199_w (Nat.le_refl _) h hQ)
theorem r200_0 : am_at 200 0 = some (.iconst (0), 1, []) := by decide +kernel
theorem r200_1 : am_at 200 1 = some (.istore 4, 2, [4]) := by decide +kernel
theorem r200_3 : am_at 200 3 = some (.iconst (1), 1, []) := by decide +kernel
theorem r200_4 : am_at 200 4 = some (.istore 5, 2, [5]) := by decide +kernel
theorem r200_6 : am_at 200 6 = some (.iload 5, 2, [5]) := by decide +kernel
theorem r200_8 : am_at 200 8 = some (.aload_n 0, 1, [0]) := by decide +kernel
theorem r200_9 : am_at 200 9 = some (.getfield 18, 3, [3, 2, 3, 195]) := by decide +kernel
theorem r200_12 : am_at 200 12 = some (.arraylength, 1, []) := by decide +kernel
theorem r200_13 : am_at 200 13 = some (.if_icmp .ge (43), 3, [56]) := by decide +kernel
theorem r200_16 : am_at 200 16 = some (.aload_n 0, 1, [0]) := by decide +kernel
theorem r200_17 : am_at 200 17 = some (.getfield 18, 3, [3, 2, 3, 195]) := by decide +kernel
theorem r200_20 : am_at 200 20 = some (.iload 5, 2, [5]) := by decide +kernel
theorem r200_22 : am_at 200 22 = some (.iaload, 1, []) := by decide +kernel
theorem r200_23 : am_at 200 23 = some (.ifCond .le (27), 3, [50]) := by decide +kernel
theorem r200_26 : am_at 200 26 = some (.aload_n 0, 1, [0]) := by decide +kernel
theorem r200_27 : am_at 200 27 = some (.iload_n 1, 1, [1]) := by decide +kernel
theorem r200_28 : am_at 200 28 = some (.iload 5, 2, [5]) := by decide +kernel
theorem r200_30 : am_at 200 30 = some (.invokevirtual 104, 3, [199, 3, 911, 0]) := by decide +kernel
theorem r200_33 : am_at 200 33 = some (.lload_n 2, 1, [2]) := by decide +kernel
theorem r200_34 : am_at 200 34 = some (.lcmp, 1, []) := by decide +kernel
theorem r200_35 : am_at 200 35 = some (.ifCond .ne (15), 3, [50]) := by decide +kernel
theorem r200_38 : am_at 200 38 = some (.iload 4, 2, [4]) := by decide +kernel
theorem r200_40 : am_at 200 40 = some (.aload_n 0, 1, [0]) := by decide +kernel
theorem r200_41 : am_at 200 41 = some (.getfield 18, 3, [3, 2, 3, 195]) := by decide +kernel
theorem r200_44 : am_at 200 44 = some (.iload 5, 2, [5]) := by decide +kernel
theorem r200_46 : am_at 200 46 = some (.iaload, 1, []) := by decide +kernel
theorem r200_47 : am_at 200 47 = some (.iadd, 1, []) := by decide +kernel
theorem r200_48 : am_at 200 48 = some (.istore 4, 2, [4]) := by decide +kernel
theorem r200_50 : am_at 200 50 = some (.iinc 5 (1), 3, [5]) := by decide +kernel
theorem r200_53 : am_at 200 53 = some (.goto (-47), 3, [6]) := by decide +kernel
theorem r200_56 : am_at 200 56 = some (.iload 4, 2, [4]) := by decide +kernel
theorem r200_58 : am_at 200 58 = some (.ireturn, 1, []) := by decide +kernel
theorem rt200 : am_rtt 200 = some (some .int) := by decide +kernel
set_option maxRecDepth 100000 in
theorem pg200 : am_pg[200]? = some am_m200 := rfl
theorem m200_L6_w {d : Nat} {N : Nat} {v1 : Int32} {v2 : Int64} {mc ms : Nat} {Q : am_O → am_AH → Prop} (hd : 5 ≤ d) : ∀ (n : Nat) (D : am_D) (v4 : Int32) (v5 : Int32) {q : Int32 × am_D} (h : m200_L6 N v1 v2  n D v4 v5 = some q) (k0 : am_X xs L 200 d mc ms 56 [.ref 93, am_dead, am_dead, am_dead, .int q.1, am_dead] [] (am_mk q.2) 0 0 Q), am_X xs L 200 d mc ms 6 [.ref 93, .int v1, .long v2, am_dead, .int v4, .int v5] [] (am_mk D) 0 0 Q := by
  intro n
  induction n with
  | zero =>
    intro D v4 v5 q h k0
    exact (nomatch (show none = some q from h))
  | succ n ih =>
    intro D v4 v5 q h k0
    rw [m200_L6] at h
    refine x_ld (v := .int v5) r200_6 rfl rfl rfl ?_
    refine x_ld (v := .ref 93) r200_8 rfl rfl rfl ?_
    refine y_gf (cd := 98) (v := .ref 96) r200_9 rfl rfl rfl ?_
    refine y_alen (tag := 0) (n := 8) (v := 8) r200_12 rfl rfl rfl ?_
    rcases am_ifE h with ⟨c1, h⟩ | ⟨c1, h⟩
    · refine x_icgeT r200_13 c1 ?_
      refine x_forget (lc0 := [.ref 93, am_dead, am_dead, am_dead, .int v4, am_dead]) ⟨Or.inl rfl, Or.inr ⟨rfl, rfl⟩, Or.inr ⟨rfl, rfl⟩, Or.inl rfl, Or.inl rfl, Or.inr ⟨rfl, rfl⟩, trivial⟩ ?_
      cases h
      exact k0
    · refine x_icgeF r200_13 c1 rfl ?_
      refine x_ld (v := .ref 93) r200_16 rfl rfl rfl ?_
      refine y_gf (cd := 98) (v := .ref 96) r200_17 rfl rfl rfl ?_
      refine x_ld (v := .int v5) r200_20 rfl rfl rfl ?_
      obtain ⟨g2, h⟩ := am_gdE h
      refine y_ial (n := 8) r200_22 rfl (by decide) g2 rfl rfl ?_
      obtain ⟨q3, h5, h⟩ := Option.bind_eq_some_iff.mp h
      have kj4 : am_X xs L 200 d mc ms 50 [.ref 93, .int v1, .long v2, am_dead, .int q3.1, .int v5] [] (am_mk q3.2) 0 0 Q := by
        obtain ⟨x13, e14, h⟩ := am_ltE h
        refine x_sto (lc' := [.ref 93, .int v1, .long v2, am_dead, .int q3.1, .int x13]) r200_50 rfl rfl (by subst e14; rfl) rfl ?_
        refine x_goto r200_53 ?_
        exact x_forget (lc0 := [.ref 93, .int v1, .long v2, am_dead, .int q3.1, .int x13]) ⟨Or.inl rfl, Or.inl rfl, Or.inl rfl, Or.inl rfl, Or.inl rfl, Or.inl rfl, trivial⟩ (ih q3.2 q3.1 x13 h k0)
      rcases am_ifE h5 with ⟨c6, h5⟩ | ⟨c6, h5⟩
      · refine x_ifleT r200_23 c6 ?_
        cases h5
        exact kj4
      · refine x_ifleF r200_23 c6 rfl ?_
        refine x_ld (v := .ref 93) r200_26 rfl rfl rfl ?_
        refine x_ld (v := .int v1) r200_27 rfl rfl rfl ?_
        refine x_ld (v := .int v5) r200_28 rfl rfl rfl ?_
        obtain ⟨q7, h8, h5⟩ := Option.bind_eq_some_iff.mp h5
        refine x_call1 (as := [.ref 93, .int v1, .int v5]) (rest := []) r200_30 rfl rfl rfl (by decide) (Nat.le_of_ble_eq_true rfl) (m199_ok h8) (Nat.le_trans (by decide) hd) (Nat.zero_le _) (Nat.zero_le _) rfl ?_
        refine x_ld (v := .long v2) r200_33 rfl rfl rfl ?_
        refine x_ar r200_34 rfl trivial rfl ?_
        rcases am_ifE h5 with ⟨c9, h5⟩ | ⟨c9, h5⟩
        · refine x_ifneT r200_35 c9 rfl ?_
          refine x_ld (v := .int v4) r200_38 rfl rfl rfl ?_
          refine x_ld (v := .ref 93) r200_40 rfl rfl rfl ?_
          refine y_gf (cd := 98) (v := .ref 96) r200_41 rfl rfl rfl ?_
          refine x_ld (v := .int v5) r200_44 rfl rfl rfl ?_
          obtain ⟨g10, h5⟩ := am_gdE h5
          refine y_ial (n := 8) r200_46 rfl (by decide) g10 rfl rfl ?_
          refine x_ar r200_47 rfl trivial rfl ?_
          obtain ⟨x11, e12, h5⟩ := am_ltE h5
          refine am_topI e12 ?_
          refine x_sto (lc' := [.ref 93, .int v1, .long v2, am_dead, .int x11, .int v5]) r200_48 rfl rfl rfl rfl ?_
          cases h5
          exact kj4
        · refine x_ifneF r200_35 c9 ?_
          cases h5
          exact kj4
theorem m200_w {d mc ms : Nat} {N : Nat} {D : am_D} {v1 : Int32} {v2 : Int64} {Q : am_O → am_AH → Prop} (hd : 5 ≤ d) {r : Int32 × am_D} (h : m200 N D v1 v2 = some r) (hQ : Q (.inl (some (.int r.1))) (am_mk r.2)) : am_X xs L 200 d mc ms 0 [.ref 93, .int v1, .long v2, am_dead, am_dead, am_dead] [] (am_mk D) 0 0 Q := by
  unfold m200 at h
  refine x_ic (v := 0) r200_0 rfl rfl ?_
  refine x_sto (lc' := [.ref 93, .int v1, .long v2, am_dead, .int (0 : Int32), am_dead]) r200_1 rfl rfl rfl rfl ?_
  refine x_ic (v := 1) r200_3 rfl rfl ?_
  refine x_sto (lc' := [.ref 93, .int v1, .long v2, am_dead, .int (0 : Int32), .int (1 : Int32)]) r200_4 rfl rfl rfl rfl ?_
  obtain ⟨q15, h16, h⟩ := Option.bind_eq_some_iff.mp h
  refine x_forget (lc0 := [.ref 93, .int v1, .long v2, am_dead, .int (0 : Int32), .int (1 : Int32)]) ⟨Or.inl rfl, Or.inl rfl, Or.inl rfl, Or.inl rfl, Or.inl rfl, Or.inl rfl, trivial⟩ (m200_L6_w hd N D (0 : Int32) (1 : Int32) h16 ?_)
  refine x_ld (v := .int q15.1) r200_56 rfl rfl rfl ?_
  cases h
  exact x_ret (ret := some .int) (C := True) (v := some (.int _)) r200_58 rt200 rfl rfl rfl rfl rfl rfl rfl rfl trivial hQ
theorem m200_ok {N : Nat} {D : am_D} {v1 : Int32} {v2 : Int64} {r : Int32 × am_D} (h : m200 N D v1 v2 = some r) : am_Y xs L 200 5 0 0 [.ref 93, .int v1, .long v2] D (.inl (some (.int r.1))) r.2 := am_Yof (mi := am_m200) (lc := [.ref 93, .int v1, .long v2, am_dead, am_dead, am_dead]) pg200 (Nat.le_of_ble_eq_true rfl) (am_rc1 (ci := 3) rfl rfl rfl rfl rfl) rfl (fun Q hQ => m200_w (Nat.le_refl _) h hQ)
theorem r222_0 : am_at 222 0 = some (.aload_n 0, 1, [0]) := by decide +kernel
theorem r222_1 : am_at 222 1 = some (.getfield 12, 3, [4, 0, 3, 87]) := by decide +kernel
theorem r222_4 : am_at 222 4 = some (.iload_n 2, 1, [2]) := by decide +kernel
theorem r222_5 : am_at 222 5 = some (.iload_n 3, 1, [3]) := by decide +kernel
theorem r222_6 : am_at 222 6 = some (.invokevirtual 149, 3, [161, 3, 663, 0]) := by decide +kernel
theorem r222_9 : am_at 222 9 = some (.invokestatic 152, 3, [256, 1, 676, 0]) := by decide +kernel
theorem r222_12 : am_at 222 12 = some (.istore 4, 2, [4]) := by decide +kernel
theorem r222_14 : am_at 222 14 = some (.aload_n 0, 1, [0]) := by decide +kernel
theorem r222_15 : am_at 222 15 = some (.iload_n 1, 1, [1]) := by decide +kernel
theorem r222_16 : am_at 222 16 = some (.invokevirtual 103, 3, [204, 2, 585, 0]) := by decide +kernel
theorem r222_19 : am_at 222 19 = some (.iconst (1), 1, []) := by decide +kernel
theorem r222_20 : am_at 222 20 = some (.if_icmp .ne (20), 3, [40]) := by decide +kernel
theorem r222_23 : am_at 222 23 = some (.iload 4, 2, [4]) := by decide +kernel
theorem r222_25 : am_at 222 25 = some (.aload_n 0, 1, [0]) := by decide +kernel
theorem r222_26 : am_at 222 26 = some (.invokevirtual 155, 3, [211, 1, 679, 0]) := by decide +kernel
theorem r222_29 : am_at 222 29 = some (.aload_n 0, 1, [0]) := by decide +kernel
theorem r222_30 : am_at 222 30 = some (.iload_n 1, 1, [1]) := by decide +kernel
theorem r222_31 : am_at 222 31 = some (.invokevirtual 106, 3, [205, 2, 683, 0]) := by decide +kernel
theorem r222_34 : am_at 222 34 = some (.isub, 1, []) := by decide +kernel
theorem r222_35 : am_at 222 35 = some (.iconst (5), 1, []) := by decide +kernel
theorem r222_36 : am_at 222 36 = some (.idiv, 1, []) := by decide +kernel
theorem r222_37 : am_at 222 37 = some (.iadd, 1, []) := by decide +kernel
theorem r222_38 : am_at 222 38 = some (.istore 4, 2, [4]) := by decide +kernel
theorem r222_40 : am_at 222 40 = some (.iload 4, 2, [4]) := by decide +kernel
theorem r222_42 : am_at 222 42 = some (.ireturn, 1, []) := by decide +kernel
theorem rt222 : am_rtt 222 = some (some .int) := by decide +kernel
set_option maxRecDepth 100000 in
theorem pg222 : am_pg[222]? = some am_m222 := rfl
theorem m222_w {d mc ms : Nat} {N : Nat} {D : am_D} {v1 : Int32} {v2 : Int32} {v3 : Int32} {Q : am_O → am_AH → Prop} (hd : 5 ≤ d) {r : Int32} (h : m222 N D v1 v2 v3 = some r) (hQ : Q (.inl (some (.int r))) (am_mk D)) : am_X xs L 222 d mc ms 0 [.ref 1, .int v1, .int v2, .int v3, am_dead] [] (am_mk D) 0 0 Q := by
  unfold m222 at h
  refine x_ld (v := .ref 1) r222_0 rfl rfl rfl ?_
  refine y_gf (cd := 4) (v := .ref 2) r222_1 rfl rfl rfl ?_
  refine x_ld (v := .int v2) r222_4 rfl rfl rfl ?_
  refine x_ld (v := .int v3) r222_5 rfl rfl rfl ?_
  refine x_call1 (as := [.ref 2, .int v2, .int v3]) (rest := []) r222_6 rfl rfl rfl (by decide) (Nat.le_of_ble_eq_true rfl) (m161_ok rfl) (Nat.le_trans (by decide) hd) (Nat.zero_le _) (Nat.zero_le _) rfl ?_
  refine x_call1 (as := [.int (m161 D v2 v3)]) (rest := []) r222_9 rfl rfl rfl (by decide) (Nat.le_of_ble_eq_true rfl) (m256_ok rfl) (Nat.le_trans (by decide) hd) (Nat.zero_le _) (Nat.zero_le _) rfl ?_
  obtain ⟨x1, e2, h⟩ := am_ltE h
  refine am_topI e2 ?_
  refine x_sto (lc' := [.ref 1, .int v1, .int v2, .int v3, .int x1]) r222_12 rfl rfl rfl rfl ?_
  refine x_ld (v := .ref 1) r222_14 rfl rfl rfl ?_
  refine x_ld (v := .int v1) r222_15 rfl rfl rfl ?_
  obtain ⟨q3, h4, h⟩ := Option.bind_eq_some_iff.mp h
  refine x_call1 (as := [.ref 1, .int v1]) (rest := []) r222_16 rfl rfl rfl (by decide) (Nat.le_of_ble_eq_true rfl) (m204_ok h4) (Nat.le_trans (by decide) hd) (Nat.zero_le _) (Nat.zero_le _) rfl ?_
  refine x_ic (v := 1) r222_19 rfl rfl ?_
  rcases am_ifE h with ⟨c5, h⟩ | ⟨c5, h⟩
  · refine x_icneT r222_20 c5 rfl ?_
    refine x_ld (v := .int x1) r222_23 rfl rfl rfl ?_
    refine x_ld (v := .ref 1) r222_25 rfl rfl rfl ?_
    obtain ⟨q6, h7, h⟩ := Option.bind_eq_some_iff.mp h
    refine x_call1 (as := [.ref 1]) (rest := [.int x1]) r222_26 rfl rfl rfl (by decide) (Nat.le_of_ble_eq_true rfl) (m211_ok h7) (Nat.le_trans (by decide) hd) (Nat.zero_le _) (Nat.zero_le _) rfl ?_
    refine x_ld (v := .ref 1) r222_29 rfl rfl rfl ?_
    refine x_ld (v := .int v1) r222_30 rfl rfl rfl ?_
    obtain ⟨q8, h9, h⟩ := Option.bind_eq_some_iff.mp h
    refine x_call1 (as := [.ref 1, .int v1]) (rest := [.int q6, .int x1]) r222_31 rfl rfl rfl (by decide) (Nat.le_of_ble_eq_true rfl) (m205_ok h9) (Nat.le_trans (by decide) hd) (Nat.zero_le _) (Nat.zero_le _) rfl ?_
    refine x_ar r222_34 rfl trivial rfl ?_
    refine x_ic (v := 5) r222_35 rfl rfl ?_
    refine x_ar r222_36 rfl (by decide) rfl ?_
    refine x_ar r222_37 rfl trivial rfl ?_
    obtain ⟨x10, e11, h⟩ := am_ltE h
    refine am_topI e11 ?_
    refine x_sto (lc' := [.ref 1, .int v1, .int v2, .int v3, .int x10]) r222_38 rfl rfl rfl rfl ?_
    refine x_ld (v := .int x10) r222_40 rfl rfl rfl ?_
    cases h
    exact x_ret (ret := some .int) (C := True) (v := some (.int _)) r222_42 rt222 rfl rfl rfl rfl rfl rfl rfl rfl trivial hQ
  · refine x_icneF r222_20 c5 ?_
    refine x_ld (v := .int x1) r222_40 rfl rfl rfl ?_
    cases h
    exact x_ret (ret := some .int) (C := True) (v := some (.int _)) r222_42 rt222 rfl rfl rfl rfl rfl rfl rfl rfl trivial hQ
theorem m222_ok {N : Nat} {D : am_D} {v1 : Int32} {v2 : Int32} {v3 : Int32} {r : Int32} (h : m222 N D v1 v2 v3 = some r) : am_Y xs L 222 5 0 0 [.ref 1, .int v1, .int v2, .int v3] D (.inl (some (.int r))) D := am_Yof (mi := am_m222) (lc := [.ref 1, .int v1, .int v2, .int v3, am_dead]) pg222 (Nat.le_of_ble_eq_true rfl) (am_rc1 (ci := 4) rfl rfl rfl rfl rfl) rfl (fun Q hQ => m222_w (Nat.le_refl _) h hQ)
theorem r223_0 : am_at 223 0 = some (.aload_n 0, 1, [0]) := by decide +kernel
theorem r223_1 : am_at 223 1 = some (.iload_n 1, 1, [1]) := by decide +kernel
theorem r223_2 : am_at 223 2 = some (.iload_n 2, 1, [2]) := by decide +kernel
theorem r223_3 : am_at 223 3 = some (.iload_n 3, 1, [3]) := by decide +kernel
theorem r223_4 : am_at 223 4 = some (.invokevirtual 158, 3, [222, 4, 764, 0]) := by decide +kernel
theorem r223_7 : am_at 223 7 = some (.istore 4, 2, [4]) := by decide +kernel
theorem r223_9 : am_at 223 9 = some (.aload_n 0, 1, [0]) := by decide +kernel
theorem r223_10 : am_at 223 10 = some (.getfield 12, 3, [4, 0, 3, 87]) := by decide +kernel
theorem r223_13 : am_at 223 13 = some (.iload_n 2, 1, [2]) := by decide +kernel
theorem r223_14 : am_at 223 14 = some (.iload_n 3, 1, [3]) := by decide +kernel
theorem r223_15 : am_at 223 15 = some (.iload_n 1, 1, [1]) := by decide +kernel
theorem r223_16 : am_at 223 16 = some (.invokevirtual 162, 3, [164, 4, 765, 0]) := by decide +kernel
theorem r223_19 : am_at 223 19 = some (.aload_n 0, 1, [0]) := by decide +kernel
theorem r223_20 : am_at 223 20 = some (.getfield 18, 3, [4, 1, 3, 90]) := by decide +kernel
theorem r223_23 : am_at 223 23 = some (.iload_n 2, 1, [2]) := by decide +kernel
theorem r223_24 : am_at 223 24 = some (.iconst (4), 1, []) := by decide +kernel
theorem r223_25 : am_at 223 25 = some (.invokestatic 112, 3, [181, 3, 628, 0]) := by decide +kernel
theorem r223_28 : am_at 223 28 = some (.aload_n 0, 1, [0]) := by decide +kernel
theorem r223_29 : am_at 223 29 = some (.getfield 31, 3, [4, 5, 3, 98]) := by decide +kernel
theorem r223_32 : am_at 223 32 = some (.iload_n 1, 1, [1]) := by decide +kernel
theorem r223_33 : am_at 223 33 = some (.invokestatic 166, 3, [187, 1, 775, 0]) := by decide +kernel
theorem r223_36 : am_at 223 36 = some (.iload 4, 2, [4]) := by decide +kernel
theorem r223_38 : am_at 223 38 = some (.invokestatic 169, 3, [182, 3, 737, 0]) := by decide +kernel
theorem r223_41 : am_at 223 41 = some (.aload_n 0, 1, [0]) := by decide +kernel
theorem r223_42 : am_at 223 42 = some (.iload_n 1, 1, [1]) := by decide +kernel
theorem r223_43 : am_at 223 43 = some (.putfield 44, 3, [4, 9, 0, 107]) := by decide +kernel
theorem r223_46 : am_at 223 46 = some (.aload_n 0, 1, [0]) := by decide +kernel
theorem r223_47 : am_at 223 47 = some (.iconst (0), 1, []) := by decide +kernel
theorem r223_48 : am_at 223 48 = some (.putfield 60, 3, [4, 11, 0, 111]) := by decide +kernel
theorem r223_51 : am_at 223 51 = some (.aload_n 0, 1, [0]) := by decide +kernel
theorem r223_52 : am_at 223 52 = some (.dup, 1, []) := by decide +kernel
theorem r223_53 : am_at 223 53 = some (.getfield 66, 3, [4, 13, 0, 116]) := by decide +kernel
theorem r223_56 : am_at 223 56 = some (.iconst (1), 1, []) := by decide +kernel
theorem r223_57 : am_at 223 57 = some (.iadd, 1, []) := by decide +kernel
theorem r223_58 : am_at 223 58 = some (.putfield 66, 3, [4, 13, 0, 116]) := by decide +kernel
theorem r223_61 : am_at 223 61 = some (.aload_n 0, 1, [0]) := by decide +kernel
theorem r223_62 : am_at 223 62 = some (.iload_n 1, 1, [1]) := by decide +kernel
theorem r223_63 : am_at 223 63 = some (.invokevirtual 103, 3, [204, 2, 585, 0]) := by decide +kernel
theorem r223_66 : am_at 223 66 = some (.ifCond .ne (10), 3, [76]) := by decide +kernel
theorem r223_69 : am_at 223 69 = some (.aload_n 0, 1, [0]) := by decide +kernel
theorem r223_70 : am_at 223 70 = some (.invokevirtual 171, 3, [227, 1, 744, 0]) := by decide +kernel
theorem r223_73 : am_at 223 73 = some (.goto (11), 3, [84]) := by decide +kernel
theorem r223_76 : am_at 223 76 = some (.aload_n 0, 1, [0]) := by decide +kernel
theorem r223_77 : am_at 223 77 = some (.iload_n 1, 1, [1]) := by decide +kernel
theorem r223_78 : am_at 223 78 = some (.invokestatic 131, 3, [185, 1, 610, 0]) := by decide +kernel
theorem r223_81 : am_at 223 81 = some (.putfield 38, 3, [4, 7, 0, 102]) := by decide +kernel
theorem r223_84 : am_at 223 84 = some (.iload 4, 2, [4]) := by decide +kernel
theorem r223_86 : am_at 223 86 = some (.ireturn, 1, []) := by decide +kernel
theorem rt223 : am_rtt 223 = some (some .int) := by decide +kernel
set_option maxRecDepth 100000 in
theorem pg223 : am_pg[223]? = some am_m223 := rfl
theorem m223_w {d mc ms : Nat} {N : Nat} {D : am_D} {v1 : Int32} {v2 : Int32} {v3 : Int32} {Q : am_O → am_AH → Prop} (hd : 6 ≤ d) {r : Int32 × am_D} (h : m223 N D v1 v2 v3 = some r) (hQ : Q (.inl (some (.int r.1))) (am_mk r.2)) : am_X xs L 223 d mc ms 0 [.ref 1, .int v1, .int v2, .int v3, am_dead] [] (am_mk D) 0 0 Q := by
  unfold m223 at h
  refine x_ld (v := .ref 1) r223_0 rfl rfl rfl ?_
  refine x_ld (v := .int v1) r223_1 rfl rfl rfl ?_
  refine x_ld (v := .int v2) r223_2 rfl rfl rfl ?_
  refine x_ld (v := .int v3) r223_3 rfl rfl rfl ?_
  obtain ⟨q1, h2, h⟩ := Option.bind_eq_some_iff.mp h
  refine x_call1 (as := [.ref 1, .int v1, .int v2, .int v3]) (rest := []) r223_4 rfl rfl rfl (by decide) (Nat.le_of_ble_eq_true rfl) (m222_ok h2) (Nat.le_trans (by decide) hd) (Nat.zero_le _) (Nat.zero_le _) rfl ?_
  refine x_sto (lc' := [.ref 1, .int v1, .int v2, .int v3, .int q1]) r223_7 rfl rfl rfl rfl ?_
  refine x_ld (v := .ref 1) r223_9 rfl rfl rfl ?_
  refine y_gf (cd := 4) (v := .ref 2) r223_10 rfl rfl rfl ?_
  refine x_ld (v := .int v2) r223_13 rfl rfl rfl ?_
  refine x_ld (v := .int v3) r223_14 rfl rfl rfl ?_
  refine x_ld (v := .int v1) r223_15 rfl rfl rfl ?_
  obtain ⟨q3, h4, h⟩ := Option.bind_eq_some_iff.mp h
  refine x_call0 (as := [.ref 2, .int v2, .int v3, .int v1]) (rest := []) r223_16 rfl rfl rfl (by decide) (Nat.le_of_ble_eq_true rfl) (m164_ok h4) (Nat.le_trans (by decide) hd) (Nat.zero_le _) (Nat.zero_le _) rfl ?_
  refine x_ld (v := .ref 1) r223_19 rfl rfl rfl ?_
  refine y_gf (cd := 9) (v := .ref 7) r223_20 rfl rfl rfl ?_
  refine x_ld (v := .int v2) r223_23 rfl rfl rfl ?_
  refine x_ic (v := 4) r223_24 rfl rfl ?_
  obtain ⟨D5, e6, h⟩ := am_ltE h
  refine x_call0 (as := [.ref 7, .int v2, .int (4 : Int32)]) (rest := []) r223_25 rfl rfl rfl (by decide) (Nat.le_of_ble_eq_true rfl) (am_rows_put (n := 28) rfl (by decide) e6) (Nat.le_trans (by decide) hd) (Nat.zero_le _) (Nat.zero_le _) rfl ?_
  refine x_ld (v := .ref 1) r223_28 rfl rfl rfl ?_
  refine y_gf (cd := 13) (v := .ref 11) r223_29 rfl rfl rfl ?_
  refine x_ld (v := .int v1) r223_32 rfl rfl rfl ?_
  refine x_call1 (as := [.int v1]) (rest := [.ref 11]) r223_33 rfl rfl rfl (by decide) (Nat.le_of_ble_eq_true rfl) (m187_ok rfl) (Nat.le_trans (by decide) hd) (Nat.zero_le _) (Nat.zero_le _) rfl ?_
  refine x_ld (v := .int q1) r223_36 rfl rfl rfl ?_
  obtain ⟨D7, e8, h⟩ := am_ltE h
  refine x_call0 (as := [.ref 11, .int (m187 v1), .int q1]) (rest := []) r223_38 rfl rfl rfl (by decide) (Nat.le_of_ble_eq_true rfl) (am_rows_add (n := 2) rfl (by decide) e8) (Nat.le_trans (by decide) hd) (Nat.zero_le _) (Nat.zero_le _) rfl ?_
  refine x_ld (v := .ref 1) r223_41 rfl rfl rfl ?_
  refine x_ld (v := .int v1) r223_42 rfl rfl rfl ?_
  obtain ⟨D9, e10, h⟩ := am_ltE h
  refine y_pf0 r223_43 rfl e10 rfl ?_
  refine x_ld (v := .ref 1) r223_46 rfl rfl rfl ?_
  refine x_ic (v := 0) r223_47 rfl rfl ?_
  obtain ⟨D11, e12, h⟩ := am_ltE h
  refine y_pf0 r223_48 rfl e12 rfl ?_
  refine x_ld (v := .ref 1) r223_51 rfl rfl rfl ?_
  refine x_ar r223_52 rfl trivial rfl ?_
  refine y_gf (cd := 0) (v := .int (D11.1 1 13)) r223_53 rfl rfl rfl ?_
  refine x_ic (v := 1) r223_56 rfl rfl ?_
  refine x_ar r223_57 rfl trivial rfl ?_
  obtain ⟨D13, e14, h⟩ := am_ltE h
  refine y_pf0 r223_58 rfl e14 rfl ?_
  refine x_ld (v := .ref 1) r223_61 rfl rfl rfl ?_
  refine x_ld (v := .int v1) r223_62 rfl rfl rfl ?_
  obtain ⟨q15, h16, h⟩ := Option.bind_eq_some_iff.mp h
  refine x_call1 (as := [.ref 1, .int v1]) (rest := []) r223_63 rfl rfl rfl (by decide) (Nat.le_of_ble_eq_true rfl) (m204_ok h16) (Nat.le_trans (by decide) hd) (Nat.zero_le _) (Nat.zero_le _) rfl ?_
  rcases am_ifE h with ⟨c17, h⟩ | ⟨c17, h⟩
  · refine x_ifneT r223_66 c17 rfl ?_
    refine x_ld (v := .ref 1) r223_69 rfl rfl rfl ?_
    obtain ⟨q18, h19, h⟩ := am_ltE h
    replace h19 := h19.symm
    refine x_call0 (as := [.ref 1]) (rest := []) r223_70 rfl rfl rfl (by decide) (Nat.le_of_ble_eq_true rfl) (m227_ok h19) (Nat.le_trans (by decide) hd) (Nat.zero_le _) (Nat.zero_le _) rfl ?_
    refine x_goto r223_73 ?_
    refine x_ld (v := .int q1) r223_84 rfl rfl rfl ?_
    cases h
    exact x_ret (ret := some .int) (C := True) (v := some (.int _)) r223_86 rt223 rfl rfl rfl rfl rfl rfl rfl rfl trivial hQ
  · refine x_ifneF r223_66 c17 ?_
    refine x_ld (v := .ref 1) r223_76 rfl rfl rfl ?_
    refine x_ld (v := .int v1) r223_77 rfl rfl rfl ?_
    refine x_call1 (as := [.int v1]) (rest := [.ref 1]) r223_78 rfl rfl rfl (by decide) (Nat.le_of_ble_eq_true rfl) (m185_ok rfl) (Nat.le_trans (by decide) hd) (Nat.zero_le _) (Nat.zero_le _) rfl ?_
    obtain ⟨D20, e21, h⟩ := am_ltE h
    refine y_pf0 r223_81 rfl e21 rfl ?_
    refine x_ld (v := .int q1) r223_84 rfl rfl rfl ?_
    cases h
    exact x_ret (ret := some .int) (C := True) (v := some (.int _)) r223_86 rt223 rfl rfl rfl rfl rfl rfl rfl rfl trivial hQ
theorem m223_ok {N : Nat} {D : am_D} {v1 : Int32} {v2 : Int32} {v3 : Int32} {r : Int32 × am_D} (h : m223 N D v1 v2 v3 = some r) : am_Y xs L 223 6 0 0 [.ref 1, .int v1, .int v2, .int v3] D (.inl (some (.int r.1))) r.2 := am_Yof (mi := am_m223) (lc := [.ref 1, .int v1, .int v2, .int v3, am_dead]) pg223 (Nat.le_of_ble_eq_true rfl) (am_rc1 (ci := 4) rfl rfl rfl rfl rfl) rfl (fun Q hQ => m223_w (Nat.le_refl _) h hQ)
end XE
