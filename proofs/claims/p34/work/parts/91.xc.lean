/-! the law: its loop -/
section XC
variable {xs : Nat → Int32} {L N d mc ms c s : Nat} {D : am_D} {t : am_AH} {Q : am_O → am_AH → Prop}
theorem x_lcd {k pc p' : Nat} {lc rest : List Value} {i : Instr} {k' na j nest d0 : Nat} {hq : List Nat} {as st : List Value} {v : Value} {D' : am_D} (hd : d0 + 1 ≤ d) (r : am_at k pc = some (i, 3, k' :: na :: j :: nest :: hq)) (hi : am_isInv i = true) (hst : st = as.reverse ++ rest) (hn : as.length = na) (hk : k' < 1000) (hcat : (rest.map fun v => v.category).sum ≤ 8) (ht : t.length ≤ 900000) (hc : c ≤ mc) (hs : s ≤ ms)
    (hY : am_Y xs L k' d0 0 0 as D (.inl (some v)) D') (hp : pc + 3 = p') (kk : am_X xs L k d mc ms p' lc (v :: rest) (am_mk D' ++ t) c s Q) : am_X xs L k d mc ms pc lc st (am_mk D ++ t) c s Q :=
  x_callT ht r hi hst hn hk hcat hY hd hc hs hp kk
abbrev lcK (i : Nat) (x y : Int32) : List Value := [.ref 1000002, .ref 0, .int 1, .int (Int32.ofNat i), .int x, .int y, am_dead, am_dead, am_dead, am_dead, am_dead, am_dead, am_dead]
abbrev lc0 (i : Nat) : List Value := [.ref 1000002, .ref 0, .int 1, .int (Int32.ofNat i), am_dead, am_dead, am_dead, am_dead, am_dead, am_dead, am_dead, am_dead, am_dead]
/-- from the row where the turn's number is looked at, to the next turn -/
theorem law_C3 (hd : 57 ≤ d) (hI : u_I D) (hk : D.1 0 7 = 1) (ht : t.length ≤ 900000) (hc : c ≤ mc) (hs : s ≤ ms) {i : Nat} (x y : Int32) (nx : ∀ D', u_I D' → D'.1 0 7 = 1 → am_X xs L 287 d mc ms 30 (lc0 (i + 1)) [] (am_mk D' ++ t) c s Q) : am_X xs L 287 d mc ms 260 (lcK i x y) [] (am_mk D ++ t) c s Q := by
  have fin : ∀ D', u_I D' → D'.1 0 7 = 1 → am_X xs L 287 d mc ms 281 (lcK i x y) [] (am_mk D' ++ t) c s Q := fun D' h1 h2 => by
    refine x_ic (v := 1) r287_281 rfl rfl ?_
    refine x_goto r287_282 ?_
    refine x_sto (lc' := lcK i x y) (st' := []) r287_286 rfl rfl rfl rfl ?_
    refine x_sto (lc' := lcK (i + 1) x y) (st' := []) r287_287 rfl rfl (by unfold lcK; rw [← q_add i 1]; rfl) rfl ?_
    refine x_goto r287_290 ?_
    exact x_forget (lc0 := lc0 (i + 1)) ⟨Or.inl rfl, Or.inl rfl, Or.inl rfl, Or.inl rfl, Or.inr ⟨rfl, rfl⟩, Or.inr ⟨rfl, rfl⟩, Or.inl rfl, Or.inl rfl, Or.inl rfl, Or.inl rfl, Or.inl rfl, Or.inl rfl, Or.inl rfl, trivial⟩ (nx D' h1 h2)
  refine x_ld (v := .int (Int32.ofNat i)) r287_260 rfl rfl rfl ?_
  refine x_bi (v := 29) r287_261 rfl rfl ?_
  refine x_ar r287_263 rfl (by decide) rfl ?_
  refine x_bi (v := 17) r287_264 rfl rfl ?_
  by_cases c1 : Int32.ofNat i - Int32.ofNat i / 29 * 29 = 17
  · refine x_icneT r287_266 c1 rfl ?_
    refine x_ld (v := .ref 0) r287_269 rfl rfl rfl ?_
    obtain ⟨D', e1, e2, e3, e4⟩ := a_keep hI
    have hY := m15_ok (xs := xs) (L := L) e1
    refine x_lcd (as := [.ref 0]) (rest := []) (d0 := 4) (by omega) r287_270 rfl rfl rfl (by decide) (by decide) ht hc hs hY rfl ?_
    rw [← u_gh_mk D']
    refine x_ld (v := .ref 0) r287_273 rfl rfl rfl ?_
    refine x_ic (v := 3) r287_274 rfl rfl ?_
    refine x_lcd (as := [.ref 0, .int 3]) (rest := [.int (D.1 2 4)]) (d0 := 5) (by omega) r287_275 rfl rfl rfl (by decide) (Nat.le_of_ble_eq_true rfl) ht hc hs (m22_okv (N := 2000) (w22_3 (u_gh D')) (w_inl _)) rfl ?_
    refine x_icneT r287_278 e4.symm rfl ?_
    exact fin _ e2 e3
  · refine x_icneF r287_266 c1 ?_
    exact fin D hI hk
/-- from the row where it is asked whether the round goes on -/
theorem law_C2 (hN : 2000 ≤ N) (hd : 57 ≤ d) (hI : u_I D) (hk : D.1 0 7 = 1) (ht : t.length ≤ 900000) (hc : c ≤ mc) (hs : s ≤ ms) {i : Nat} (x y : Int32) (nx : ∀ D', u_I D' → D'.1 0 7 = 1 → am_X xs L 287 d mc ms 30 (lc0 (i + 1)) [] (am_mk D' ++ t) c s Q) : am_X xs L 287 d mc ms 240 (lcK i x y) [] (am_mk D ++ t) c s Q := by
  refine x_ld (v := .ref 0) r287_240 rfl rfl rfl ?_
  refine x_ic (v := 0) r287_241 rfl rfl ?_
  refine x_lcd (as := [.ref 0, .int 0]) (rest := []) (d0 := 5) (by omega) r287_242 rfl rfl rfl (by decide) (by decide) ht hc hs (m22_okv (N := 2000) (w22_0 D) (w_inl _)) rfl ?_
  refine x_ic (v := 1) r287_245 rfl rfl ?_
  by_cases c1 : D.1 1 6 = 1
  · refine x_icneT r287_246 c1 rfl ?_
    refine x_ld (v := .ref 0) r287_249 rfl rfl rfl ?_
    refine x_ld (v := .int y) r287_250 rfl rfl rfl ?_
    refine x_ic (v := 3) r287_252 rfl rfl ?_
    refine x_ar r287_253 rfl trivial rfl ?_
    obtain ⟨E, e1, e2, e3⟩ := a_ahead hN hI c1 (y >>> (3 &&& 31))
    refine x_lcd (as := [.ref 0, .int (y >>> (3 &&& 31))]) (rest := []) (d0 := 56) (by omega) r287_254 rfl rfl rfl (by decide) (by decide) ht hc hs (m295_ok e1) rfl ?_
    refine x_ifeqF r287_257 (show ¬ (1 : Int32) = 0 by decide) rfl ?_
    exact law_C3 hd e2 (by rw [e3 0 (by omega)]; exact hk) ht hc hs x y nx
  · refine x_icneF r287_246 c1 ?_
    exact law_C3 hd hI hk ht hc hs x y nx
/-- from the row where the turn's number is looked at for deals -/
theorem law_C1 (hN : 2000 ≤ N) (hd : 57 ≤ d) (hI : u_I D) (hk : D.1 0 7 = 1) (ht : t.length ≤ 900000) (hc : c ≤ mc) (hs : s ≤ ms) {i : Nat} (x y : Int32) (nx : ∀ D', u_I D' → D'.1 0 7 = 1 → am_X xs L 287 d mc ms 30 (lc0 (i + 1)) [] (am_mk D' ++ t) c s Q) : am_X xs L 287 d mc ms 209 (lcK i x y) [] (am_mk D ++ t) c s Q := by
  refine x_ld (v := .int (Int32.ofNat i)) r287_209 rfl rfl rfl ?_
  refine x_ic (v := 4) r287_210 rfl rfl ?_
  refine x_ar r287_211 rfl (by decide) rfl ?_
  refine x_ic (v := 1) r287_212 rfl rfl ?_
  by_cases c1 : Int32.ofNat i - Int32.ofNat i / 4 * 4 = 1
  · refine x_icneT r287_213 c1 rfl ?_
    obtain ⟨a, ha, ea⟩ := u_up (x >>> (5 &&& 31)) (m := 4) (by omega) (by omega)
    obtain ⟨b, hb, eb⟩ := u_up (y >>> (4 &&& 31)) (m := 28) (by omega) (by omega)
    refine x_ld (v := .ref 0) r287_216 rfl rfl rfl ?_
    refine x_ld (v := .int x) r287_217 rfl rfl rfl ?_
    refine x_ic (v := 5) r287_219 rfl rfl ?_
    refine x_ar r287_220 rfl trivial rfl ?_
    refine x_ic (v := Int32.ofNat 4) r287_221 rfl rfl ?_
    refine x_lcd (as := [.int (x >>> (5 &&& 31)), .int (Int32.ofNat 4)]) (rest := [.ref 0]) (d0 := 1) (by omega) r287_222 rfl rfl rfl (by decide) (by decide) ht hc hs (m289_ok ea) rfl ?_
    refine x_ld (v := .int y) r287_225 rfl rfl rfl ?_
    refine x_ic (v := 4) r287_227 rfl rfl ?_
    refine x_ar r287_228 rfl trivial rfl ?_
    refine x_bi (v := Int32.ofNat 28) r287_229 rfl rfl ?_
    refine x_lcd (as := [.int (y >>> (4 &&& 31)), .int (Int32.ofNat 28)]) (rest := [.int (Int32.ofNat a), .ref 0]) (d0 := 1) (by omega) r287_231 rfl rfl rfl (by decide) (Nat.le_of_ble_eq_true rfl) ht hc hs (m289_ok eb) rfl ?_
    obtain ⟨E, e1, e2⟩ := a_deals hN hI ha hb
    refine x_lcd (as := [.ref 0, .int (Int32.ofNat a), .int (Int32.ofNat b)]) (rest := []) (d0 := 16) (by omega) r287_234 rfl rfl rfl (by decide) (by decide) ht hc hs (m294_ok e1) rfl ?_
    refine x_ifeqF r287_237 (show ¬ (1 : Int32) = 0 by decide) rfl ?_
    exact law_C2 hN hd (u_E_I e2 hI) (by rw [e2.1 0 (by omega)]; exact hk) ht hc hs x y nx
  · refine x_icneF r287_213 c1 ?_
    exact law_C2 hN hd hI hk ht hc hs x y nx
/-- behind the deed: all holds -/
theorem law_C (hN : 2000 ≤ N) (hd : 57 ≤ d) (hI : u_I D) (hk : D.1 0 7 = 1) (ht : t.length ≤ 800000) (hT : z_is t) (hc : c + 2 ≤ mc) (hs : s + 12 ≤ ms) {i : Nat} (x y : Int32) (nx : ∀ D' t', u_I D' → D'.1 0 7 = 1 → z_is t' → t'.length = t.length + 2 → am_X xs L 287 d mc ms 30 (lc0 (i + 1)) [] (am_mk D' ++ t') (c + 2) (s + 12) Q) : am_X xs L 287 d mc ms 198 (lcK i x y) [] (am_mk D ++ t) c s Q := by
  refine x_ld (v := .int 1) r287_198 rfl rfl rfl ?_
  refine x_ifeqF r287_199 (show ¬ (1 : Int32) = 0 by decide) rfl ?_
  refine x_ld (v := .ref 0) r287_202 rfl rfl rfl ?_
  refine law_holds hN hI ht hT hd r287_203 (sc_r (Or.inr (by decide)) (sc_r (Or.inl (by decide)) (sc_i (sc_i (sc_i (sc_i (sc_d (sc_d (sc_d (sc_d (sc_d (sc_d (sc_d sc_n))))))))))))) hc hs rfl fun D' t' h1 h2 h3 h4 => ?_
  refine x_ifeqF r287_206 (show ¬ (1 : Int32) = 0 by decide) rfl ?_
  exact law_C1 hN hd h1 (by rw [h2.1 0 (by omega)]; exact hk) (by omega) hc hs x y (fun D'' g1 g2 => nx D'' t' g1 g2 h3 h4)
/-- from the row behind the deed: it is undone and done again -/
theorem law_B {D1 : am_D} {r : Nat} {h0 : Int64} (hN : 2000 ≤ N) (hd : 57 ≤ d) (hI : u_I D) (hk : D.1 0 7 = 1) (hl : m290 N D = some (h0, D)) (ht : t.length ≤ 800000) (hT : z_is t) (hc : c + 2 ≤ mc) (hs : s + 12 ≤ ms) {i : Nat} (x y v8 : Int32) (hda : u_da D (fun G => m292 N G x y) r D1) (nx : ∀ D' t', u_I D' → D'.1 0 7 = 1 → z_is t' → t'.length = t.length + 2 → am_X xs L 287 d mc ms 30 (lc0 (i + 1)) [] (am_mk D' ++ t') (c + 2) (s + 12) Q) : am_X xs L 287 d mc ms 119 [.ref 1000002, .ref 0, .int 1, .int (Int32.ofNat i), .int x, .int y, .long h0, am_dead, .int v8, .int (Int32.ofNat r), am_dead, am_dead, am_dead] [.int 1] (am_mk D1 ++ t) c s Q := by
  obtain ⟨d1, d2, d3, d4⟩ := hda
  have ht9 : t.length ≤ 900000 := by omega
  have hc0 : c ≤ mc := by omega
  have hs0 : s ≤ ms := by omega
  have k1 : D1.1 0 7 = 1 := by rw [d3.2.1 0 (Or.inl rfl)]; exact hk
  refine x_sto (lc' := [.ref 1000002, .ref 0, .int 1, .int (Int32.ofNat i), .int x, .int y, .long h0, am_dead, .int v8, .int (Int32.ofNat r), am_dead, am_dead, am_dead]) (st' := []) r287_119 rfl rfl rfl rfl ?_
  refine x_ld (v := .int 1) r287_120 rfl rfl rfl ?_
  refine x_ifeqF r287_121 (show ¬ (1 : Int32) = 0 by decide) rfl ?_
  refine x_ld (v := .int x) r287_124 rfl rfl rfl ?_
  refine x_bi (v := 8) r287_126 rfl rfl ?_
  refine x_ar r287_128 rfl trivial rfl ?_
  refine x_ic (v := 3) r287_129 rfl rfl ?_
  refine x_ar r287_130 rfl trivial rfl ?_
  by_cases c1 : (x >>> (8 &&& 31)) &&& 3 = 0
  · refine x_ifneT r287_131 c1 rfl ?_
    obtain ⟨h1, l1, l2⟩ := a_looks hN d2
    obtain ⟨q, E, u1, u2, u3, u4, u5, u6⟩ := u_undo hI.2.1 d2 d3
    obtain ⟨hD, lD, lE⟩ := a_looks hN hI
    obtain rfl : hD = h0 := by
      rw [hl] at lD
      cases lD
      rfl
    have kE : E.1 0 7 = 1 := by rw [u5 0 (by omega)]; exact hk
    obtain ⟨r2, D2, f1, f5⟩ := a_act hN u4 kE x y
    obtain ⟨f1, f2, f3, -⟩ := f1
    obtain ⟨E', g1, g2⟩ := d4 E u4 u5
    have f1' : m292 N E x y = some (Int32.ofNat r2, D2) := f1
    have g1' : m292 N E x y = some (Int32.ofNat r, E') := g1
    rw [g1'] at f1'
    obtain ⟨er, rfl⟩ : Int32.ofNat r = Int32.ofNat r2 ∧ E' = D2 := by
      have := Option.some.inj f1'
      exact ⟨congrArg (·.1) this, congrArg (·.2) this⟩
    have l3 := l2 E' g2
    have k2 : E'.1 0 7 = 1 := by rw [f3.2.1 0 (Or.inl rfl)]; exact kE
    refine x_ld (v := .ref 0) r287_134 rfl rfl rfl ?_
    refine x_lcd (as := [.ref 0]) (rest := []) (d0 := 16) (by omega) r287_135 rfl rfl rfl (by decide) (by decide) ht9 hc0 hs0 (m290_ok l1) rfl ?_
    refine x_sto (lc' := [.ref 1000002, .ref 0, .int 1, .int (Int32.ofNat i), .int x, .int y, .long hD, am_dead, .int v8, .int (Int32.ofNat r), .long h1, am_dead, am_dead]) (st' := []) r287_138 rfl rfl rfl rfl ?_
    refine x_ld (v := .ref 0) r287_140 rfl rfl rfl ?_
    refine x_bi (v := 18) r287_141 rfl rfl ?_
    refine x_lcd (as := [.ref 0, .int 18]) (rest := []) (d0 := 5) (by omega) r287_143 rfl rfl rfl (by decide) (by decide) ht9 hc0 hs0 (m22_okv (N := 2000) (w22_18 D1) (w_inl _)) rfl ?_
    refine x_ic (v := 1) r287_146 rfl rfl ?_
    refine x_ar r287_147 rfl trivial rfl ?_
    have e18 : D1.1 23 2 - 1 = Int32.ofNat q := by rw [u2]; exact q_sub (a := q + 1) (b := 1) (by omega)
    rw [e18]
    refine x_sto (lc' := [.ref 1000002, .ref 0, .int 1, .int (Int32.ofNat i), .int x, .int y, .long hD, am_dead, .int v8, .int (Int32.ofNat r), .long h1, am_dead, .int (Int32.ofNat q)]) (st' := []) r287_148 rfl rfl rfl rfl ?_
    refine x_ld (v := .ref 0) r287_150 rfl rfl rfl ?_
    refine x_lcd (as := [.ref 0]) (rest := []) (d0 := 5) (by omega) r287_151 rfl rfl rfl (by decide) (by decide) ht9 hc0 hs0 (n17_okv u1 (w_inl _)) rfl ?_
    refine x_ld (v := .int (Int32.ofNat q)) r287_154 rfl rfl rfl ?_
    refine x_icneT r287_156 rfl rfl ?_
    refine x_ld (v := .ref 0) r287_159 rfl rfl rfl ?_
    refine x_lcd (as := [.ref 0]) (rest := []) (d0 := 16) (by omega) r287_160 rfl rfl rfl (by decide) (by decide) ht9 hc0 hs0 (m290_ok (lE E u5)) rfl ?_
    refine x_ld (v := .long hD) r287_163 rfl rfl rfl ?_
    refine x_ar r287_165 rfl trivial rfl ?_
    refine x_ifneT r287_166 (lg_self hD) rfl ?_
    refine x_ld (v := .ref 0) r287_169 rfl rfl rfl ?_
    refine x_ld (v := .int x) r287_170 rfl rfl rfl ?_
    refine x_ld (v := .int y) r287_172 rfl rfl rfl ?_
    refine x_lcd (as := [.ref 0, .int x, .int y]) (rest := []) (d0 := 16) (by omega) r287_174 rfl rfl rfl (by decide) (by decide) ht9 hc0 hs0 (m292_ok g1') rfl ?_
    refine x_ld (v := .int (Int32.ofNat r)) r287_177 rfl rfl rfl ?_
    refine x_icneT r287_179 rfl rfl ?_
    refine x_ld (v := .ref 0) r287_182 rfl rfl rfl ?_
    refine x_lcd (as := [.ref 0]) (rest := []) (d0 := 16) (by omega) r287_183 rfl rfl rfl (by decide) (by decide) ht9 hc0 hs0 (m290_ok l3) rfl ?_
    refine x_ld (v := .long h1) r287_186 rfl rfl rfl ?_
    refine x_ar r287_188 rfl trivial rfl ?_
    refine x_ifneT r287_189 (lg_self h1) rfl ?_
    refine x_ic (v := 1) r287_192 rfl rfl ?_
    refine x_goto r287_193 ?_
    refine x_sto (lc' := [.ref 1000002, .ref 0, .int 1, .int (Int32.ofNat i), .int x, .int y, .long hD, am_dead, .int v8, .int (Int32.ofNat r), .long h1, am_dead, .int (Int32.ofNat q)]) (st' := []) r287_197 rfl rfl rfl rfl ?_
    refine x_forget (lc0 := lcK i x y) ⟨Or.inl rfl, Or.inl rfl, Or.inl rfl, Or.inl rfl, Or.inl rfl, Or.inl rfl, Or.inr ⟨rfl, rfl⟩, Or.inl rfl, Or.inr ⟨rfl, rfl⟩, Or.inr ⟨rfl, rfl⟩, Or.inr ⟨rfl, rfl⟩, Or.inl rfl, Or.inr ⟨rfl, rfl⟩, trivial⟩ ?_
    exact law_C hN hd f2 k2 ht hT hc hs x y nx
  · refine x_ifneF r287_131 c1 ?_
    refine x_forget (lc0 := lcK i x y) ⟨Or.inl rfl, Or.inl rfl, Or.inl rfl, Or.inl rfl, Or.inl rfl, Or.inl rfl, Or.inr ⟨rfl, rfl⟩, Or.inl rfl, Or.inr ⟨rfl, rfl⟩, Or.inr ⟨rfl, rfl⟩, Or.inl rfl, Or.inl rfl, Or.inl rfl, trivial⟩ ?_
    exact law_C hN hd d2 k1 ht hT hc hs x y nx
/-- a turn: two numbers, a deed, what it is -/
theorem law_A (hL : L ≤ 2560) (hN : 2000 ≤ N) (hd : 57 ≤ d) (hI : u_I D) (hk : D.1 0 7 = 1) (ht : t.length ≤ 800000) (hT : z_is t) (hc : c + 2 ≤ mc) (hs : s + 12 ≤ ms) {i : Nat} (hi : i < 84) (nx : ∀ D' t', u_I D' → D'.1 0 7 = 1 → z_is t' → t'.length = t.length + 2 → am_X xs L 287 d mc ms 30 (lc0 (i + 1)) [] (am_mk D' ++ t') (c + 2) (s + 12) Q) : am_X xs L 287 d mc ms 30 (lc0 i) [] (am_mk D ++ t) c s Q := by
  have ht9 : t.length ≤ 900000 := by omega
  have hc0 : c ≤ mc := by omega
  have hs0 : s ≤ ms := by omega
  have e2 : (2 : Int32) * Int32.ofNat i = Int32.ofNat (2 * i) := q_mul 2 i
  have e3 : Int32.ofNat (2 * i) + 1 = Int32.ofNat (2 * i + 1) := q_add (2 * i) 1
  obtain ⟨h0, l1, -⟩ := a_looks hN hI
  obtain ⟨r, D1, hda, hr⟩ := a_act hN hI hk (v_cell xs L (2 * i)) (v_cell xs L (2 * i + 1))
  obtain ⟨m, hm, m1, m2⟩ := u_sv_18 hda.2.2.1
  have hact : m292 N D (v_cell xs L (2 * i)) (v_cell xs L (2 * i + 1)) = some (Int32.ofNat r, D1) := hda.1
  refine x_ld (v := .int (Int32.ofNat i)) r287_30 rfl rfl rfl ?_
  refine x_bi (v := Int32.ofNat 84) r287_31 rfl rfl ?_
  refine x_icgeF r287_33 (q_nle (by omega) hi) rfl ?_
  refine x_ld (v := .int 1) r287_36 rfl rfl rfl ?_
  refine x_ifeqF r287_37 (show ¬ (1 : Int32) = 0 by decide) rfl ?_
  refine x_ld (v := .ref 1000002) r287_40 rfl rfl rfl ?_
  refine x_ic (v := 2) r287_41 rfl rfl ?_
  refine x_ld (v := .int (Int32.ofNat i)) r287_42 rfl rfl rfl ?_
  refine x_ar r287_43 rfl trivial rfl ?_
  rw [e2]
  refine x_lcd (as := [.ref 1000002, .int (Int32.ofNat (2 * i))]) (rest := []) (d0 := 3) (by omega) r287_44 rfl rfl rfl (by decide) (by decide) ht9 hc0 hs0 (m288_ok hL (by omega)) rfl ?_
  generalize v_cell xs L (2 * i) = x at *
  refine x_sto (lc' := [.ref 1000002, .ref 0, .int 1, .int (Int32.ofNat i), .int x, am_dead, am_dead, am_dead, am_dead, am_dead, am_dead, am_dead, am_dead]) (st' := []) r287_47 rfl rfl rfl rfl ?_
  refine x_ld (v := .ref 1000002) r287_49 rfl rfl rfl ?_
  refine x_ic (v := 2) r287_50 rfl rfl ?_
  refine x_ld (v := .int (Int32.ofNat i)) r287_51 rfl rfl rfl ?_
  refine x_ar r287_52 rfl trivial rfl ?_
  rw [e2]
  refine x_ic (v := 1) r287_53 rfl rfl ?_
  refine x_ar r287_54 rfl trivial rfl ?_
  rw [e3]
  refine x_lcd (as := [.ref 1000002, .int (Int32.ofNat (2 * i + 1))]) (rest := []) (d0 := 3) (by omega) r287_55 rfl rfl rfl (by decide) (by decide) ht9 hc0 hs0 (m288_ok hL (by omega)) rfl ?_
  generalize v_cell xs L (2 * i + 1) = y at *
  refine x_sto (lc' := [.ref 1000002, .ref 0, .int 1, .int (Int32.ofNat i), .int x, .int y, am_dead, am_dead, am_dead, am_dead, am_dead, am_dead, am_dead]) (st' := []) r287_58 rfl rfl rfl rfl ?_
  refine x_ld (v := .ref 0) r287_60 rfl rfl rfl ?_
  refine x_lcd (as := [.ref 0]) (rest := []) (d0 := 16) (by omega) r287_61 rfl rfl rfl (by decide) (by decide) ht9 hc0 hs0 (m290_ok l1) rfl ?_
  refine x_sto (lc' := [.ref 1000002, .ref 0, .int 1, .int (Int32.ofNat i), .int x, .int y, .long h0, am_dead, am_dead, am_dead, am_dead, am_dead, am_dead]) (st' := []) r287_64 rfl rfl rfl rfl ?_
  refine x_ld (v := .ref 0) r287_66 rfl rfl rfl ?_
  refine x_bi (v := 18) r287_67 rfl rfl ?_
  refine x_lcd (as := [.ref 0, .int 18]) (rest := []) (d0 := 5) (by omega) r287_69 rfl rfl rfl (by decide) (by decide) ht9 hc0 hs0 (m22_okv (N := 2000) (w22_18 D) (w_inl _)) rfl ?_
  refine x_sto (lc' := [.ref 1000002, .ref 0, .int 1, .int (Int32.ofNat i), .int x, .int y, .long h0, am_dead, .int (D.1 23 2), am_dead, am_dead, am_dead, am_dead]) (st' := []) r287_72 rfl rfl rfl rfl ?_
  refine x_ld (v := .ref 0) r287_74 rfl rfl rfl ?_
  refine x_ld (v := .int x) r287_75 rfl rfl rfl ?_
  refine x_ld (v := .int y) r287_77 rfl rfl rfl ?_
  refine x_lcd (as := [.ref 0, .int x, .int y]) (rest := []) (d0 := 16) (by omega) r287_79 rfl rfl rfl (by decide) (by decide) ht9 hc0 hs0 (m292_ok hact) rfl ?_
  refine x_sto (lc' := [.ref 1000002, .ref 0, .int 1, .int (Int32.ofNat i), .int x, .int y, .long h0, am_dead, .int (D.1 23 2), .int (Int32.ofNat r), am_dead, am_dead, am_dead]) (st' := []) r287_82 rfl rfl rfl rfl ?_
  refine x_ld (v := .int (Int32.ofNat r)) r287_84 rfl rfl rfl ?_
  refine x_ifltF r287_86 (show ¬ Int32.ofNat r < 0 from q_nlt (a := 0) (by omega) (by omega)) rfl ?_
  refine x_ld (v := .ref 0) r287_89 rfl rfl rfl ?_
  refine x_bi (v := 18) r287_90 rfl rfl ?_
  refine x_lcd (as := [.ref 0, .int 18]) (rest := []) (d0 := 5) (by omega) r287_92 rfl rfl rfl (by decide) (by decide) ht9 hc0 hs0 (m22_okv (N := 2000) (w22_18 D1) (w_inl _)) rfl ?_
  refine x_ld (v := .int (D.1 23 2)) r287_95 rfl rfl rfl ?_
  refine x_bi (v := Int32.ofNat 6) r287_97 rfl rfl ?_
  have go : am_X xs L 287 d mc ms 111 [.ref 1000002, .ref 0, .int 1, .int (Int32.ofNat i), .int x, .int y, .long h0, am_dead, .int (D.1 23 2), .int (Int32.ofNat r), am_dead, am_dead, am_dead] [.int (Int32.ofNat (if m < 6 then m + 1 else 6)), .int (D1.1 23 2)] (am_mk D1 ++ t) c s Q := by
    refine x_icneT r287_111 m2 rfl ?_
    refine x_ic (v := 1) r287_114 rfl rfl ?_
    refine x_goto r287_115 ?_
    exact law_B hN hd hI hk l1 ht hT hc hs x y (D.1 23 2) hda nx
  by_cases c6 : m < 6
  · refine x_icgeF r287_99 (by rw [m1]; exact q_nle (by omega) c6) rfl ?_
    refine x_ld (v := .int (D.1 23 2)) r287_102 rfl rfl rfl ?_
    refine x_ic (v := 1) r287_104 rfl rfl ?_
    refine x_ar r287_105 rfl trivial rfl ?_
    refine x_goto r287_106 ?_
    rw [if_pos c6] at go
    rw [show D.1 23 2 + 1 = Int32.ofNat (m + 1) by rw [m1]; exact q_add m 1]
    exact go
  · refine x_icgeT r287_99 (by rw [m1]; exact q_yle (by omega) (by omega)) ?_
    refine x_bi (v := Int32.ofNat 6) r287_109 rfl rfl ?_
    rw [if_neg c6] at go
    exact go
theorem law_loop (hL : L ≤ 2560) (hN : 2000 ≤ N) (hd : 57 ≤ d) (hQ : ∀ h, Q (.inl (some (.int 1))) h) : ∀ (n i : Nat) (D : am_D) (t : am_AH) (c s : Nat), i + n = 84 → u_I D → D.1 0 7 = 1 → z_is t → t.length ≤ 2 * (i + 1) → c + 2 * n ≤ mc → s + 12 * n ≤ ms → am_X xs L 287 d mc ms 30 (lc0 i) [] (am_mk D ++ t) c s Q := by
  intro n
  induction n with
  | zero =>
    intro i D t c s hi hI hk hT ht hc hs
    obtain rfl : i = 84 := by omega
    refine x_ld (v := .int (Int32.ofNat 84)) r287_30 rfl rfl rfl ?_
    refine x_bi (v := Int32.ofNat 84) r287_31 rfl rfl ?_
    refine x_icgeT r287_33 (by decide) ?_
    refine x_ld (v := .int 1) r287_293 rfl rfl rfl ?_
    exact x_ret (ret := ret) (C := narrow .boolean (.int 1) = .int 1) (v := some (.int 1)) r287_294 rt287 rfl rfl rfl rfl rfl rfl rfl rfl rfl (hQ _)
  | succ n ih =>
    intro i D t c s hi hI hk hT ht hc hs
    exact law_A hL hN hd hI hk (by omega) hT (by omega) (by omega) (by omega) (fun D' t' h1 h2 h3 h4 => ih (i + 1) D' t' (c + 2) (s + 12) (by omega) h1 h2 h3 (by omega) (by omega) (by omega))
end XC
