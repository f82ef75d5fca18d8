/-! holds: the hands, the whole -/
section UM
variable {D E F M G : am_D} {N : Nat} {n p : Nat} {T V : Nat → Nat}
theorem u_top {H : Nat → Nat} {k l : Nat} (hk : k ≤ 7) (hH : 0 < k → H 0 < 28) (h : q_top H k l) : l ≤ k ∧ (0 < k → 0 < l) := by
  obtain ⟨p1, p2, p3, -⟩ := q_bb6 k (by omega)
  obtain ⟨⟨v, L, z, h1, h2, h3⟩, h4⟩ := h
  constructor
  · have := q_run_le p1 h2
    omega
  · intro k0
    have l7 := q_lo7 _ (hH k0)
    have hs : q_step H (q_lo (H 0), 2 ^ k - 1) 0 = some (q_pip (H 0) - q_lo (H 0), 2 ^ k - 1 - 2 ^ 0) := q_step_some.mpr ⟨by omega, by show (2 ^ k - 1).testBit 0 = true; rw [p3 0 (by omega)]; exact decide_eq_true k0, Or.inl rfl, rfl⟩
    have := h4 (q_lo (H 0)) [0] _ l7 (q_run_cons.mpr ⟨_, hs, rfl⟩)
    exact this
theorem u_long (hN : 2000 ≤ N) (hK : q_K D n p T V) {x : Nat} (hx : x < 4) : ∃ l E, m21 N D (Int32.ofNat x) 9 = some (Sum.inl (Int32.ofNat l), E) ∧ l ≤ q_cnt (q_P D) (Int32.ofNat x) ∧ (0 < q_cnt (q_P D) (Int32.ofNat x) → 0 < l) ∧ (∀ b, b ≠ 104 → b ≠ 105 → E.1 b = D.1 b) ∧ E.2 = D.2 := by
  have h7 := k_h7 hK x hx
  obtain ⟨l, E, e1, e2, e3, e4⟩ := q258 hN (f := q_P D) (v := Int32.ofNat x) (k_pl hK) h7
  have hlen : (q_hl (q_P D) (Int32.ofNat x) 0 28).length = q_cnt (q_P D) (Int32.ofNat x) := by rw [q_cnt_def]; exact q_hl_len 28 0
  obtain ⟨t1, t2⟩ := u_top h7 (fun k0 => by
    have := q_hl_lt (f := q_P D) (v := Int32.ofNat x) 28 0 0 (by omega)
    omega) e2
  refine ⟨l, E, ?_, t1, t2, e3, e4⟩
  have := w21_9 (N := N) D (Int32.ofNat x)
  rw [if_neg (q_m40 hx), e1, Option.bind_some] at this
  exact this
theorem u_kr_id {E D : am_D} (h1 : E.1 200 = D.1 200) (h2 : E.1 201 = D.1 201) : u_kr E D = E := by
  refine Prod.ext (funext fun a => ?_) rfl
  show (if a = 200 then D.1 200 else if a = 201 then D.1 201 else E.1 a) = E.1 a
  by_cases c : a = 200
  · rw [if_pos c, c]; exact h1.symm
  · rw [if_neg c]
    by_cases d : a = 201
    · rw [if_pos d, d]; exact h2.symm
    · rw [if_neg d]
theorem u293_622 (hN : 2000 ≤ N) (hI : u_I D) (hK : q_K D n p T V) {v3 v4 : Int32} : ∀ (k i m : Nat) (G : am_D), i + k = 4 → k < m → q_E D G → u_rw (q_P D) 28 G → ∃ G', m293_L622 N v3 v4 m G 1 (Int32.ofNat i) = some (1, G') ∧ q_E D G' ∧ G'.1 200 = G.1 200 ∧ G'.1 201 = G.1 201
  | 0, i, m + 1, G, hi, hm, hE, hr => by
    obtain rfl : i = 4 := by omega
    rw [m293_L622, if_pos (by decide)]
    exact ⟨G, rfl, hE, rfl, rfl⟩
  | k + 1, i, m + 1, G, hi, hm, hE, hr => by
    have hi4 : i < 4 := by omega
    have hKG := q_E_K hE hK
    have hPG := q_E_P hE
    obtain ⟨l, H, a9, t1, t2, t3, t4⟩ := u_long hN hKG hi4
    rw [hPG] at t1 t2
    have hEH : q_E G H := ⟨fun a ha => t3 a (by omega) (by omega), by rw [t3 106 (by omega) (by omega)]; exact ⟨rfl, rfl, rfl⟩, by rw [t4]⟩
    have hEH' := hE.tr hEH
    have hk : u_kr H G = H := u_kr_id (t3 200 (by omega) (by omega)) (t3 201 (by omega) (by omega))
    have hKH := q_E_K hEH' hK
    have r1 : H.1 201 i = Int32.ofNat (q_cnt (q_P D) (Int32.ofNat i)) := by rw [t3 201 (by omega) (by omega), (hr i (by omega)).1, q_cnt_def]
    have r2 : H.1 200 i = Int32.ofNat (q_pips (q_P D) (Int32.ofNat i)) := by rw [t3 200 (by omega) (by omega), (hr i (by omega)).2, q_pips_def]
    have h7 := k_h7 hK i hi4
    obtain ⟨tm, htm, htm'⟩ := k_tw hK i hi4
    have b0 : m21 N H (Int32.ofNat i) 0 = some (Sum.inl (Int32.ofNat (q_cnt (q_P D) (Int32.ofNat i))), H) := by
      rw [w21c hN H hi4, q_cnt_congr (g := q_P D) (fun t ht => by rw [k_pl hKH t ht, q_E_P hEH'])]
    have b1 : m21 N H (Int32.ofNat i) 1 = some (Sum.inl (Int32.ofNat (q_pips (q_P D) (Int32.ofNat i))), H) := by
      have := w21_1 (N := N) H (Int32.ofNat i)
      rw [if_neg (q_m40 hi4), q205 hN, Option.bind_some, q_pips_congr (g := q_P D) (fun t ht => by rw [k_pl hKH t ht, q_E_P hEH'])] at this
      exact this
    have b2 : m21 N H (Int32.ofNat i) 2 = some (Sum.inl (Int32.ofNat tm), H) := by
      rw [w21t H hi4, hEH'.1 8 (by omega), k_ti hK i hi4, htm']
    have i6 : (0 : Int32) ≤ Int32.ofNat i ∧ Int32.ofNat i < 6 := q_in (n := 6) (by omega) (by omega)
    have i7 : (Int32.ofNat i).toNatClampNeg = i := q_tn (by omega)
    have c1 : (if Int32.ofNat l ≤ 0 then (0 : Int32) else (1 : Int32)) = (if Int32.ofNat (q_cnt (q_P D) (Int32.ofNat i)) ≤ 0 then (0 : Int32) else (1 : Int32)) := by
      by_cases c : 0 < q_cnt (q_P D) (Int32.ofNat i)
      · rw [if_neg (show ¬ Int32.ofNat l ≤ 0 from q_nle (a := 0) (by omega) (t2 c)), if_neg (show ¬ Int32.ofNat (q_cnt (q_P D) (Int32.ofNat i)) ≤ 0 from q_nle (a := 0) (by omega) c)]
      · rw [show l = 0 by omega, show q_cnt (q_P D) (Int32.ofNat i) = 0 by omega]
    rw [m293_L622, if_neg (show ¬ (4 : Int32) ≤ Int32.ofNat i from q_nle (b := 4) (by omega) hi4), a9, Option.bind_some, w_inl, Option.bind_some, if_neg (show ¬ (1 : Int32) = 0 by decide)]
    dsimp only
    rw [hk, b0, Option.bind_some, w_inl, Option.bind_some, if_pos i6, i7]
    dsimp only
    rw [u_kr_self, r1, if_pos rfl, if_pos i6, if_neg (show ¬ (7 : Int32) < Int32.ofNat (q_cnt (q_P D) (Int32.ofNat i)) from q_nlt (b := 7) (by omega) (by omega)), b1, Option.bind_some, w_inl, Option.bind_some, if_pos i6]
    dsimp only
    rw [u_kr_self, r2, if_pos rfl, if_pos i6, r1, if_neg (q_nlt (by omega) t1), w_lt, if_pos i6, w_lt, c1, if_pos rfl, b2, Option.bind_some, w_inl, Option.bind_some, if_neg (show ¬ Int32.ofNat tm < 0 from q_nlt (a := 0) (by omega) (by omega))]
    dsimp only
    rw [u_kr_self, b2, Option.bind_some, w_inl, Option.bind_some, if_neg (show ¬ (60 : Int32) < Int32.ofNat tm from q_nlt (b := 60) (by omega) htm)]
    dsimp only
    rw [u_kr_self, Option.bind_some, w_lt, show Int32.ofNat i + 1 = Int32.ofNat (i + 1) from q_add i 1]
    have hrH : u_rw (q_P D) 28 H := fun w hw => by rw [t3 200 (by omega) (by omega), t3 201 (by omega) (by omega)]; exact hr w hw
    obtain ⟨G', g1, g2, g3, g4⟩ := u293_622 hN hI hK k (i + 1) m H (by omega) (by omega) hEH' hrH
    exact ⟨G', g1, g2, g3.trans (t3 200 (by omega) (by omega)), g4.trans (t3 201 (by omega) (by omega))⟩
  | _, _, 0, _, _, hm, _, _ => by omega
theorem u_mnc : ∀ a, a < 169 → ∀ b, b < 29 → Op.cmpValue (FP.fcmp (q_mn a b) (q_mn a b)) .l = 0 := by decide +kernel
theorem u_n4 (hK : q_K D n p T V) : q_cnt (q_P D) (Int32.ofNat 4) = n := by
  have e1 := q_im_S (ts := T) (fun _ => 1) n (fun i hi => (k_k hK i hi).1) (fun i j hi hj e => k_inj hK i j hi hj e)
  rw [q_S_const, Nat.mul_one] at e1
  rw [q_cnt_def]
  refine Eq.trans ?_ e1.symm
  refine q_S_congr 28 0 fun t _ ht => ?_
  by_cases c : q_P D t = Int32.ofNat 4
  · rw [if_pos c, if_pos ((q_im_iff n t).mpr ((k_in hK t (by omega)).mp c))]
  · rw [if_neg c, if_neg (fun q => c ((k_in hK t (by omega)).mpr ((q_im_iff n t).mp q)))]
theorem u_hp_S {f : Nat → Int32} (h : ∀ t, t < 28 → ∃ w, w < 6 ∧ f t = Int32.ofNat w) : q_S (q_hp f) 0 28 = q_all (q_pips f) := by
  rw [← q_hsum h]
  refine q_S_congr 28 0 fun t _ ht => ?_
  obtain ⟨w, hw, e⟩ := h t (by omega)
  unfold q_hp
  rw [e, q_tn (by omega)]
  rcases q40 (Int32.ofNat w) with ⟨i, hi, ei, -, e1⟩ | ⟨e1, e2⟩
  · have hw4 : w < 4 := by rw [q_ofN (a := w) (b := i) (by omega) (by omega) ei]; exact hi
    rw [e1, if_pos hw4, if_neg (show ¬ (1 : Int32) = 0 by decide)]
  · have hw4 : ¬ w < 4 := fun q => q_m40 q e1
    rw [e2, if_pos (show (0 : Int32) = 0 from rfl), if_neg hw4]
theorem a_holds (hN : 2000 ≤ N) (hI : u_I D) (hr : u_rw (q_P D) 0 D) : ∃ E, m293 N D = some (1, E) ∧ q_E D E := by
  obtain ⟨n, p, T, V, hK, hX⟩ := u_K hI
  obtain ⟨M, hM1, hM2⟩ := hX.2.1
  obtain ⟨G, e1, hE, hrG⟩ := u293_24 hN hI hK hX 28 0 N D (by omega) (by omega) (q_E.rf D) hr
  have e1' : m293_L24 N 0 N D 0 0 1 0 = some (Int32.ofNat (q_S (q_hp (q_P D)) 0 28), Int32.ofNat (q_S (q_ih (q_P D)) 0 28), 1, G) := e1
  have hKG := q_E_K hE hK
  have hPG := q_E_P hE
  have hXG : u_X (q_c G 1) n p T V := by
    have ec := q_E_c hE (b := 1) (by omega)
    exact u_X_cg hX (fun k _ => by rw [ec 4 (by omega)]) (fun k _ => by rw [ec 5 (by omega)]) (fun k _ => by rw [ec 6 (by omega)]) (fun k _ => by rw [ec 8 (by omega)])
  have hMG : ∀ k, k < n → q_c G 1 5 k = Int32.ofNat (M k) ∧ 1 ≤ M k ∧ M k ≤ n := fun k hk => by
    rw [q_E_c hE (b := 1) (by omega) 5 (by omega)]; exact hM1 k hk
  have hIG := u_E_I hE hI
  have h28 := k_n28 hK
  have sum := u_perm h28 (fun k hk => (hM1 k hk).2) hM2
  have nb4 : G.1 201 4 = Int32.ofNat n := by rw [(hrG 4 (by omega)).1, ← q_cnt_def, u_n4 hK]
  have nb5 : G.1 201 5 = Int32.ofNat (q_cnt (q_P D) (Int32.ofNat 5)) := by rw [(hrG 5 (by omega)).1, ← q_cnt_def]
  have n3 : m22 N G 3 = some (Sum.inl (Int32.ofNat n)) := by rw [w22_3, k_n' hKG]
  have n14 : m22 N G 14 = some (Sum.inl (Int32.ofNat (q_cnt (q_P D) (Int32.ofNat 5)))) := by
    rw [w22_14, q204 hN, Option.bind_some, q_cnt_congr (g := q_P D) (fun t ht => by rw [k_pl hKG t ht, hPG])]
    rfl
  obtain ⟨L, hL⟩ : ∃ L, L = q_S (q_hp (q_P D)) 0 28 := ⟨_, rfl⟩
  obtain ⟨C, hC⟩ : ∃ C, C = q_S (q_ih (q_P D)) 0 28 := ⟨_, rfl⟩
  have hL' : L = q_all (q_pips (q_P D)) := by rw [hL]; exact u_hp_S (k_pw hK)
  have hC' : C = q_all (q_cnt (q_P D)) := by rw [hC]; exact q_ih_S (k_pw hK)
  have e2 := u293_368 hN hKG hXG (v3 := Int32.ofNat L) (v4 := Int32.ofNat C) hMG n 0 N (by omega) (by omega)
  have e2' : m293_L368 N G (Int32.ofNat L) (Int32.ofNat C) N 0 1 0 = some (Int32.ofNat (q_S (fun j => 2 ^ (M j)) 0 n), 1) := e2
  rw [← hL, ← hC] at e1'
  have p1 : ((1 : Int32) <<< ((Int32.ofNat n + 1) &&& 31)) - (2 : Int32) = Int32.ofNat (q_S (fun j => 2 ^ (M j)) 0 n) := by
    rw [show Int32.ofNat n + 1 = Int32.ofNat (n + 1) from q_add n 1, u_shl _ (by omega), ← sum, show Int32.ofNat (q_S (fun k => 2 ^ M k) 0 n + 2) - (2 : Int32) = Int32.ofNat (q_S (fun k => 2 ^ M k) 0 n + 2 - 2) from q_sub (b := 2) (by omega), Nat.add_sub_cancel]
  obtain ⟨H, e3, hEH, hr0, hr1⟩ := u293_622 hN hI hK (v3 := Int32.ofNat L) (v4 := Int32.ofNat C) 4 0 N G (by omega) (by omega) hE hrG
  have e3' : m293_L622 N (Int32.ofNat L) (Int32.ofNat C) N G 1 0 = some (1, H) := e3
  have hKH := q_E_K hEH hK
  have hp3 := k_p3 hK
  have hpH := k_p' hKH
  obtain ⟨u, hu, hu1, hu2⟩ := k_tu hKH
  obtain ⟨r, hr4, hr3, hrr⟩ := k_row hKH
  have hcle : C ≤ 28 := by
    have := q_part (k_pw hK)
    omega
  have hlle : L ≤ 168 := by rw [hL']; exact q_a168 (k_pw hK)
  -- the ends
  have ends : (if (1 : Int32) = 0 then (some (0 : Int32)) else (if Int32.ofNat (q_S (fun j => 2 ^ (M j)) 0 n) = (((1 : Int32) <<< ((Int32.ofNat n + (1 : Int32)) &&& 31)) - (2 : Int32)) then (if Int32.ofNat n = (G.1 201 4) then ((m22 N G (14 : Int32)).bind fun q303 => ((am_inl q303).bind fun x305 => (if x305 = (G.1 201 5) then (if Int32.ofNat n = 0 then (some (1 : Int32)) else ((m22 N G (4 : Int32)).bind fun q309 => ((am_inl q309).bind fun x311 => (am_lt (m20 G (0 : Int32) (1 : Int32)) fun q313 => ((am_inl q313).bind fun x315 => (if x311 = x315 then ((m22 N G (5 : Int32)).bind fun q318 => ((am_inl q318).bind fun x320 => (am_lt (m20 G (Int32.ofNat n - (1 : Int32)) (2 : Int32)) fun q322 => ((am_inl q322).bind fun x324 => (if x320 = x324 then (some (1 : Int32)) else (some (0 : Int32))))))) else (some (0 : Int32)))))))) else (some (0 : Int32))))) else (some (0 : Int32))) else (some (0 : Int32)))) = some (1 : Int32) := by
    rw [if_neg (show ¬ (1 : Int32) = 0 by decide), p1, if_pos rfl, nb4, if_pos rfl, n14, Option.bind_some, w_inl, Option.bind_some, nb5, if_pos rfl]
    by_cases c : n = 0
    · rw [if_pos (show Int32.ofNat n = 0 by rw [c]; rfl)]
    · have hn0 : 0 < n := by omega
      have b1 : m20 G 0 1 = Sum.inl (Int32.ofNat (V 0)) := q20 hKG (k := 0) (w := 1) hn0 (by omega)
      have b2 : m20 G (Int32.ofNat (n - 1)) 2 = Sum.inl (Int32.ofNat (q_pip (T (n - 1)) - V (n - 1))) := q20 hKG (k := n - 1) (w := 2) (by omega) (by omega)
      have c4 : m22 N G 4 = some (Sum.inl (Int32.ofNat (V 0))) := by
        rw [w22_4, show m156 G 0 = G.1 2 5 from rfl, k_e0 hKG, if_neg c]
      have c5 : m22 N G 5 = some (Sum.inl (Int32.ofNat (q_pip (T (n - 1)) - V (n - 1)))) := by
        rw [w22_5, show m156 G 1 = G.1 2 6 from rfl, k_e1 hKG, if_neg c]
      rw [if_neg (show ¬ Int32.ofNat n = 0 from fun q => c (q_ofN (a := n) (b := 0) (by omega) (by omega) q)), c4, Option.bind_some, w_inl, Option.bind_some, w_lt, b1, w_inl, Option.bind_some, if_pos rfl, c5, Option.bind_some, w_inl, Option.bind_some, w_lt, show Int32.ofNat n - 1 = Int32.ofNat (n - 1) from q_sub (b := 1) hn0, b2, w_inl, Option.bind_some, if_pos rfl]
  -- whose turn it is
  have turn : (if H.1 1 7 = (-1 : Int32) then (1 : Int32) else (0 : Int32)) = (if H.1 1 6 = (1 : Int32) then (0 : Int32) else (1 : Int32)) := by
    rw [hu2, hpH]
    by_cases c : p = 1
    · rw [if_pos c, c, if_neg (q_nm (by omega)), if_pos (show Int32.ofNat 1 = (1 : Int32) from rfl)]
    · rw [if_neg c, if_pos (show q_nn = (-1 : Int32) from rfl), if_neg (show ¬ Int32.ofNat p = (1 : Int32) from fun q => c (q_ofN (a := p) (b := 1) (by omega) (by omega) q))]
  -- what is told of open hands when too many are held, or out of a round
  have hopen : ¬ (p = 1 ∧ C < 10) → ∃ F, m29 N H 0 = some (Sum.inl (-1), F) ∧ q_E D F ∧ F.1 200 = H.1 200 ∧ F.1 201 = H.1 201 ∧ ∃ F2, m29 N F 1 = some (Sum.inl (-1), F2) ∧ q_E D F2 ∧ F2.1 200 = F.1 200 ∧ F2.1 201 = F.1 201 := fun hc => by
    have on : ∀ (F : am_D) (w : Nat), q_E D F → q_on 44 F n p T V u r w = -1 := fun F w hF => by
      unfold q_on
      rw [if_neg (fun q => hc ⟨q.1, by have := q.2; rw [q_E_P hF, ← hC'] at this; omega⟩)]
    obtain ⟨F, f1, f2⟩ := q29 hN rfl hKH hu hu1 hr3 hrr (w := 0) (by omega)
    rw [on H 0 hEH] at f1
    have hEF : q_E D F := hEH.tr (q_Y3_E f2)
    have hKF := q_E_K hEF hK
    have k107 : F.1 107 = H.1 107 := f2.1 107 (by omega)
    obtain ⟨F2, g1, g2⟩ := q29 hN rfl hKF hu (by rw [k107]; exact hu1) hr3 (by rw [k107]; exact hrr) (w := 1) (by omega)
    rw [on F 1 hEF] at g1
    exact ⟨F, f1, hEF, f2.1 200 (by omega), f2.1 201 (by omega), F2, g1, hEF.tr (q_Y3_E g2), g2.1 200 (by omega), g2.1 201 (by omega)⟩
  -- the mean
  have mean : ∀ F : am_D, q_E D F → m30 N F = some (q_mn L C) := fun F hF => by
    rw [q30 hN (q_E_K hF hK), q_E_P hF, ← hL', ← hC']
  have gmn : (if Int32.ofNat C = 0 then (some FP.fconst0) else (if (FP.fdiv ((FP.i2f (Int32.ofNat L))) ((FP.i2f (Int32.ofNat C)))) &&& 0x7fffffff ≤ 0x7f800000 then (some (FP.fdiv ((FP.i2f (Int32.ofNat L))) ((FP.i2f (Int32.ofNat C))))) else none)) = some (q_mn L C) := q_mn_guard (by omega) (by omega) _ _ rfl rfl
  have cmp := u_mnc L (by omega) C (by omega)
  unfold m293
  rw [e1', Option.bind_some]
  dsimp only
  rw [e2', Option.bind_some, n3, Option.bind_some, w_inl, Option.bind_some]
  dsimp only
  rw [ends, Option.bind_some, e3', Option.bind_some]
  dsimp only
  have z2 : (if (1 : Int32) = 0 then (some (0 : Int32)) else ((m22 N H (15 : Int32)).bind fun q384 => ((am_inl q384).bind fun x386 => (if x386 = 0 then (am_lt (if H.1 1 7 = (-1 : Int32) then (1 : Int32) else (0 : Int32)) fun q389 => ((m22 N H (0 : Int32)).bind fun q393 => ((am_inl q393).bind fun x395 => (am_lt (if x395 = (1 : Int32) then (0 : Int32) else (1 : Int32)) fun q397 => (if q389 = q397 then (some (1 : Int32)) else (some (0 : Int32))))))) else ((m22 N H (2 : Int32)).bind fun q402 => ((am_inl q402).bind fun x404 => (if x404 = H.1 1 7 then (some (0 : Int32)) else ((m22 N H (2 : Int32)).bind fun q407 => ((am_inl q407).bind fun x409 => ((m22 N H (16 : Int32)).bind fun q411 => ((am_inl q411).bind fun x413 => (if x409 = x413 then (some (0 : Int32)) else (am_lt (if H.1 1 7 = (-1 : Int32) then (1 : Int32) else (0 : Int32)) fun q416 => ((m22 N H (0 : Int32)).bind fun q420 => ((am_inl q420).bind fun x422 => (am_lt (if x422 = (1 : Int32) then (0 : Int32) else (1 : Int32)) fun q424 => (if q416 = q424 then (some (1 : Int32)) else (some (0 : Int32))))))))))))))))))) = some (1 : Int32) := by
    rw [if_neg (show ¬ (1 : Int32) = 0 by decide), w22_15, w22_0, w22_2, w22_16]
    by_cases c : m219 H = 0
    · rw [if_pos c, Option.bind_some, w_inl, Option.bind_some, if_pos (show (0 : Int32) = 0 from rfl), w_lt, Option.bind_some, w_inl, Option.bind_some, w_lt, turn, if_pos rfl]
    · have hn : ¬ H.1 1 8 = H.1 1 7 ∧ ¬ H.1 1 8 = H.1 1 9 := by
        unfold m219 at c
        by_cases c1 : H.1 1 6 = 1
        · rw [if_pos c1] at c
          by_cases c2 : H.1 1 8 = H.1 1 7
          · rw [if_pos c2] at c; exact absurd rfl c
          · rw [if_neg c2] at c
            by_cases c3 : H.1 1 8 = H.1 1 9
            · rw [if_pos c3] at c; exact absurd rfl c
            · exact ⟨c2, c3⟩
        · rw [if_neg c1] at c; exact absurd rfl c
      rw [if_neg c, Option.bind_some, w_inl, Option.bind_some, if_neg (show ¬ (1 : Int32) = 0 by decide), Option.bind_some, w_inl, Option.bind_some, if_neg hn.1, Option.bind_some, w_inl, Option.bind_some, Option.bind_some, w_inl, Option.bind_some, if_neg hn.2, w_lt, Option.bind_some, w_inl, Option.bind_some, w_lt, turn, if_pos rfl]
  rw [w22_1, Option.bind_some, w_inl, Option.bind_some, z2, Option.bind_some, if_neg (show ¬ (1 : Int32) = 0 by decide), w22_0, Option.bind_some, w_inl, Option.bind_some, hpH]
  by_cases cp : p = 1
  · rw [cp, if_pos (show Int32.ofNat 1 = (1 : Int32) from rfl)]
    by_cases c10 : C < 10
    · rw [if_pos (show Int32.ofNat C < (10 : Int32) from q_ylt (b := 10) (by omega) c10), mean H hEH, Option.bind_some, gmn, Option.bind_some, cmp, if_pos rfl]
      exact ⟨H, rfl, hEH⟩
    · obtain ⟨F, f1, f2, f3, f4, F2, g1, g2, g3, g4⟩ := hopen (fun q => c10 q.2)
      rw [if_neg (show ¬ Int32.ofNat C < (10 : Int32) from q_nlt (a := 10) (b := C) (by omega) (by omega)), f1, Option.bind_some, w_inl, Option.bind_some, if_pos rfl]
      dsimp only
      rw [u_kr_id f3 f4, g1, Option.bind_some, w_inl, Option.bind_some, if_pos rfl]
      dsimp only
      rw [u_kr_id g3 g4, mean F2 g2, Option.bind_some, gmn, Option.bind_some, cmp, if_pos rfl]
      exact ⟨F2, rfl, g2⟩
  · obtain ⟨F, f1, f2, f3, f4, F2, g1, g2, g3, g4⟩ := hopen (fun q => cp q.1)
    rw [if_neg (show ¬ Int32.ofNat p = (1 : Int32) from fun q => cp (q_ofN (a := p) (b := 1) (by omega) (by omega) q)), f1, Option.bind_some, w_inl, Option.bind_some, if_pos rfl]
    dsimp only
    rw [u_kr_id f3 f4, g1, Option.bind_some, w_inl, Option.bind_some, if_pos rfl]
    dsimp only
    rw [u_kr_id g3 g4, mean F2 g2, Option.bind_some, gmn, Option.bind_some, cmp, if_pos rfl]
    exact ⟨F2, rfl, g2⟩
end UM
