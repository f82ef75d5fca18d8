/-! deeds: begin, gather, pass -/
section UF
variable {D D1 D' E F M : am_D} {N : Nat} {n p : Nat} {T V : Nat → Nat} {c c' : Nat → Nat → Int32}
theorem u_p (hK : q_K D n p T V) {q : Nat} (hq : q < 3) (h : D.1 1 6 = Int32.ofNat q) : p = q := by
  have := k_p' hK
  have h3 := k_p3 hK
  rw [h] at this
  exact (q_ofN (a := q) (b := p) (by omega) (by omega) this).symm
theorem u_can0 (t : Nat) : q_can (0 : Int32).toNatClampNeg t = 1 := by
  show q_can 0 t = 1
  unfold q_can
  simp
theorem a_begin (hN : 2000 ≤ N) (hI : u_I D) {x : Nat} (hx : x < 4) (hp : D.1 1 6 = 0) (h5 : q_cnt (D.1 7) 5 = 0) : ∃ r D', u_dt D (fun G => n3 N G (Int32.ofNat x)) r D' ∧ r ≤ 28 := by
  obtain ⟨n, p, T, V, hK, hX⟩ := u_K hI
  obtain rfl : p = 0 := u_p hK (by omega) hp
  obtain ⟨D1, d1, d2⟩ := u_sav hI
  have p1 := (q_pre_1 d2).1
  have hK1 := q_K_D1 d2 hK
  obtain ⟨x1, ⟨M, x2, x3⟩, x4, x5, x6⟩ := u_X_D1 d2 hX
  have hc5 : q_cnt (q_P D) (Int32.ofNat 5) = 0 := by
    rw [q_cnt_congr (g := D.1 7) (fun t ht => (k_pl hK t ht).symm)]; exact h5
  have c1 := q216 hN hK
  rw [if_pos ⟨rfl, hc5⟩] at c1
  have hP1 : q_P D1 = q_P D := by unfold q_P; rw [p1 107 (by omega)]
  have hb5 : ∀ t, t < 28 → q_s D1 0 (25 + t) ≠ Int32.ofNat 5 := fun t ht => by
    show q_P D1 t ≠ _
    rw [hP1]; exact q_cnt_0.mp hc5 t ht
  obtain ⟨D', hD'⟩ : ∃ D', m217 D1 (Int32.ofNat x) = D' := ⟨_, rfl⟩
  have cD : ∀ a b, 1 ≤ a → a ≤ 11 → D'.1 a b = if a = 1 then (if b = 12 then D1.1 1 12 + 1 else if b = 11 then 0 else if b = 9 then q_nn else if b = 8 then m185 (Int32.ofNat x) else if b = 7 then Int32.ofNat x else if b = 6 then 1 else D1.1 1 b) else if a = 8 then (if b < 4 then D1.1 1 10 else D1.1 8 b) else if a = 9 then (if b < 4 then 0 else D1.1 9 b) else if a = 10 then (if b < 4 then 0 else D1.1 10 b) else D1.1 a b := by
    intro a b h1 h2
    rw [← hD']
    unfold m217
    simp only [am_lt, q_uI_at, q_rf_at]
    obtain rfl | rfl | rfl | rfl | rfl | rfl | rfl | rfl | rfl | rfl | rfl : a = 1 ∨ a = 2 ∨ a = 3 ∨ a = 4 ∨ a = 5 ∨ a = 6 ∨ a = 7 ∨ a = 8 ∨ a = 9 ∨ a = 10 ∨ a = 11 := by omega
    all_goals simp
    rfl
  have hop : u_op D1 D' := by
    rw [← hD']
    unfold m217
    simp only [am_lt]
    exact ⟨fun a ha => by rw [q_uI_ne _ (by omega), q_uI_ne _ (by omega), q_uI_ne _ (by omega), q_uI_ne _ (by omega), q_uI_ne _ (by omega), q_uI_ne _ (by omega), q_rf_ne _ (by omega), q_rf_ne _ (by omega), q_rf_ne _ (by omega)], rfl⟩
  have b3 : q_dbl (D'.1 7) (Int32.ofNat x) = q_dbl (D1.1 7) (Int32.ofNat x) := q_dbl_congr (fun t ht => by rw [cD 7 t (by omega) (by omega)]; simp)
  have hC : u_C (q_c D' 1) := by
    refine u_C_of (s := fun k => if 13 ≤ k ∧ k < 17 then q_s D1 0 3 else if (17 ≤ k ∧ k < 21) ∨ (21 ≤ k ∧ k < 25) then 0 else if k = 8 then q_s D1 0 8 + 1 else if k = 5 then q_nn else if k = 4 then 0 else if k = 2 then Int32.ofNat ((x + 1) % 4) else if k = 1 then Int32.ofNat x else if k = 0 then 1 else q_s D1 0 k) (n := n) (p := 1) (T := T) (V := V) ?_ ?_
    · refine c_beg hK1 hb5 hx (fun i j h1 h2 => ?_) (fun j hj => ?_) (fun j hj => ?_) (fun j hj => ?_) (fun j => ?_) ?_ ?_ ?_ ?_ ?_ ?_ ?_ ?_ ?_ ?_ rfl rfl rfl rfl rfl rfl rfl (fun k hk => ?_) (fun j hj => ?_) (fun j hj => ?_) (fun j hj => ?_)
      · show D'.1 (1 + i) j = D1.1 (1 + i) j
        rw [cD _ _ (by omega) (by omega), if_neg (by omega), if_neg (by omega), if_neg (by omega), if_neg (by omega)]
      · show D'.1 8 j = D1.1 1 10
        rw [cD _ _ (by omega) (by omega)]; simp [hj]
      · show D'.1 9 j = 0
        rw [cD _ _ (by omega) (by omega)]; simp [hj]
      · show D'.1 10 j = 0
        rw [cD _ _ (by omega) (by omega)]; simp [hj]
      · show D'.1 11 j = D1.1 11 j
        rw [cD _ _ (by omega) (by omega)]; simp
      · show D'.1 1 6 = 1
        rw [cD _ _ (by omega) (by omega)]; simp
      · show D'.1 1 7 = _
        rw [cD _ _ (by omega) (by omega)]; simp
      · show D'.1 1 8 = _
        rw [cD _ _ (by omega) (by omega), (q_md4 x hx).1]; simp
      · show D'.1 1 9 = _
        rw [cD _ _ (by omega) (by omega)]; simp
      · show D'.1 1 10 = D1.1 1 10
        rw [cD _ _ (by omega) (by omega)]; simp
      · show D'.1 1 11 = 0
        rw [cD _ _ (by omega) (by omega)]; simp
      · show D'.1 1 12 = D1.1 1 12 + 1
        rw [cD _ _ (by omega) (by omega)]; simp
      · show D'.1 1 13 = D1.1 1 13
        rw [cD _ _ (by omega) (by omega)]; simp
      · show D'.1 1 14 = D1.1 1 14
        rw [cD _ _ (by omega) (by omega)]; simp
      · show D'.1 1 15 = D1.1 1 15
        rw [cD _ _ (by omega) (by omega)]; simp
      · rw [if_neg (by omega), if_neg (by omega), if_neg (by omega), if_neg (by omega), if_neg (by omega), if_neg (by omega), if_neg (by omega), if_neg (by omega)]
      · rw [if_pos (by omega)]
      · rw [if_neg (by omega), if_pos (by omega)]
      · rw [if_neg (by omega), if_pos (by omega)]
    · have e : ∀ i, 1 ≤ i → i ≤ 6 → ∀ j, q_c D' 1 i j = q_c D1 1 i j := fun i h1 h2 j => by
        show D'.1 (1 + i) j = D1.1 (1 + i) j
        rw [cD _ _ (by omega) (by omega), if_neg (by omega), if_neg (by omega), if_neg (by omega), if_neg (by omega)]
      have e8 : ∀ j, j < 4 → q_c D' 1 8 j = 0 := fun j hj => by
        show D'.1 9 j = 0
        rw [cD _ _ (by omega) (by omega)]; simp [hj]
      refine ⟨x1, ⟨M, fun k hk => by rw [e 5 (by omega) (by omega)]; exact x2 k hk, x3⟩, fun k hk => by rw [e 4 (by omega) (by omega)]; exact x4 k hk, fun h t hh ht _ => ?_, fun hp => by omega⟩
      rw [e8 h hh]; exact u_can0 t
  refine ⟨q_dbl (D1.1 7) (Int32.ofNat x), _, u_dt_of hI (F := fun G => m3 N G (Int32.ofNat x)) (T := fun q5 => (am_lt (m217 q5 (Int32.ofNat x)) fun q7 => ((m206 N q7 (Int32.ofNat x)).bind fun q9 => (some ((Sum.inl q9), q7))))) (fun G hG => ?_) (fun D M => ?_) d1 d2 (D' := D') ?_ hop hC (by rw [← hD']; exact oo217 (u_oo.rf _) _), ?_⟩
  · show m3 N G _ = _
    unfold m3
    rw [if_neg (q_m40 hx), show m216 N G = m216 N D by rw [u_hz_eq hG, hz216], c1, Option.bind_some, if_neg (by decide)]
  · exact h_lt (h := fun r => u_hz r M) (hz217 _) fun q7 => h_bi (hz206 _) fun q9 => rfl
  · show am_lt (m217 D1 (Int32.ofNat x)) _ = _
    simp only [am_lt, hD', q206 hN, Option.bind_some, b3]
  · rw [q_dbl_def]
    have := q_S_le (f := fun t => if D1.1 7 t = Int32.ofNat x ∧ q_lo t = q_hi t then 1 else 0) (g := fun _ => 1) 28 0 (fun t _ _ => by split <;> omega)
    rw [q_S_const] at this
    omega
theorem a_gather (hN : 2000 ≤ N) (hI : u_I D) (hp : ¬ D.1 1 6 = 1) : ∃ r D', u_dt D (fun G => n4 N G) r D' ∧ r ≤ 28 := by
  obtain ⟨n, p, T, V, hK, hX⟩ := u_K hI
  have hp1 : p ≠ 1 := fun q => hp (by rw [k_p' hK, q]; rfl)
  obtain ⟨D1, d1, d2⟩ := u_sav hI
  have p1 := (q_pre_1 d2).1
  have hK1 := q_K_D1 d2 hK
  have hle := q_cnt_le (D1.1 7) (Int32.ofNat 5)
  obtain ⟨D', hD'⟩ : ∃ D', D' = am_uI (am_uI (m153 (am_rfill (am_rfill D1 7 28 5) 9 4 0)) 1 6 0) 1 9 (-1) := ⟨_, rfl⟩
  have cD : ∀ a b, 1 ≤ a → a ≤ 11 → D'.1 a b = if a = 1 then (if b = 9 then q_nn else if b = 6 then 0 else D1.1 1 b) else if a = 2 then (if b = 6 then q_nn else if b = 5 then q_nn else if b = 4 then 0 else D1.1 2 b) else if a = 9 then (if b < 4 then 0 else D1.1 9 b) else if a = 7 then (if b < 28 then 5 else D1.1 7 b) else D1.1 a b := by
    intro a b h1 h2
    rw [hD']
    unfold m153
    simp only [am_lt, q_uI_at, q_rf_at]
    obtain rfl | rfl | rfl | rfl | rfl | rfl | rfl | rfl | rfl | rfl | rfl : a = 1 ∨ a = 2 ∨ a = 3 ∨ a = 4 ∨ a = 5 ∨ a = 6 ∨ a = 7 ∨ a = 8 ∨ a = 9 ∨ a = 10 ∨ a = 11 := by omega
    all_goals simp
    all_goals rfl
  have hop : u_op D1 D' := by
    rw [hD']
    unfold m153
    simp only [am_lt]
    exact ⟨fun a ha => by rw [q_uI_ne _ (by omega), q_uI_ne _ (by omega), q_uI_ne _ (by omega), q_uI_ne _ (by omega), q_uI_ne _ (by omega), q_rf_ne _ (by omega), q_rf_ne _ (by omega)], rfl⟩
  have e218 : m218 N D1 = some (Int32.ofNat (28 - q_cnt (D1.1 7) (Int32.ofNat 5)), D') := by
    unfold m218
    rw [q204 hN, Option.bind_some, hD']
    simp only [am_lt]
    have : q_cnt (D1.1 7) 5 = q_cnt (D1.1 7) (Int32.ofNat 5) := rfl
    rw [q_l28, this, q_sub hle]
  have hC : u_C (q_c D' 1) := by
    refine u_C_of (s := fun k => if k = 0 then 0 else if k = 5 then q_nn else if k = 12 then 0 else if 17 ≤ k ∧ k < 21 then 0 else if 25 ≤ k ∧ k < 53 then 5 else q_s D1 0 k) (n := 0) (p := 0) (T := T) (V := V) ?_ ?_
    · refine c_gat hK1 hp1 ?_ ?_ ?_ (fun j hj => ?_) (fun j => ?_) (fun j hj => ?_) (fun j => ?_) (fun j => ?_) ?_ ?_ (fun j hj => ?_) rfl rfl rfl (fun j hj => ?_) (fun j hj => ?_) (fun k hk => ?_)
      · show D'.1 2 4 = 0
        rw [cD _ _ (by omega) (by omega)]; simp
      · show D'.1 2 5 = _
        rw [cD _ _ (by omega) (by omega)]; simp
      · show D'.1 2 6 = _
        rw [cD _ _ (by omega) (by omega)]; simp
      · show D'.1 7 j = 5
        rw [cD _ _ (by omega) (by omega)]; simp [hj]
      · show D'.1 8 j = D1.1 8 j
        rw [cD _ _ (by omega) (by omega)]; simp
      · show D'.1 9 j = 0
        rw [cD _ _ (by omega) (by omega)]; simp [hj]
      · show D'.1 10 j = D1.1 10 j
        rw [cD _ _ (by omega) (by omega)]; simp
      · show D'.1 11 j = D1.1 11 j
        rw [cD _ _ (by omega) (by omega)]; simp
      · show D'.1 1 6 = 0
        rw [cD _ _ (by omega) (by omega)]; simp
      · show D'.1 1 9 = _
        rw [cD _ _ (by omega) (by omega)]; simp
      · show D'.1 1 j = D1.1 1 j
        rw [cD _ _ (by omega) (by omega), if_pos rfl, if_neg (by omega), if_neg (by omega)]
      · rw [if_neg (by omega), if_neg (by omega), if_neg (by omega), if_pos (by omega)]
      · rw [if_neg (by omega), if_neg (by omega), if_neg (by omega), if_neg (by omega), if_pos (by omega)]
      · rw [if_neg (by omega), if_neg (by omega), if_neg (by omega), if_neg (by omega), if_neg (by omega)]
    · have e8 : ∀ j, j < 4 → q_c D' 1 8 j = 0 := fun j hj => by
        show D'.1 9 j = 0
        rw [cD _ _ (by omega) (by omega)]; simp [hj]
      refine ⟨fun k hk => by omega, ⟨fun _ => 0, fun k hk => by omega, fun j k hj => by omega⟩, fun k hk => by omega, fun h t hh ht _ => ?_, fun _ h hh => e8 h hh⟩
      rw [e8 h hh]; exact u_can0 t
  refine ⟨28 - q_cnt (D1.1 7) (Int32.ofNat 5), _, u_dt_of hI (F := fun G => m4 N G) (T := fun q2 => ((m218 N q2).bind fun q4 => (some ((Sum.inl q4.1), q4.2)))) (fun G hG => ?_) (fun D M => ?_) d1 d2 (D' := D') ?_ hop hC (oo218 (u_oo.rf _) e218), by omega⟩
  · show m4 N G = _
    unfold m4
    rw [if_neg (by rw [hG 1 (by omega)]; exact hp)]
  · exact h_bd (h := fun r : Int32 × am_D => (r.1, u_hz r.2 M)) hz218 fun q => rfl
  · show (m218 N D1).bind _ = _
    rw [e218]; rfl
theorem u_can_iff {m t : Nat} : q_can m t = 1 ↔ m.testBit (q_lo t) = false ∧ m.testBit (q_hi t) = false := by
  have e : ∀ x i : Nat, x / 2 ^ i % 2 = 0 ↔ x.testBit i = false := fun x i => by
    rw [Nat.testBit_eq_decide_div_mod_eq, decide_eq_false_iff_not]
    omega
  rw [← e, ← e]
  unfold q_can
  by_cases c : m / 2 ^ q_lo t % 2 = 0 ∧ m / 2 ^ q_hi t % 2 = 0
  · rw [if_pos c]; exact ⟨fun _ => c, fun _ => rfl⟩
  · rw [if_neg c]; exact ⟨fun h => absurd h (by omega), fun h => absurd h c⟩
theorem u_can_or {m a b t : Nat} (h : q_can m t = 1) (h1 : q_lo t ≠ a) (h2 : q_hi t ≠ a) (h3 : q_lo t ≠ b) (h4 : q_hi t ≠ b) : q_can (m ||| (2 ^ a ||| 2 ^ b)) t = 1 := by
  rw [u_can_iff] at h ⊢
  rw [Nat.testBit_or, Nat.testBit_or, Nat.testBit_or, Nat.testBit_or, Nat.testBit_two_pow, Nat.testBit_two_pow, Nat.testBit_two_pow, Nat.testBit_two_pow, h.1, h.2]
  simp [Ne.symm h1, Ne.symm h2, Ne.symm h3, Ne.symm h4]
theorem a_pass (hN : 2000 ≤ N) (hI : u_I D) {x : Nat} (hx : x < 4) (h0 : m221 N D (Int32.ofNat x) = some 0) : ∃ r D', r ≤ 3 ∧ u_dt D (fun G => n6 N G (Int32.ofNat x)) (r + 1) D' ∧ D'.1 1 11 = Int32.ofNat (r + 1) ∧ D'.1 1 6 = if r = 3 then Int32.ofNat 2 else Int32.ofNat 1 := by
  obtain ⟨n, p, T, V, hK, hX⟩ := u_K hI
  have hr : q_np D p x = 0 := by
    rw [q221 hN hK hx] at h0
    have h1 := Option.some.inj h0
    have h2 : q_np D p x < 4 := by
      unfold q_np
      split
      · split
        · split
          · omega
          · split <;> omega
        · omega
      · omega
    exact q_ofN (a := q_np D p x) (b := 0) (by omega) (by omega) h1
  obtain ⟨rfl, hu, hf⟩ := q_np0 hK hr
  obtain ⟨r, hr4, hr3, h4⟩ := k_row hK
  have hr3' := hr3 rfl
  have hn : ¬ D.1 107 (13 + x) ≤ 0 → 0 < n := fun c => by
    rcases hf with hf | hf
    · exact absurd hf c
    · by_cases c0 : n = 0
      · have := q_first hK hx c0
        omega
      · omega
  obtain ⟨D1, d1, d2⟩ := u_sav hI
  have p1 := (q_pre_1 d2).1
  have hK1 := q_K_D1 d2 hK
  have hX1 := u_X_D1 d2 hX
  obtain ⟨g107, gB, -, -, -⟩ := u_D1_N hI d2
  have h41 : D1.1 107 4 = Int32.ofNat r := by rw [p1 107 (by omega)]; exact h4
  have hn1 : ¬ D1.1 107 (13 + x) ≤ 0 → 0 < n := by rw [p1 107 (by omega)]; exact hn
  obtain ⟨D', c1, c2, c3, c4, c5, c6, c7⟩ := q224 hN hK1 hx hr3' h41 hn1
  obtain ⟨D2, b1, b3, b4, b5⟩ := q72 hN hK1 gB (fun k _ => rfl) hx hr3' h41 hn1
  have hC0 := c_pas hK1 (fun k _ => rfl) hx hr3' hn1 c2 c3 c4 c5 c6 b3
  have hC : u_C (q_c D' 1) := by
    obtain ⟨n', p', T', V', hC4⟩ := hC0
    have en : n' = n := by
      have h1 : D'.1 2 4 = Int32.ofNat n' := hC4.1.2.2.1
      rw [c6 2 (by omega), k_n' hK1] at h1
      have := hC4.1.1
      have := k_n28 hK1
      exact (q_ofN (by omega) (by omega) h1).symm
    subst en
    have eT : ∀ k, k < n' → T' k = T k ∧ V' k = V k := fun k hk => by
      obtain ⟨a1, a2, a3, a4, a5, a6, a7, a8⟩ := hC4.1.2.2.2.1 k hk
      obtain ⟨f1, f2, f3, f4, f5, f6, f7, f8⟩ := k_k hK1 k hk
      have g5 : D'.1 3 k = Int32.ofNat (T' k) := a5
      have g6 : D'.1 4 k = Int32.ofNat (V' k) := a6
      rw [c6 3 (by omega), f5] at g5
      rw [c6 4 (by omega), f6] at g6
      have v1 := q_v7 a1 a2
      have v2 := q_v7 f1 f2
      exact ⟨(q_ofN (by omega) (by omega) g5).symm, (q_ofN (by omega) (by omega) g6).symm⟩
    refine u_C_of hC4 ?_
    obtain ⟨x1, ⟨M, x2, x3⟩, x4, x5, x6⟩ := hX1
    have ee : ∀ i, 1 ≤ i → i ≤ 7 → q_c D' 1 i = q_c D1 1 i := fun i h1 h2 => c6 (1 + i) (by omega)
    have e8 : ∀ b, q_c D' 1 8 b = if b = x then q_lk D1 (V 0) (q_pip (T (n' - 1)) - V (n' - 1)) x else q_c D1 1 8 b := fun b => c3 b
    refine ⟨fun k hk => ?_, ⟨M, fun k hk => by rw [ee 5 (by omega) (by omega)]; exact x2 k hk, x3⟩, fun k hk => by rw [ee 4 (by omega) (by omega)]; exact x4 k hk, fun h t hh ht e => ?_, fun hp => ?_⟩
    · rw [(eT _ hk).2, (eT k (by omega)).1, (eT k (by omega)).2]; exact x1 k hk
    · rw [ee 6 (by omega) (by omega)] at e
      have old := x5 h t hh ht e
      rw [e8]
      by_cases cx : h = x
      · subst cx
        rw [if_pos rfl]
        obtain ⟨w, hw, hw'⟩ := k_lw hK1 h hh
        have ho : q_c D1 1 8 h = Int32.ofNat w := (k_la hK1 h hh).trans hw'
        rw [ho, q_tn (by omega)] at old
        unfold q_lk
        by_cases ct : D1.1 107 (13 + h) ≤ 0
        · rw [if_pos ct, hw', q_tn (by omega)]; exact old
        · rw [if_neg ct, hw', q_or, q_or]
          have hn0 := hn1 ct
          have hfit : q_fit D (Int32.ofNat h) = 0 := by
            rcases hf with hf | hf
            · exfalso
              rw [p1 107 (by omega)] at ct
              exact ct hf
            · exact hf
          rw [q_fit_def, q_S_zero] at hfit
          have hft := hfit t (Nat.zero_le _) (by omega)
          have hPt : D.1 7 t = Int32.ofNat h := by rw [← p1 7 (by omega)]; exact e
          have h159 : m159 D (Int32.ofNat t) = 0 := by
            by_cases c : m159 D (Int32.ofNat t) = 0
            · exact c
            · rw [if_pos ⟨hPt, c⟩] at hft; omega
          have he0 : D.1 2 5 = Int32.ofNat (V 0) := by rw [k_e0 hK, if_neg (by omega)]
          have he1 : D.1 2 6 = Int32.ofNat (q_pip (T (n' - 1)) - V (n' - 1)) := by rw [k_e1 hK, if_neg (by omega)]
          rw [q159 hK ht, he0, he1] at h159
          have hns : ¬ (n' = 0 ∨ q_sh t (Int32.ofNat (V 0)) ∨ q_sh t (Int32.ofNat (q_pip (T (n' - 1)) - V (n' - 1)))) := fun q => by
            rw [if_pos q] at h159
            exact absurd h159 (by decide)
          have l7 := q_lo7 t ht
          have u7 := q_hi7 t ht
          obtain ⟨f1, f2, -⟩ := k_k hK 0 (by omega)
          obtain ⟨g1, g2, -⟩ := k_k hK (n' - 1) (by omega)
          have v1 := q_v7 f1 f2
          have v2 := q_v7 g1 g2
          unfold q_sh at hns
          rw [q_eq (by omega) (by omega), q_eq (by omega) (by omega), q_eq (by omega) (by omega), q_eq (by omega) (by omega)] at hns
          have hlt : w ||| (2 ^ V 0 ||| 2 ^ (q_pip (T (n' - 1)) - V (n' - 1))) < 2147483648 := by
            have a1 : w < 2 ^ 7 := hw
            have a2 : 2 ^ V 0 < 2 ^ 7 := Nat.pow_lt_pow_right (by omega) v1.1
            have a3 : 2 ^ (q_pip (T (n' - 1)) - V (n' - 1)) < 2 ^ 7 := Nat.pow_lt_pow_right (by omega) v2.2
            have := Nat.or_lt_two_pow a1 (Nat.or_lt_two_pow a2 a3)
            omega
          rw [q_tn hlt]
          exact u_can_or old (fun q => hns (Or.inr (Or.inl (Or.inl q)))) (fun q => hns (Or.inr (Or.inl (Or.inr q)))) (fun q => hns (Or.inr (Or.inr (Or.inl q)))) (fun q => hns (Or.inr (Or.inr (Or.inr q))))
      · rw [if_neg cx]; exact old
    · have h6 : D'.1 1 6 = Int32.ofNat p' := hC4.2.2.2.1.2.2.1
      rw [c2, if_neg (by omega), if_pos rfl] at h6
      subst hp
      exfalso
      split at h6
      · exact absurd h6 (by decide)
      · exact absurd h6 (by decide)
  refine ⟨r, _, hr3', u_dt_of hI (F := fun G => m6 N G (Int32.ofNat x)) (T := fun q5 => ((m224 N q5 (Int32.ofNat x)).bind fun q7 => (some ((Sum.inl q7.1), q7.2)))) (fun G hG => ?_) (fun D M => ?_) d1 d2 (D' := D') ?_ ⟨fun a ha => c6 a (by omega), c7⟩ hC (oo224 (u_oo.rf _) c1), ?_, ?_⟩
  · show m6 N G _ = _
    unfold m6
    rw [if_neg (q_m40 hx), show m221 N G (Int32.ofNat x) = m221 N D (Int32.ofNat x) by rw [u_hz_eq hG, hz221], h0, Option.bind_some, if_pos rfl]
  · exact h_bd (h := fun r : Int32 × am_D => (r.1, u_hz r.2 M)) (hz224 _) fun q => rfl
  · show (m224 N D1 (Int32.ofNat x)).bind _ = _
    rw [c1]; rfl
  · rw [u_gh_c (by omega), c2, if_neg (by omega), if_neg (by omega), if_pos rfl]
  · rw [u_gh_c (by omega), c2, if_neg (by omega), if_pos rfl]
end UF
