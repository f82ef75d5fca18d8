/-! deeds: what each comes to, and that it goes alike over an equal table: set, clock, tick, give, deal, goBack -/
section UE
variable {D D1 D' E F M : am_D} {N : Nat} {n p : Nat} {T V : Nat → Nat} {c c' : Nat → Nat → Int32}
def u_dt (D : am_D) (F : am_D → Option ((Int32 ⊕ Nat) × am_D)) (r : Nat) (D' : am_D) : Prop := F D = some (Sum.inl (Int32.ofNat r), D') ∧ u_I D' ∧ u_sv D D' ∧ ∀ E, u_I E → (∀ a, a ≤ 22 → E.1 a = D.1 a) → ∃ E', F E = some (Sum.inl (Int32.ofNat r), E') ∧ ∀ a, a ≤ 22 → E'.1 a = D'.1 a
theorem u_dt_of (hI : u_I D) {F T : am_D → Option ((Int32 ⊕ Nat) × am_D)} (hF : ∀ G, (∀ a, a ≤ 22 → G.1 a = D.1 a) → F G = (m168 G).bind T) (hT : ∀ D M, T (u_hz D M) = (T D).map fun r => (r.1, u_hz r.2 M)) (d1 : m168 D = some D1) (d2 : q_svC D D1) {r : Nat} (h1 : T D1 = some (Sum.inl (Int32.ofNat r), D')) (h2 : u_op D1 D') (hC : u_C (q_c D' 1)) (ho : u_oo D1 D') : u_dt D (fun G => (F G).map fun r => (r.1, u_gh r.2)) r (u_gh D') := by
  obtain ⟨b1, b2⟩ := u_act hI d2 h2 hC ho
  refine ⟨?_, b1, b2, fun E hE he => ?_⟩
  · show (F D).map _ = _
    rw [hF D (fun _ _ => rfl), d1, Option.bind_some, h1]
    rfl
  · obtain ⟨E1, e1, e2⟩ := u_sav hE
    obtain ⟨E', g1, g2⟩ := d_push hT d2 e2 he h1
    refine ⟨u_gh E', ?_, fun a ha => ?_⟩
    · show (F E).map _ = _
      rw [hF E he, e1, Option.bind_some, g1]
      rfl
    · rw [u_gh_c (by omega), u_gh_c (by omega)]; exact g2 a ha
theorem u_X_cg (h : u_X c n p T V) (h4 : ∀ k, k < n → c' 4 k = c 4 k) (h5 : ∀ k, k < n → c' 5 k = c 5 k) (h6 : ∀ t, t < 28 → c' 6 t = c 6 t) (h8 : ∀ x, x < 4 → c' 8 x = c 8 x) : u_X c' n p T V := by
  obtain ⟨x1, ⟨M, x2, x3⟩, x4, x5, x6⟩ := h
  refine ⟨x1, ⟨M, fun k hk => by rw [h5 k hk]; exact x2 k hk, x3⟩, fun k hk => by rw [h4 k hk]; exact x4 k hk, fun h t hh ht e => ?_, fun hp h hh => by rw [h8 h hh]; exact x6 hp h hh⟩
  rw [h6 t ht] at e
  rw [h8 h hh]
  exact x5 h t hh ht e
theorem u_X_D1 (h1 : q_svC D D1) (h : u_X (q_c D 1) n p T V) : u_X (q_c D1 1) n p T V := by
  have p1 := (q_pre_1 h1).1
  have e : ∀ i, i ≤ 10 → q_c D1 1 i = q_c D 1 i := fun i hi => p1 (1 + i) (by omega)
  exact u_X_cg h (fun k _ => by rw [e 4 (by omega)]) (fun k _ => by rw [e 5 (by omega)]) (fun k _ => by rw [e 6 (by omega)]) (fun k _ => by rw [e 8 (by omega)])
theorem a_set (hI : u_I D) {w : Nat} (h1 : 1 ≤ w) (h2 : w ≤ 60) : ∃ r D', u_dt D (fun G => n9 G (Int32.ofNat w)) r D' ∧ r ≤ 60 := by
  obtain ⟨n, p, T, V, hK, hX⟩ := u_K hI
  obtain ⟨D1, d1, d2⟩ := u_sav hI
  have p1 := (q_pre_1 d2).1
  have hK1 := q_K_D1 d2 hK
  have hX1 := u_X_D1 d2 hX
  obtain ⟨w0, w1, w2, w3⟩ := k_sew hK
  have hC : u_C (q_c (am_uI D1 1 10 (Int32.ofNat w)) 1) := by
    rw [show q_c (am_uI D1 1 10 (Int32.ofNat w)) 1 = _ from q_c_up D1 0 10 (Int32.ofNat w)]
    exact u_C_of (c_set hK1 h1 h2) (u_X_cg hX1 (fun k _ => q_up_ne (by omega)) (fun k _ => q_up_ne (by omega)) (fun k _ => q_up_ne (by omega)) (fun k _ => q_up_ne (by omega)))
  refine ⟨w0, _, u_dt_of hI (F := fun G => m9 G (Int32.ofNat w)) (T := fun q3 => (am_lt (q3.1 1 10) fun x5 => (am_lt (am_uI q3 1 10 (Int32.ofNat w)) fun D7 => (some ((Sum.inl x5), D7))))) (fun G _ => ?_) (fun D M => ?_) d1 d2 (D' := am_uI D1 1 10 (Int32.ofNat w)) ?_ ⟨fun a ha => q_uI_ne _ (by omega), rfl⟩ hC (oo_1 (u_oo.rf _) (by omega)), w2⟩
  · show m9 G _ = _
    unfold m9
    rw [if_neg (show ¬ Int32.ofNat w < 1 from q_nlt (a := 1) (by omega) h1), if_pos (show Int32.ofNat w ≤ 60 from q_yle (b := 60) (by omega) h2)]
  · exact h_li rfl fun x5 => h_lt (h := fun r => u_hz r M) (hz_uC (by omega)) fun D7 => rfl
  · show some (Sum.inl (D1.1 1 10), _) = _
    rw [p1 1 (by omega), k_se hK, w3]
theorem q_m43 {w : Nat} (hw : w < 2) : ¬ m43 (Int32.ofNat w) = 0 := by
  obtain rfl | rfl : w = 0 ∨ w = 1 := by omega
  · decide
  · decide
theorem a_clock (hI : u_I D) (hp : D.1 1 6 = 1) {w : Nat} (hw : w < 2) : ∃ r D', u_dt D (fun G => n7 G (Int32.ofNat w)) r D' ∧ r < 4 := by
  obtain ⟨n, p, T, V, hK, hX⟩ := u_K hI
  have hp1 : p = 1 := by
    have := k_p' hK
    have h3 := k_p3 hK
    rw [hp] at this
    exact (q_ofN (a := 1) (b := p) (by omega) (by omega) this).symm
  obtain ⟨D1, d1, d2⟩ := u_sav hI
  have p1 := (q_pre_1 d2).1
  have hK1 := q_K_D1 d2 hK
  have hX1 := u_X_D1 d2 hX
  obtain ⟨u, hu, hu'⟩ := (k_hw hK).resolve_left (fun q => q.2 hp1)
  have hh : D1.1 1 8 = Int32.ofNat u := by rw [p1 1 (by omega), k_ho hK]; exact hu'
  obtain ⟨y, hy, e5⟩ : ∃ y, y < 4 ∧ (if Int32.ofNat w = 1 then m185 (D1.1 1 8) else m186 (D1.1 1 8)) = Int32.ofNat y := by
    rw [hh]
    obtain rfl | rfl : w = 0 ∨ w = 1 := by omega
    · exact ⟨(u + 3) % 4, by omega, (q_md4 u hu).2⟩
    · exact ⟨(u + 1) % 4, by omega, (q_md4 u hu).1⟩
  have a1 : (am_uI D1 1 8 (Int32.ofNat y)).1 1 15 = D1.1 1 15 := by rw [q_uI_at, if_neg (by omega)]
  have hC : u_C (q_c (am_uI (am_uI D1 1 8 (Int32.ofNat y)) 1 15 ((am_uI D1 1 8 (Int32.ofNat y)).1 1 15 + 1)) 1) := by
    rw [a1, show q_c (am_uI (am_uI D1 1 8 (Int32.ofNat y)) 1 15 (D1.1 1 15 + 1)) 1 = _ from q_c_up _ 0 15 _, show q_c (am_uI D1 1 8 (Int32.ofNat y)) 1 = _ from q_c_up D1 0 8 _]
    exact u_C_of (c_clk hK1 hy) (u_X_cg (u_X_cg hX1 (c' := q_up (q_c D1 1) 0 8 (Int32.ofNat y)) (fun k _ => q_up_ne (by omega)) (fun k _ => q_up_ne (by omega)) (fun k _ => q_up_ne (by omega)) (fun k _ => q_up_ne (by omega))) (fun k _ => q_up_ne (by omega)) (fun k _ => q_up_ne (by omega)) (fun k _ => q_up_ne (by omega)) (fun k _ => q_up_ne (by omega)))
  refine ⟨y, _, u_dt_of hI (F := fun G => m7 G (Int32.ofNat w)) (T := fun q3 => (am_lt (m228 q3 (Int32.ofNat w)) fun q5 => (some ((Sum.inl q5.1), q5.2)))) (fun G hG => ?_) (fun D M => ?_) d1 d2 (D' := am_uI (am_uI D1 1 8 (Int32.ofNat y)) 1 15 ((am_uI D1 1 8 (Int32.ofNat y)).1 1 15 + 1)) ?_ ⟨fun a ha => by rw [q_uI_ne _ (by omega), q_uI_ne _ (by omega)], rfl⟩ hC (oo_1 (oo_1 (u_oo.rf _) (by omega)) (by omega)), hy⟩
  · show m7 G _ = _
    unfold m7
    rw [if_neg (q_m43 hw), if_pos (by rw [hG 1 (by omega)]; exact hp)]
  · show am_lt (m228 (u_hz D M) (Int32.ofNat w)) _ = _
    rw [hz228]
    rfl
  · show am_lt (m228 D1 (Int32.ofNat w)) _ = _
    unfold m228
    simp only [am_lt, e5]
    rw [q_uI_at (am_uI D1 1 8 (Int32.ofNat y)), if_neg (by omega), q_uIs]
theorem a_tick (hI : u_I D) (hp : D.1 1 6 = 1) {w : Nat} (h1 : 1 ≤ w) (h2 : w ≤ 99) : ∃ r D', u_dt D (fun G => n8 G (Int32.ofNat w)) r D' ∧ r ≤ 60 := by
  obtain ⟨n, p, T, V, hK, hX⟩ := u_K hI
  have hp1 : p = 1 := by
    have := k_p' hK
    have h3 := k_p3 hK
    rw [hp] at this
    exact (q_ofN (a := 1) (b := p) (by omega) (by omega) this).symm
  obtain ⟨D1, d1, d2⟩ := u_sav hI
  have p1 := (q_pre_1 d2).1
  have hK1 := q_K_D1 d2 hK
  have hX1 := u_X_D1 d2 hX
  obtain ⟨u, hu, hu1, hu2⟩ := k_tu hK
  rw [if_pos hp1] at hu2
  obtain ⟨y, hy, hy1⟩ := k_tw hK u hu
  have b1 : D1.1 1 7 = Int32.ofNat u := by rw [p1 1 (by omega)]; exact hu2
  have b2 : am_rat (D1.1 8) 4 (D1.1 1 7) = Int32.ofNat y := by rw [b1, q_rt4 _ hu, p1 8 (by omega), k_ti hK u hu]; exact hy1
  have b3 : am_rput D1 8 4 (D1.1 1 7) (Int32.ofNat (y - w)) = am_uI D1 8 u (Int32.ofNat (y - w)) := by
    unfold am_rput
    rw [b1, if_pos (q_in (by omega) hu), q_tn (by omega)]
  have b4 : (if (0 : Int32) < Int32.ofNat y - Int32.ofNat w then Int32.ofNat y - Int32.ofNat w else (0 : Int32)) = Int32.ofNat (y - w) := q_sb1 y (by omega) w (by omega)
  have hC : u_C (q_c (am_uI D1 8 u (Int32.ofNat (y - w))) 1) := by
    rw [show q_c (am_uI D1 8 u (Int32.ofNat (y - w))) 1 = _ from q_c_up D1 7 u _]
    exact u_C_of (c_tck hK1 hu (show y - w ≤ 60 by omega)) (u_X_cg hX1 (fun k _ => q_up_ne (by omega)) (fun k _ => q_up_ne (by omega)) (fun k _ => q_up_ne (by omega)) (fun k _ => q_up_ne (by omega)))
  refine ⟨y - w, _, u_dt_of hI (F := fun G => m8 G (Int32.ofNat w)) (T := fun q3 => (am_lt (m229 q3 (Int32.ofNat w)) fun q5 => (some ((Sum.inl q5.1), q5.2)))) (fun G hG => ?_) (fun D M => ?_) d1 d2 (D' := am_uI D1 8 u (Int32.ofNat (y - w))) ?_ ⟨fun a ha => q_uI_ne _ (by omega), rfl⟩ hC (oo_uI (u_oo.rf _) (Or.inr (Or.inr (w8_10 (r := 8) (by omega) u hu)))), by omega⟩
  · show m8 G _ = _
    unfold m8
    rw [if_neg (show ¬ Int32.ofNat w < 1 from q_nlt (a := 1) (by omega) h1), if_pos (show Int32.ofNat w ≤ 99 from q_yle (b := 99) (by omega) h2), if_pos (by rw [hG 1 (by omega)]; exact hp)]
  · show am_lt (m229 (u_hz D M) (Int32.ofNat w)) _ = _
    rw [hz229]
    rfl
  · show am_lt (m229 D1 (Int32.ofNat w)) _ = _
    unfold m229
    simp only [am_lt, b2, b4, b3]
theorem q_m40 {x : Nat} (hx : x < 4) : ¬ m40 (Int32.ofNat x) = 0 := by
  rcases q40 (Int32.ofNat x) with ⟨i, hi, e, e1, -⟩ | ⟨e1, e2⟩
  · rw [e1]; decide
  · exfalso
    have : x = 0 ∨ x = 1 ∨ x = 2 ∨ x = 3 := by omega
    rcases this with rfl | rfl | rfl | rfl <;> revert e1 <;> decide
theorem a_give (hN : 2000 ≤ N) (hI : u_I D) {x t : Nat} (hx : x < 4) (ht : t < 28) (hp : D.1 1 6 = 0) (h5 : D.1 7 t = 5) (h7 : q_cnt (D.1 7) (Int32.ofNat x) < 7) : ∃ r D', u_dt D (fun G => n1 N G (Int32.ofNat x) (Int32.ofNat t)) r D' ∧ r ≤ 28 := by
  obtain ⟨n, p, T, V, hK, hX⟩ := u_K hI
  obtain rfl : p = 0 := by
    have := k_p' hK
    have h3 := k_p3 hK
    rw [hp] at this
    exact (q_ofN (a := 0) (b := p) (by omega) (by omega) this).symm
  obtain ⟨D1, d1, d2⟩ := u_sav hI
  have p1 := (q_pre_1 d2).1
  have hK1 := q_K_D1 d2 hK
  have hX1 := u_X_D1 d2 hX
  have hcn : q_cnt (q_P D) (Int32.ofNat x) = q_cnt (D.1 7) (Int32.ofNat x) := q_cnt_congr (fun t ht => (k_pl hK t ht).symm)
  have hP1 : q_P D1 = q_P D := by unfold q_P; rw [p1 107 (by omega)]
  have hc : (0 = 0 ∧ q_P D t = 5 ∧ q_cnt (q_P D) (Int32.ofNat x) < 7) := ⟨rfl, by rw [← k_pl hK t ht]; exact h5, by rw [hcn]; exact h7⟩
  have c1 := q212 hN hK ht (Int32.ofNat x)
  rw [if_pos hc] at c1
  have hC : u_C (q_c (am_uI D1 7 t (Int32.ofNat x)) 1) := by
    rw [show q_c (am_uI D1 7 t (Int32.ofNat x)) 1 = _ from q_c_up D1 6 t _]
    have hg := c_giv hK1 hx ht (show q_P D1 t = Int32.ofNat 5 by rw [hP1]; exact hc.2.1) (show q_cnt (q_P D1) (Int32.ofNat x) < 7 by rw [hP1]; exact hc.2.2)
    refine u_C_of hg ?_
    obtain ⟨x1, ⟨M, x2, x3⟩, x4, x5, x6⟩ := hX1
    refine ⟨x1, ⟨M, fun k hk => by rw [q_up_ne (by omega)]; exact x2 k hk, x3⟩, fun k hk => by rw [q_up_ne (by omega)]; exact x4 k hk, fun h j hh hj e => ?_, fun hp h hh => by rw [q_up_ne (by omega)]; exact x6 hp h hh⟩
    rw [q_up_ne (by omega), x6 rfl h hh]
    unfold q_can
    simp
  refine ⟨q_cnt ((am_uI D1 7 t (Int32.ofNat x)).1 7) (Int32.ofNat x), _, u_dt_of hI (F := fun G => m1 N G (Int32.ofNat x) (Int32.ofNat t)) (T := fun q6 => (am_lt (m213 q6 (Int32.ofNat x) (Int32.ofNat t)) fun q8 => ((m204 N q8 (Int32.ofNat x)).bind fun q10 => (some ((Sum.inl q10), q8))))) (fun G hG => ?_) (fun D M => ?_) d1 d2 (D' := am_uI D1 7 t (Int32.ofNat x)) ?_ ⟨fun a ha => q_uI_ne _ (by omega), rfl⟩ hC (oo_uI (u_oo.rf _) (Or.inr (Or.inr (w7 t ht)))), q_cnt_le _ _⟩
  · show m1 N G _ _ = _
    unfold m1
    rw [if_neg (q_m40 hx), if_neg (by rw [q_m41 ht]; decide), show m212 N G (Int32.ofNat x) (Int32.ofNat t) = m212 N D (Int32.ofNat x) (Int32.ofNat t) by rw [u_hz_eq hG, hz212], c1, Option.bind_some, if_neg (by decide)]
  · exact h_lt (h := fun r => u_hz r M) (hz213 _ _) fun q8 => h_bi (hz204 _) fun q10 => rfl
  · show am_lt (m213 D1 (Int32.ofNat x) (Int32.ofNat t)) _ = _
    unfold m213 am_rput
    rw [if_pos (show 0 ≤ Int32.ofNat t ∧ Int32.ofNat t < Int32.ofNat 28 from q_in (by omega) ht), q_tn (by omega)]
    simp only [am_lt, q204 hN, Option.bind_some]
theorem u_d4_le : ∀ (k h : Nat) (f : Nat → Int32) (x m : Nat), h + k = 4 → q_dp f → x < 4096 → (q_d4 k h f x m).2.2 ≤ m + 7 * k
  | 0, _, _, _, _, _, _, _ => Nat.le_refl _
  | k + 1, h, f, x, m, hk, hf, hx => by
    have h7 := hf.2 h (by omega)
    obtain ⟨e1, e2, e3⟩ := q_d1_ok (h := h) (by omega) (7 - q_cnt f (Int32.ofNat h)) f x m hf hx (by omega)
    have := u_d4_le k (h + 1) _ _ (q_d1 h (7 - q_cnt f (Int32.ofNat h)) f x m).2.2 (by omega) e1 e2
    show (q_d4 k (h + 1) _ _ _).2.2 ≤ _
    omega
theorem a_deal (hN : 2000 ≤ N) (hI : u_I D) {w : Nat} (hw : w ≤ 4095) (hp : D.1 1 6 = 0) : ∃ r D', u_dt D (fun G => n2 N G (Int32.ofNat w)) r D' ∧ r ≤ 1000 := by
  obtain ⟨n, p, T, V, hK, hX⟩ := u_K hI
  obtain rfl : p = 0 := by
    have := k_p' hK
    have h3 := k_p3 hK
    rw [hp] at this
    exact (q_ofN (a := 0) (b := p) (by omega) (by omega) this).symm
  obtain ⟨D1, d1, d2⟩ := u_sav hI
  have p1 := (q_pre_1 d2).1
  have hK1 := q_K_D1 d2 hK
  have hX1 := u_X_D1 d2 hX
  have hdp := q_K_dp hK1
  obtain ⟨D', c1, c2, c3, c4, c5⟩ := q214_L hN 4 0 (D1.1 7) w 0 D1 N (by omega) hdp (by omega) (by omega) (by omega) rfl
  have c1' : m214_L7 N N D1 (Int32.ofNat w) 0 0 = some (Int32.ofNat (q_d4 4 0 (D1.1 7) w 0).2.2, D') := c1
  have e214 : m214 N D1 (Int32.ofNat w) = some (Int32.ofNat (q_d4 4 0 (D1.1 7) w 0).2.2, D') := by
    unfold m214
    rw [c1']; rfl
  have hC : u_C (q_c D' 1) := by
    refine u_C_of (s := fun k => if 25 ≤ k ∧ k < 53 then (q_d4 4 0 (D1.1 7) w 0).1 (k - 25) else q_s D1 0 k) (c_pls hK1 c5 (fun t ht => ?_) (fun i hi hi6 => ?_) (fun t ht => ?_) (fun k hk => ?_)) ?_
    · show D'.1 7 t = _
      rw [c2]
    · show D'.1 (1 + i) = D1.1 (1 + i)
      rw [c3 _ (by omega)]
    · show (if 25 ≤ 25 + t ∧ 25 + t < 53 then _ else _) = _
      rw [if_pos (by omega), show 25 + t - 25 = t by omega]
    · show (if 25 ≤ k ∧ k < 53 then _ else _) = _
      rw [if_neg (by omega)]
    · obtain ⟨x1, ⟨M, x2, x3⟩, x4, x5, x6⟩ := hX1
      have ee : ∀ i, i ≤ 10 → i ≠ 6 → q_c D' 1 i = q_c D1 1 i := fun i hi h6 => c3 (1 + i) (by omega)
      refine ⟨x1, ⟨M, fun k hk => by rw [ee 5 (by omega) (by omega)]; exact x2 k hk, x3⟩, fun k hk => by rw [ee 4 (by omega) (by omega)]; exact x4 k hk, fun h j hh hj e => ?_, fun hp h hh => by rw [ee 8 (by omega) (by omega)]; exact x6 hp h hh⟩
      rw [ee 8 (by omega) (by omega), x6 rfl h hh]
      unfold q_can
      simp
  refine ⟨(q_d4 4 0 (D1.1 7) w 0).2.2, _, u_dt_of hI (F := fun G => m2 N G (Int32.ofNat w)) (T := fun q4 => ((m214 N q4 (Int32.ofNat w)).bind fun q6 => (some ((Sum.inl q6.1), q6.2)))) (fun G hG => ?_) (fun D M => ?_) d1 d2 (D' := D') ?_ ⟨fun a ha => c3 a (by omega), c4⟩ hC (oo214 (u_oo.rf _) e214), ?_⟩
  · show m2 N G _ = _
    unfold m2
    rw [if_neg (show ¬ Int32.ofNat w < 0 from q_nlt (a := 0) (by omega) (by omega)), if_pos (show Int32.ofNat w ≤ 4095 from q_yle (b := 4095) (by omega) hw), if_pos (by rw [hG 1 (by omega)]; exact hp)]
  · exact h_bd (h := fun r : Int32 × am_D => (r.1, u_hz r.2 M)) (hz214 _) fun q6 => rfl
  · show (m214 N D1 (Int32.ofNat w)).bind _ = _
    rw [e214]; rfl
  · have := u_d4_le 4 0 (D1.1 7) w 0 rfl hdp (by omega)
    omega
theorem hz_rc {a b k : Nat} (ha : a ≤ 22) (hb : b ≤ 22) : am_rcopy (u_hz D M) a b k k = u_hz (am_rcopy D a b k k) M := by
  unfold am_rcopy
  rw [u_hz_c ha, u_hz_c hb, hz_uR hb]
theorem hz_cy : q_cy 1 12 (u_hz D M) = u_hz (q_cy 1 12 D) M := by
  unfold q_cy q_cyc
  simp (disch := omega) only [am_lt, hz_rc, hz_uC, u_hz_c]
theorem a_back (hI : u_I D) (hk : D.1 0 7 = 1) : ∃ r D', u_dt D (fun G => n16 G) r D' ∧ r ≤ 28 := by
  obtain ⟨n, p, T, V, hS, hX⟩ := hI.2.2.1 hk
  obtain ⟨D1, d1, d2⟩ := u_sav hI
  have p1 := (q_pre_1 d2).1
  obtain ⟨g1, g2, g3⟩ := q_cy_cs (b1 := 1) (b0 := 12) D1 (by omega)
  have hn : (q_cy 1 12 D1).1 2 4 = Int32.ofNat n := by
    have := g2 1 4 (by omega) (by unfold q_w; omega)
    refine this.trans ?_
    show D1.1 13 4 = _
    rw [p1 13 (by omega)]
    exact hS.1.2.2.1
  have hC : u_C (q_c (q_cy 1 12 D1) 1) := u_C_w (c := q_c D 12) (fun i j hw => by
    have hi : i ≤ 10 := by unfold q_w at hw; omega
    refine (g2 i j hi hw).trans ?_
    show D1.1 (12 + i) j = D.1 (12 + i) j
    rw [p1 _ (by omega)]) (hI.2.2.1 hk)
  refine ⟨n, _, u_dt_of hI (F := fun G => m16 G) (T := fun q2 => (am_lt (m202_1_12 q2) fun q4 => (some ((Sum.inl (q4.1 2 4)), q4)))) (fun G hG => ?_) (fun D M => ?_) d1 d2 (D' := q_cy 1 12 D1) ?_ ⟨fun a ha => g1 a (by omega), g3⟩ hC (u_cy_oo _ _), hS.1.1⟩
  · show m16 G = _
    unfold m16
    rw [if_neg (by rw [hG 0 (by omega), hk]; decide)]
  · show am_lt (m202_1_12 (u_hz D M)) _ = _
    rw [q202_1_12, hz_cy, q202_1_12]
    rfl
  · show am_lt (m202_1_12 D1) _ = _
    rw [q202_1_12]
    show some (Sum.inl ((q_cy 1 12 D1).1 2 4), _) = _
    rw [hn]
end UE
