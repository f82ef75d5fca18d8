/-! a deed: lay -/
section UG
variable {D D1 D' E F M : am_D} {N : Nat} {n p : Nat} {T V : Nat → Nat} {c c' : Nat → Nat → Int32} {s : Nat → Int32}
/-- a table's numbers are read off it -/
theorem u_C4_det {n' p' : Nat} {T' V' : Nat → Nat} {m q : Nat} (h : q_C4 c s n' p' T' V') (hm : m ≤ 28) (h4 : c 1 4 = Int32.ofNat m) (hq : q < 3) (h6 : c 0 6 = Int32.ofNat q) (hk : ∀ k, k < m → c 2 k = Int32.ofNat (T k) ∧ c 3 k = Int32.ofNat (V k) ∧ T k < 28 ∧ V k < 7) : q_C4 c s m q T V := by
  obtain ⟨⟨a1, a2, a3, a4, a5, a6, a7, a8⟩, a9, a10, a11⟩ := h
  obtain rfl : n' = m := q_ofN (by omega) (by omega) (a3.symm.trans h4)
  obtain rfl : p' = q := by
    have := a11.1.1
    exact q_ofN (by omega) (by omega) (a11.1.2.2.1.symm.trans h6)
  have eT : ∀ k, k < n' → T' k = T k ∧ V' k = V k := fun k hk' => by
    obtain ⟨b1, b2, b3, b4, b5, b6, b7, b8⟩ := a4 k hk'
    obtain ⟨d1, d2, d3, d4⟩ := hk k hk'
    have v := q_v7 b1 b2
    exact ⟨q_ofN (by omega) (by omega) (b5.symm.trans d1), q_ofN (by omega) (by omega) (b6.symm.trans d2)⟩
  refine ⟨⟨a1, a2, a3, fun k hk' => ?_, fun j k hj hk' e => a5 j k hj hk' ?_, fun t ht => (a6 t ht).trans ?_, ?_, ?_⟩, a9, a10, a11⟩
  · have := a4 k hk'
    rw [(eT k hk').1, (eT k hk').2] at this
    exact this
  · rw [(eT j hj).1, (eT k hk').1]; exact e
  · constructor
    · rintro ⟨k, h1, h2⟩; exact ⟨k, h1, by rw [← (eT k h1).1]; exact h2⟩
    · rintro ⟨k, h1, h2⟩; exact ⟨k, h1, by rw [(eT k h1).1]; exact h2⟩
  · rw [a7]
    by_cases h0 : n' = 0
    · rw [if_pos h0, if_pos h0]
    · rw [if_neg h0, if_neg h0, (eT 0 (by omega)).2]
  · rw [a8]
    by_cases h0 : n' = 0
    · rw [if_pos h0, if_pos h0]
    · rw [if_neg h0, if_neg h0, (eT (n' - 1) (by omega)).1, (eT (n' - 1) (by omega)).2]
theorem u_gh_K (h : q_C4 (q_c D 1) s n p T V) : q_K (u_gh D) n p T V := by
  unfold q_K
  have e : q_s (u_gh D) 0 = u_en (q_c D 1) := rfl
  rw [e]
  exact q_C4_eq (q_c_gh (by omega)) rfl (u_en_C4 h)
theorem a_lay (hN : 2000 ≤ N) (hI : u_I D) (hK : q_K D n p T V) (hX : u_X (q_c D 1) n p T V) {x t e : Nat} (hx : x < 4) (ht : t < 28) (he : e < 2) (h0 : m220 D (Int32.ofNat x) (Int32.ofNat t) (Int32.ofNat e) = 0) :
    ∃ w D', w ≤ 24 ∧ m161 D (Int32.ofNat t) (Int32.ofNat e) = Int32.ofNat w ∧ u_dt D (fun G => n5 N G (Int32.ofNat x) (Int32.ofNat t) (Int32.ofNat e)) (q_gain D x w) D' ∧ q_K D' (n + 1) (if q_cnt (q_P D) (Int32.ofNat x) = 1 then 2 else 1) (q_T1 e n t T) (q_V1 e n t T V) ∧
      (∀ b, D'.1 1 b = if b = 7 then (if q_cnt (q_P D) (Int32.ofNat x) = 1 then q_nn else Int32.ofNat ((x + 1) % 4)) else if b = 6 then (if q_cnt (q_P D) (Int32.ofNat x) = 1 then Int32.ofNat 2 else Int32.ofNat 1) else if b = 13 then D.1 1 13 + 1 else if b = 11 then 0 else if b = 9 then Int32.ofNat x else D.1 1 b) ∧
      (∀ b, D'.1 7 b = if b = t then Int32.ofNat 4 else D.1 7 b) ∧ (∀ b, D'.1 11 b = if b = x % 2 then D.1 11 (x % 2) + Int32.ofNat (q_gain D x w) else D.1 11 b) ∧ (∀ a, 8 ≤ a → a ≤ 10 → D'.1 a = D.1 a) := by
  obtain ⟨rfl, hu, hP, hf⟩ := q220z hK hx ht h0
  have hnt : ∀ k, k < n → T k ≠ t := fun k hk q => by
    have := (k_in hK t ht).mpr ⟨k, hk, q⟩
    rw [hP] at this
    have := q_ofN (by omega) (by omega) this
    omega
  have hn : n ≤ 27 := q_n27 ht (fun k hk => (k_k hK k hk).1) (k_inj hK) hnt
  obtain ⟨D1, d1, d2⟩ := u_sav hI
  have p1 := (q_pre_1 d2).1
  have hK1 := q_K_D1 d2 hK
  obtain ⟨g107, gB, -, -, -⟩ := u_D1_N hI d2
  have hPP : q_P D1 = q_P D := by unfold q_P; rw [p1 107 (by omega)]
  have hP1 : q_P D1 t = Int32.ofNat x := by rw [hPP]; exact hP
  have hf1 : n = 0 ∨ q_sh t (m156 D1 (Int32.ofNat e)) := by
    unfold m156
    rw [p1 2 (by omega)]; exact hf
  have hD1 : D1 = u_hz D D1 := u_hz_eq fun a ha => p1 a (Or.inl ha)
  obtain ⟨w, hw, h161⟩ := q161s hK ht he hf
  have h161' : m161 D1 (Int32.ofNat t) (Int32.ofNat e) = Int32.ofNat w := by rw [hD1, hz161]; exact h161
  have hgn : q_gain D1 x w = q_gain D x w := by unfold q_gain; rw [hPP]
  obtain ⟨D', c1, c2, c3, c4, c5, c6, c7⟩ := q223 hN hK1 hx ht he hn hf1 hP1 hw h161'
  obtain ⟨D2, b1, b2, b3, b4, b5⟩ := q71 hN hK1 gB (fun k _ => rfl) hx ht he hn hf1 hP1 hw h161'
  have hC0 := c_lay hK1 (fun k _ => rfl) hx ht he hn hf1 hP1 c2 c3 c4 c5 c6 b2 b3
  have htv := q_tv hK ht he hf
  have hCL : q_C4 (q_c D' 1) (q_s D2 0) (n + 1) (if q_cnt (q_P D) (Int32.ofNat x) = 1 then 2 else 1) (q_T1 e n t T) (q_V1 e n t T V) := by
    obtain ⟨n', p', T', V', hC4⟩ := hC0
    refine u_C4_det hC4 (by omega) c2.1 (by split <;> omega) ?_ (fun k hk => ?_)
    · show D'.1 1 6 = _
      rw [c3, if_neg (by omega), if_pos rfl, hPP]
      split <;> rfl
    · obtain ⟨f1, f2, -⟩ := c2.2.1 k hk
      obtain ⟨v1, v2⟩ := htv k hk
      exact ⟨f1, f2, v1, (q_v7 v1 v2).1⟩
  have hX' : u_X (q_c D' 1) (n + 1) (if q_cnt (q_P D) (Int32.ofNat x) = 1 then 2 else 1) (q_T1 e n t T) (q_V1 e n t T V) := by
    obtain ⟨x1, ⟨M, x2, x3⟩, x4, x5, x6⟩ := u_X_D1 d2 hX
    refine ⟨fun k hk => ?_, ⟨fun k => if k = (if e = 0 then 0 else n) then n + 1 else M (if e = 0 then k - 1 else k), fun k hk => ?_, fun j k hj hk eq => ?_⟩, fun k hk => ?_, fun h j hh hj ej => ?_, fun hp => ?_⟩
    · -- the chain fits
      unfold q_V1 q_T1
      have hn0 : ¬ n = 0 := by omega
      rw [if_neg hn0, if_neg hn0]
      obtain rfl | rfl : e = 0 ∨ e = 1 := by omega
      · rw [if_pos rfl, if_pos rfl, if_pos rfl, if_neg (by omega), show k + 1 - 1 = k by omega]
        by_cases k0 : k = 0
        · subst k0
          rw [if_pos rfl, if_pos rfl]
          have := q_ft0 hK ht (by omega) hf
          have := q_vle this
          omega
        · rw [if_neg k0, if_neg k0]
          have := x1 (k - 1) (by omega)
          rw [show k - 1 + 1 = k by omega] at this
          exact this
      · rw [if_neg (show ¬ (1 : Nat) = 0 by omega), if_neg (show ¬ (1 : Nat) = 0 by omega), if_neg (show ¬ (1 : Nat) = 0 by omega), if_neg (show ¬ k = n by omega), if_neg (show ¬ k = n by omega)]
        by_cases kn : k + 1 = n
        · rw [if_pos kn, show n - 1 = k by omega]
        · rw [if_neg kn]; exact x1 k (by omega)
    · obtain ⟨-, -, -, f6⟩ := c2.2.1 k hk
      show D'.1 6 k = _ ∧ _
      rw [f6]
      dsimp only
      by_cases kp : k = (if e = 0 then 0 else n)
      · rw [if_pos kp, if_pos kp]
        exact ⟨rfl, by omega, by omega⟩
      · rw [if_neg kp, if_neg kp]
        have hlt : (if e = 0 then k - 1 else k) < n := by split <;> split at kp <;> omega
        obtain ⟨g1, g2, g3⟩ := x2 _ hlt
        exact ⟨g1, g2, by omega⟩
    · dsimp only at eq
      by_cases jp : j = (if e = 0 then 0 else n)
      · by_cases kp : k = (if e = 0 then 0 else n)
        · rw [jp, kp]
        · rw [if_pos jp, if_neg kp] at eq
          have hlt : (if e = 0 then k - 1 else k) < n := by split <;> split at kp <;> omega
          have := (x2 _ hlt).2.2
          omega
      · by_cases kp : k = (if e = 0 then 0 else n)
        · rw [if_neg jp, if_pos kp] at eq
          have hlt : (if e = 0 then j - 1 else j) < n := by split <;> split at jp <;> omega
          have := (x2 _ hlt).2.2
          omega
        · rw [if_neg jp, if_neg kp] at eq
          have h1 : (if e = 0 then j - 1 else j) < n := by split <;> split at jp <;> omega
          have h2 : (if e = 0 then k - 1 else k) < n := by split <;> split at kp <;> omega
          have := x3 _ _ h1 h2 eq
          split at this <;> split at jp <;> split at kp <;> omega
    · obtain ⟨-, -, f5, -⟩ := c2.2.1 k hk
      show ∃ u, u < 4 ∧ D'.1 5 k = _
      rw [f5]
      by_cases kp : k = (if e = 0 then 0 else n)
      · rw [if_pos kp]; exact ⟨x, hx, rfl⟩
      · rw [if_neg kp]
        exact x4 _ (by split <;> split at kp <;> omega)
    · have ej' : D'.1 7 j = Int32.ofNat h := ej
      rw [c4] at ej'
      by_cases cj : j = t
      · rw [if_pos cj] at ej'
        have := q_ofN (by omega) (by omega) ej'
        omega
      · rw [if_neg cj] at ej'
        show q_can (D'.1 9 h).toNatClampNeg j = 1
        rw [c6 9 (by omega)]
        exact x5 h j hh hj ej'
    · exfalso
      split at hp <;> omega
  have hC : u_C (q_c D' 1) := u_C_of hCL hX'
  refine ⟨w, _, hw, h161, u_dt_of hI (F := fun G => m5 N G (Int32.ofNat x) (Int32.ofNat t) (Int32.ofNat e)) (T := fun q5 => ((m223 N q5 (Int32.ofNat x) (Int32.ofNat t) (Int32.ofNat e)).bind fun q7 => (some ((Sum.inl q7.1), q7.2)))) (fun G hG => ?_) (fun D M => ?_) d1 d2 (D' := D') ?_ ⟨fun a ha => c6 a (by omega), c7⟩ hC (oo223 (u_oo.rf _) c1), u_gh_K hCL, fun b => ?_, fun b => ?_, fun b => ?_, fun a h1 h2 => ?_⟩
  · show m5 N G _ _ _ = _
    unfold m5
    rw [if_neg (q_m40 hx), if_neg (by rw [q_m41 ht]; decide), if_neg (q_m43 he), show m220 G (Int32.ofNat x) (Int32.ofNat t) (Int32.ofNat e) = m220 D (Int32.ofNat x) (Int32.ofNat t) (Int32.ofNat e) by rw [u_hz_eq hG, hz220], if_pos h0]
  · exact h_bd (h := fun r : Int32 × am_D => (r.1, u_hz r.2 M)) (hz223 _ _ _) fun q => rfl
  · show (m223 N D1 (Int32.ofNat x) (Int32.ofNat t) (Int32.ofNat e)).bind _ = _
    rw [c1, hgn]; rfl
  · rw [u_gh_c (by omega), c3, hPP, p1 1 (by omega)]
  · rw [u_gh_c (by omega), c4, p1 7 (by omega)]
  · rw [u_gh_c (by omega), c5, hgn, p1 11 (by omega)]
  · rw [u_gh_c (by omega), c6 a (by omega), p1 a (by omega)]
end UG
