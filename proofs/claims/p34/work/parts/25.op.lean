/-! calls that look -/
section OP
variable {D : am_D}
theorem q_wr (D : am_D) (x : Int32) (f : Nat → Option (Int32 × am_D)) : am_ch (Sum.inl x : Int32 ⊕ Nat) (fun x3 => (am_lt (am_uJ D 124 0 ((x3).toInt64)) fun D5 => (some ((0 : Int32), D5)))) f = some (0, am_uJ D 124 0 x.toInt64) := rfl
theorem q47a (D : am_D) : m47 D 0 = (1, am_uI D 106 0 0) := q47 D 0 (by omega)
theorem q47b (D : am_D) : m47 D 1 = (0, am_uI D 106 0 1) := q47 D 1 (by omega)
theorem q47c (D : am_D) : m47 D 2 = (0, am_uI D 106 0 2) := q47 D 2 (by omega)
theorem q47d (D : am_D) : m47 D 3 = (0, am_uI D 106 0 3) := q47 D 3 (by omega)
theorem q_10 : ((1 : Int32) = 0) = False := by decide
/-- what the model's marks change is nothing that it asks -/
theorem q_m_I (hI : q_I D) (x : Int64) (r : Int32) : q_I (am_uI (am_uJ D 124 0 x) 106 0 r) := q_E_I ((q_E_uJ (by omega)).tr (q_E_uI (by omega))) hI
theorem q_m_K {n p : Nat} {T V : Nat → Nat} (h : q_K D n p T V) (x : Int64) (r : Int32) : q_K (am_uI (am_uJ D 124 0 x) 106 0 r) n p T V := q_E_K ((q_E_uJ (by omega)).tr (q_E_uI (by omega))) h
theorem q_m_B (h : q_B D) (x : Int64) (r : Int32) : q_B (am_uI (am_uJ D 124 0 x) 106 0 r) := q_E_B ((q_E_uJ (by omega)).tr (q_E_uI (by omega))) h
theorem q_m_r (D : am_D) (x : Int64) (r : Int32) {a : Nat} (ha : a ≠ 106) : (am_uI (am_uJ D 124 0 x) 106 0 r).1 a = D.1 a := by
  funext i
  show (if a = 106 ∧ i = 0 then r else D.1 a i) = D.1 a i
  rw [if_neg (fun q => ha q.1)]
theorem q_m_r' (D : am_D) (x : Int64) (r : Int32) {i : Nat} (hi : i ≠ 0) : (am_uI (am_uJ D 124 0 x) 106 0 r).1 106 i = D.1 106 i := by
  show (if 106 = 106 ∧ i = 0 then r else D.1 106 i) = D.1 106 i
  rw [if_neg (fun q => hi q.2)]
theorem q_E_tl {D D' : am_D} (h : q_E D D') (n : Nat) (T : Nat → Nat) (t w : Nat) : q_tl D' n T t w = q_tl D n T t w := by
  unfold q_tl q_P m159
  rw [h.1 107 (by omega), h.1 2 (by omega)]
theorem q_E_pc {D D' : am_D} (h : q_E D D') (T V : Nat → Nat) (k w : Nat) : q_pc D' T V k w = q_pc D T V k w := by
  unfold q_pc
  rw [h.1 107 (by omega)]
theorem q_E_160 {D D' : am_D} (h : q_E D D') : m160 D' = m160 D := by
  unfold m160 m157 m156
  rw [h.1 2 (by omega), h.1 3 (by omega)]
theorem q_E_nb {D D' : am_D} (h : q_E D D') (p w : Nat) : q_nb D' p w = q_nb D p w := by
  unfold q_nb q_P m219
  rw [h.1 107 (by omega), h.1 2 (by omega), h.1 1 (by omega), h.2.1.1, q_E_160 h]
theorem q_E_220 {D D' : am_D} (h : q_E D D') (a b c : Int32) : m220 D' a b c = m220 D a b c := by
  unfold m220 m219 m158 m156 m203
  rw [h.1 2 (by omega), h.1 1 (by omega), h.1 7 (by omega), h.1 8 (by omega)]
theorem q_E_fit {D D' : am_D} (h : q_E D D') (v : Int32) : q_fit D' v = q_fit D v := by
  rw [q_fit_def, q_fit_def]
  unfold m159
  rw [h.1 2 (by omega), h.1 7 (by omega)]
theorem q_E_np {D D' : am_D} (h : q_E D D') (p x : Nat) : q_np D' p x = q_np D p x := by
  unfold q_np
  rw [h.1 107 (by omega), q_E_fit h]
theorem q_E_P {D D' : am_D} (h : q_E D D') : q_P D' = q_P D := by
  unfold q_P
  rw [h.1 107 (by omega)]
theorem q_mE (D : am_D) (x : Int64) (r : Int32) : q_E D (am_uI (am_uJ D 124 0 x) 106 0 r) := (q_E_uJ (by omega)).tr (q_E_uI (by omega))
theorem q_hE (D : am_D) (r : Int32) : q_E D (am_uI D 106 0 r) := q_E_uI (by omega)
theorem g_tile {N : Nat} (hN : 2000 ≤ N) (hI : q_I D) (v1 v2 : Int32) : q_G (fun D => m275 N D v1 v2) (fun D => m108 N D v1 v2) D := by
  obtain ⟨n, p, T, V, hK⟩ := q_I_K hI
  have hB := hI.1
  rcases q41 v1 with ⟨t, ht, rfl, e1, e2⟩ | ⟨e1, e2⟩
  · rcases q46 (v := v2) (a := 0) (b := 6) (by omega) (by omega) with ⟨w, -, hw, rfl, e3⟩ | ⟨e3, e4⟩
    · have e5 := q18 hN hK ht hw
      have e6 := q107 hN (q_m_B hB (q_tl D n T t w).toInt64 0) (q_m_K hK (q_tl D n T t w).toInt64 0) ht hw
      rw [q_E_tl (q_mE _ _ _)] at e6
      refine q_G_rd hI (q_tl D n T t w) ?_ ?_
      · show m275 N D _ _ = _
        unfold m275
        rw [e5, Option.bind_some, q_wr]
      · show m108 N _ _ _ = _
        unfold m108
        simp only [← q_l0, ← q_l6] at e3
        simp only [am_lt, e2, e3, q_10, if_false, q47a, e6, Option.bind_some]
    · refine q_G_ex hI 2 (by omega) ?_ ?_
      · show m275 N D _ _ = _
        unfold m275 m18
        have e5 : ∀ k, k ≤ 6 → ¬ v2 = Int32.ofNat k := fun k hk e => by
          subst e
          rw [q_lt (by omega) (by omega), q_lt (by omega) (by omega)] at e4
          omega
        simp only [e1, q_10, if_false, e5 0 (by omega), e5 1 (by omega), e5 2 (by omega), e5 3 (by omega), e5 4 (by omega), e5 5 (by omega), e5 6 (by omega), Option.bind_some]
        rfl
      · show m108 N D _ _ = _
        unfold m108
        simp only [← q_l0, ← q_l6] at e3
        simp only [am_lt, e2, e3, q_10, if_false, if_true, q47c]
        rfl
  · refine q_G_ex hI 1 (by omega) ?_ ?_
    · show m275 N D _ _ = _
      unfold m275 m18
      simp only [e1, if_true, Option.bind_some]
      rfl
    · show m108 N D _ _ = _
      unfold m108
      simp only [am_lt, e2, if_true, q47b]
      rfl
theorem q254 {a b : Nat} (ha : a < 7) (hb : b < 7) : m254 (Int32.ofNat a) (Int32.ofNat b) = m55 (Int32.ofNat a) (Int32.ofNat b) := by
  have : ∀ a, a < 7 → ∀ b, b < 7 → m254 (Int32.ofNat a) (Int32.ofNat b) = m55 (Int32.ofNat a) (Int32.ofNat b) := by decide +kernel
  exact this a ha b hb
theorem g_tileOf (hI : q_I D) (v1 v2 : Int32) : q_G (fun D => m276 D v1 v2) (fun D => some (m109 D v1 v2)) D := by
  rcases q42 v1 with ⟨a, ha, rfl, e1, e2⟩ | ⟨e1, e2⟩
  · rcases q42 v2 with ⟨b, hb, rfl, e3, e4⟩ | ⟨e3, e4⟩
    · refine q_G_rd hI (m254 (Int32.ofNat a) (Int32.ofNat b)) ?_ ?_
      · show m276 D _ _ = _
        unfold m276 m19
        simp only [am_lt, e1, e3, q_10, if_false]
        rfl
      · show some (m109 _ _ _) = _
        unfold m109
        simp only [am_lt, e2, e4, q_10, if_false, q47a, q254 ha hb]
    · refine q_G_ex hI 1 (by omega) ?_ ?_
      · show m276 D _ _ = _
        unfold m276 m19
        simp only [am_lt, e1, e3, q_10, if_false, if_true]
        rfl
      · show some (m109 _ _ _) = _
        unfold m109
        simp only [am_lt, e2, e4, q_10, if_false, if_true, q47b]
        rfl
  · refine q_G_ex hI 1 (by omega) ?_ ?_
    · show m276 D _ _ = _
      unfold m276 m19
      simp only [am_lt, e1, if_true]
      rfl
    · show some (m109 _ _ _) = _
      unfold m109
      simp only [am_lt, e2, if_true, q47b]
      rfl
theorem q_pos (v : Int32) : (∃ i, i < 2147483648 ∧ v = Int32.ofNat i ∧ 0 ≤ v) ∨ (¬ 0 ≤ v) := by
  by_cases h : 0 ≤ v
  · exact Or.inl ⟨v.toNatClampNeg, by have := Int32.toNatClampNeg_lt v; omega, (Int32.ofNat_toNatClampNeg v h).symm, h⟩
  · exact Or.inr h
theorem q_n4 (v : Int32) {b : Nat} (hb : b < 2147483647) (h : v < Int32.ofNat 0 ∨ Int32.ofNat b < v) : ∀ k, k ≤ b → ¬ v = Int32.ofNat k := fun k hk e => by
  subst e
  rw [q_lt (by omega) (by omega), q_lt (by omega) (by omega)] at h
  omega
theorem g_chain (hI : q_I D) (v1 v2 : Int32) : q_G (fun D => m277 D v1 v2) (fun D => m111 D v1 v2) D := by
  obtain ⟨n, p, T, V, hK⟩ := q_I_K hI
  have hB := hI.1
  have h28 := k_n28 hK
  rcases q_pos v1 with ⟨k, hk, e0, e1⟩ | e1
  · rcases q46 (v := v2) (a := 0) (b := 3) (by omega) (by omega) with ⟨w, -, hw, e2, e3⟩ | ⟨e3, e4⟩
    · by_cases hkn : k < n
      · subst e0; subst e2
        have e5 := q20 hK hkn hw
        have e6 := q110 (q_m_B hB (q_pc D T V k w).toInt64 0) (q_m_K hK (q_pc D T V k w).toInt64 0) hkn hw
        rw [q_E_pc (q_mE _ _ _)] at e6
        refine q_G_rd hI (q_pc D T V k w) ?_ ?_
        · show m277 D _ _ = _
          unfold m277
          rw [e5]
          rfl
        · show m111 _ _ _ = _
          unfold m111
          simp only [← q_l0, ← q_l3] at e3
          have e7 : ¬ (am_uI (am_uJ D 124 0 (q_pc D T V k w).toInt64) 106 0 0).1 107 12 ≤ Int32.ofNat k := by
            rw [(q_mE D _ _).1 107 (by omega), k_n hK, q_le (by omega) (by omega)]; omega
          simp only [am_lt, e1, e3, q_10, if_true, if_false, q47a, e7, e6, Option.bind_some]
      · refine q_G_rd hI q_nn ?_ ?_
        · show m277 D _ _ = _
          unfold m277 m20
          subst e0; subst e2
          have e7 : ¬ Int32.ofNat k < D.1 2 4 := by rw [k_n' hK, q_lt (by omega) (by omega)]; omega
          have e8 : ¬ Int32.ofNat w < 0 := q_nlt (a := 0) (by omega) (by omega)
          have e9 : Int32.ofNat w ≤ 3 := q_yle (b := 3) (by omega) (by omega)
          simp only [am_lt, e1, e7, e8, e9, if_true, if_false]
          rfl
        · show m111 _ _ _ = _
          unfold m111
          simp only [← q_l0, ← q_l3] at e3
          have e7 : (am_uI (am_uJ D 124 0 q_nn.toInt64) 106 0 0).1 107 12 ≤ v1 := by
            rw [(q_mE D _ _).1 107 (by omega), k_n hK, e0, q_le (by omega) (by omega)]; omega
          simp only [am_lt, e1, e3, q_10, if_true, if_false, q47a, e7]
          rfl
    · refine q_G_ex hI 2 (by omega) ?_ ?_
      · show m277 D _ _ = _
        unfold m277 m20
        have e5 : (if v2 < 0 then (Sum.inr 2 : Int32 ⊕ Nat) else if v2 ≤ 3 then (if v1 < D.1 2 4 then (if v2 = Int32.ofNat 0 then (Sum.inl (am_rat (D.1 3) 28 v1)) else (if v2 = Int32.ofNat 1 then (Sum.inl (am_rat (D.1 4) 28 v1)) else (if v2 = Int32.ofNat 2 then (Sum.inl (m155 D v1)) else (Sum.inl (am_rat (D.1 6) 28 v1))))) else (Sum.inl (-1 : Int32))) else Sum.inr 2) = Sum.inr 2 := by
          rcases e4 with e4 | e4
          · exact if_pos e4
          · rw [if_neg (c := v2 ≤ 3) (Int32.not_le.mpr e4), ite_self]
        simp only [e1, if_true, e5]
        rfl
      · show m111 D _ _ = _
        unfold m111
        simp only [← q_l0, ← q_l3] at e3
        simp only [am_lt, e1, e3, if_true, q47c]
        rfl
  · refine q_G_ex hI 1 (by omega) ?_ ?_
    · show m277 D _ _ = _
      unfold m277 m20
      simp only [e1, if_false]
      rfl
    · show m111 D _ _ = _
      unfold m111
      simp only [am_lt, e1, if_false, q47b]
      rfl
theorem g_count {N : Nat} (hN : 2000 ≤ N) (hI : q_I D) (v1 : Int32) : q_G (fun D => m279 N D v1) (fun D => m118 N D v1) D := by
  obtain ⟨n, p, T, V, hK⟩ := q_I_K hI
  have hB := hI.1
  have hs : D.1 23 2 = D.1 106 2 := by
    obtain ⟨-, -, -, ⟨o, m, h1, h2, h3, h4, h5, h6⟩, -⟩ := hI
    rw [h4, h5]
  rcases q46 (v := v1) (a := 0) (b := 18) (by omega) (by omega) with ⟨w, -, hw, rfl, e3⟩ | ⟨e3, e4⟩
  · have e5 := q22 hN hK hs hw
    have e6 := q117 hN (q_m_B hB (q_nb D p w).toInt64 0) (q_m_K hK (q_nb D p w).toInt64 0) hw
    rw [q_E_nb (q_mE _ _ _)] at e6
    refine q_G_rd hI (q_nb D p w) ?_ ?_
    · show m279 N D _ = _
      unfold m279
      rw [e5]
      rfl
    · show m118 N _ _ = _
      unfold m118
      simp only [← q_l0, ← q_l18] at e3
      simp only [am_lt, e3, q_10, if_false, q47a, e6, Option.bind_some]
  · refine q_G_ex hI 1 (by omega) ?_ ?_
    · show m279 N D _ = _
      unfold m279 m22
      have e5 := q_n4 v1 (b := 18) (by omega) e4
      simp only [if_false, e5 0 (by omega), e5 1 (by omega), e5 2 (by omega), e5 3 (by omega), e5 4 (by omega), e5 5 (by omega), e5 6 (by omega), e5 7 (by omega), e5 8 (by omega), e5 9 (by omega), e5 10 (by omega), e5 11 (by omega), e5 12 (by omega), e5 13 (by omega), e5 14 (by omega), e5 15 (by omega), e5 16 (by omega), e5 17 (by omega), e5 18 (by omega), Option.bind_some]
      rfl
    · show m118 N D _ = _
      unfold m118
      simp only [← q_l0, ← q_l18] at e3
      simp only [am_lt, e3, if_true, q47b]
      rfl
theorem g_why (hI : q_I D) (v1 v2 v3 : Int32) : q_G (fun D => m280 D v1 v2 v3) (fun D => m119 D v1 v2 v3) D := by
  obtain ⟨n, p, T, V, hK⟩ := q_I_K hI
  have hB := hI.1
  rcases q40 v1 with ⟨x, hx, rfl, e1, e2⟩ | ⟨e1, e2⟩
  · rcases q41 v2 with ⟨t, ht, rfl, e3, e4⟩ | ⟨e3, e4⟩
    · rcases q43 v3 with ⟨w, hw, rfl, e5, e6, -⟩ | ⟨e5, e6, -⟩
      · refine q_G_rd hI (m220 D (Int32.ofNat x) (Int32.ofNat t) (Int32.ofNat w)) ?_ ?_
        · show m280 D _ _ _ = _
          unfold m280 m23
          simp only [am_lt, e1, e3, e5, q_10, if_false]
          rfl
        · show m119 _ _ _ _ = _
          unfold m119
          have e7 := q67 (q_m_B hB (m220 D (Int32.ofNat x) (Int32.ofNat t) (Int32.ofNat w)).toInt64 0) (q_m_K hK (m220 D (Int32.ofNat x) (Int32.ofNat t) (Int32.ofNat w)).toInt64 0) hx ht (Int32.ofNat w)
          rw [q_E_220 (q_mE _ _ _)] at e7
          simp only [am_lt, e2, e4, e6, q_10, if_false, q47a, e7, Option.bind_some]
      · refine q_G_ex hI 2 (by omega) ?_ ?_
        · show m280 D _ _ _ = _
          unfold m280 m23
          simp only [am_lt, e1, e3, e5, q_10, if_false, if_true]
          rfl
        · show m119 _ _ _ _ = _
          unfold m119
          simp only [am_lt, e2, e4, e6, q_10, if_false, if_true, q47c]
          rfl
    · refine q_G_ex hI 1 (by omega) ?_ ?_
      · show m280 D _ _ _ = _
        unfold m280 m23
        simp only [am_lt, e1, e3, q_10, if_false, if_true]
        rfl
      · show m119 _ _ _ _ = _
        unfold m119
        simp only [am_lt, e2, e4, q_10, if_false, if_true, q47b]
        rfl
  · refine q_G_ex hI 1 (by omega) ?_ ?_
    · show m280 D _ _ _ = _
      unfold m280 m23
      simp only [am_lt, e1, if_true]
      rfl
    · show m119 _ _ _ _ = _
      unfold m119
      simp only [am_lt, e2, if_true, q47b]
      rfl
end OP
