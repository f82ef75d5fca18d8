/-! looks: a number out of all that shows; alike for equal tables -/
section UJ
variable {D E M : am_D} {N : Nat} {n p : Nat} {T V : Nat → Nat}
theorem u_hs (hI : u_I D) : D.1 23 2 = D.1 106 2 := hI.1.2.1.symm
theorem w20 (D : am_D) {t w : Nat} (ht : t < 28) (hw : w ≤ 3) : ∃ x, m20 D (Int32.ofNat t) (Int32.ofNat w) = Sum.inl x := by
  unfold m20
  rw [if_pos (show (0 : Int32) ≤ Int32.ofNat t from q_yle (a := 0) (by omega) (by omega)), if_neg (show ¬ Int32.ofNat w < 0 from q_nlt (a := 0) (by omega) (by omega)), if_pos (show Int32.ofNat w ≤ 3 from q_yle (b := 3) (by omega) hw)]
  split
  · split
    · exact ⟨_, rfl⟩
    · split
      · exact ⟨_, rfl⟩
      · split <;> exact ⟨_, rfl⟩
  · exact ⟨_, rfl⟩
theorem w21 (hN : 2000 ≤ N) (D : am_D) {u w : Nat} (hu : u < 4) (hw : w ≤ 5) : ∃ x, m21 N D (Int32.ofNat u) (Int32.ofNat w) = some (Sum.inl x, D) := by
  have : w = 0 ∨ w = 1 ∨ w = 2 ∨ w = 3 ∨ w = 4 ∨ w = 5 := by omega
  rcases this with rfl | rfl | rfl | rfl | rfl | rfl
  · rw [w21_0, if_neg (q_m40 hu), q204 hN, Option.bind_some]; exact ⟨_, rfl⟩
  · rw [w21_1, if_neg (q_m40 hu), q205 hN, Option.bind_some]; exact ⟨_, rfl⟩
  · rw [w21_2, if_neg (q_m40 hu)]; exact ⟨_, rfl⟩
  · rw [w21_3, if_neg (q_m40 hu)]; exact ⟨_, rfl⟩
  · rw [w21_4, if_neg (q_m40 hu), q208 hN, Option.bind_some]; exact ⟨_, rfl⟩
  · rw [w21_5, if_neg (q_m40 hu)]; exact ⟨_, rfl⟩
theorem u290_6 (hN : 2000 ≤ N) (hK : q_K D n p T V) (hs : D.1 23 2 = D.1 106 2) : ∀ (k i m : Nat) (h : Int64), i + k = 18 → k < m → (∃ h', m290_L6 N D m h (Int32.ofNat i) = some h') ∧ ∀ M, m290_L6 N (u_hz D M) m h (Int32.ofNat i) = m290_L6 N D m h (Int32.ofNat i)
  | 0, i, m + 1, h, hi, hm => by
    obtain rfl : i = 18 := by omega
    rw [m290_L6, if_pos (by decide)]
    refine ⟨⟨_, rfl⟩, fun M => ?_⟩
    rw [m290_L6, if_pos (by decide)]
  | k + 1, i, m + 1, h, hi, hm => by
    have c : ¬ (18 : Int32) ≤ Int32.ofNat i := q_nle (b := 18) (by omega) (by omega)
    have e1 := q22 hN hK hs (w := i) (by omega)
    rw [m290_L6, if_neg c, e1, Option.bind_some, w_inl, Option.bind_some]
    simp only [am_lt]
    rw [show Int32.ofNat i + 1 = Int32.ofNat (i + 1) from q_add i 1]
    obtain ⟨g1, g2⟩ := u290_6 hN hK hs k (i + 1) m _ (by omega) (by omega)
    refine ⟨g1, fun M => ?_⟩
    rw [m290_L6, if_neg c, hz22 _ (fun q => absurd (q_ofN (a := i) (b := 18) (by omega) (by omega) q) (by omega)), e1, Option.bind_some, w_inl, Option.bind_some]
    simp only [am_lt]
    rw [show Int32.ofNat i + 1 = Int32.ofNat (i + 1) from q_add i 1]
    exact g2 M
  | _, _, 0, _, _, hm => by omega
theorem u290_33 (hN : 2000 ≤ N) (hK : q_K D n p T V) : ∀ (k i m : Nat) (h : Int64), i + k = 28 → k < m → (∃ h', m290_L33 N D m h (Int32.ofNat i) = some h') ∧ ∀ M, m290_L33 N (u_hz D M) m h (Int32.ofNat i) = m290_L33 N D m h (Int32.ofNat i)
  | 0, i, m + 1, h, hi, hm => by
    obtain rfl : i = 28 := by omega
    rw [m290_L33, if_pos (by decide)]
    refine ⟨⟨_, rfl⟩, fun M => ?_⟩
    rw [m290_L33, if_pos (by decide)]
  | k + 1, i, m + 1, h, hi, hm => by
    have c : ¬ (28 : Int32) ≤ Int32.ofNat i := q_nle (b := 28) (by omega) (by omega)
    have hi28 : i < 28 := by omega
    have e3 : m18 N D (Int32.ofNat i) 3 = _ := q18 hN hK hi28 (w := 3) (by omega)
    have e4 : m18 N D (Int32.ofNat i) 4 = _ := q18 hN hK hi28 (w := 4) (by omega)
    have e5 : m18 N D (Int32.ofNat i) 5 = _ := q18 hN hK hi28 (w := 5) (by omega)
    obtain ⟨y, ey⟩ := w20 D hi28 (w := 1) (by omega)
    have ey' : m20 D (Int32.ofNat i) 1 = Sum.inl y := ey
    rw [m290_L33, if_neg c, e3, Option.bind_some, w_inl, Option.bind_some, e4, Option.bind_some, w_inl, Option.bind_some, e5, Option.bind_some, w_inl, Option.bind_some]
    simp only [am_lt]
    rw [ey', w_inl, Option.bind_some, show Int32.ofNat i + 1 = Int32.ofNat (i + 1) from q_add i 1]
    obtain ⟨g1, g2⟩ := u290_33 hN hK k (i + 1) m _ (by omega) (by omega)
    refine ⟨g1, fun M => ?_⟩
    rw [m290_L33, if_neg c, hz18, hz18, hz18, hz20, e3, Option.bind_some, w_inl, Option.bind_some, e4, Option.bind_some, w_inl, Option.bind_some, e5, Option.bind_some, w_inl, Option.bind_some]
    simp only [am_lt]
    rw [ey', w_inl, Option.bind_some, show Int32.ofNat i + 1 = Int32.ofNat (i + 1) from q_add i 1]
    exact g2 M
  | _, _, 0, _, _, hm => by omega
theorem u290_97 (hN : 2000 ≤ N) : ∀ (k i m : Nat) (h : Int64), i + k = 20 → k < m → ∃ h', m290_L97 N m D h (Int32.ofNat i) = some (h', D) ∧ ∀ M, m290_L97 N m (u_hz D M) h (Int32.ofNat i) = some (h', u_hz D M)
  | 0, i, m + 1, h, hi, hm => by
    obtain rfl : i = 20 := by omega
    rw [m290_L97, if_pos (by decide)]
    refine ⟨_, rfl, fun M => ?_⟩
    rw [m290_L97, if_pos (by decide)]
  | k + 1, i, m + 1, h, hi, hm => by
    have c : ¬ (20 : Int32) ≤ Int32.ofNat i := q_nle (b := 20) (by omega) (by omega)
    have ed : Int32.ofNat i / (5 : Int32) = Int32.ofNat (i / 5) := q_div (b := 5) (by omega) (by omega)
    have em : (1 : Int32) + (Int32.ofNat i - Int32.ofNat (i / 5) * (5 : Int32)) = Int32.ofNat (1 + i % 5) := by
      rw [← ed, show Int32.ofNat i - Int32.ofNat i / (5 : Int32) * (5 : Int32) = Int32.ofNat (i % 5) from q_mod (a := i) (b := 5) (by omega) (by omega)]
      exact q_add 1 (i % 5)
    obtain ⟨y, ey⟩ := w21 hN D (u := i / 5) (w := 1 + i % 5) (by omega) (by omega)
    rw [m290_L97, if_neg c, ed, em, ey, Option.bind_some, w_inl, Option.bind_some]
    simp only [am_lt]
    rw [show Int32.ofNat i + 1 = Int32.ofNat (i + 1) from q_add i 1]
    obtain ⟨h', g1, g2⟩ := u290_97 hN k (i + 1) m ((Int64.ofNat 31) * h + y.toInt64) (by omega) (by omega)
    refine ⟨h', g1, fun M => ?_⟩
    rw [m290_L97, if_neg c, ed, em, hz21 _ (show 1 + i % 5 ≤ 5 by omega), ey]
    show (some (Sum.inl y, u_hz D M)).bind _ = _
    rw [Option.bind_some, w_inl, Option.bind_some]
    simp only [am_lt]
    rw [show Int32.ofNat i + 1 = Int32.ofNat (i + 1) from q_add i 1]
    exact g2 M
  | _, _, 0, _, _, hm => by omega
/-- what is looked at -/
theorem a_looks (hN : 2000 ≤ N) (hI : u_I D) : ∃ h, m290 N D = some (h, D) ∧ ∀ E, (∀ a, a ≤ 22 → E.1 a = D.1 a) → m290 N E = some (h, E) := by
  obtain ⟨n, p, T, V, hK, -⟩ := u_K hI
  obtain ⟨⟨x1, e1⟩, f1⟩ := u290_6 hN hK (u_hs hI) 18 0 N (Int64.ofNat 109) (by omega) (by omega)
  obtain ⟨⟨x2, e2⟩, f2⟩ := u290_33 hN hK 28 0 N x1 (by omega) (by omega)
  obtain ⟨x3, e3, f3⟩ := u290_97 hN (D := D) 20 0 N x2 (by omega) (by omega)
  have e1' : m290_L6 N D N (Int64.ofNat 109) 0 = some x1 := e1
  have e2' : m290_L33 N D N x1 0 = some x2 := e2
  have e3' : m290_L97 N N D x2 0 = some (x3, D) := e3
  refine ⟨x3, ?_, fun E he => ?_⟩
  · unfold m290
    simp only [am_lt]
    rw [e1', Option.bind_some, e2', Option.bind_some, e3']
    rfl
  · rw [u_hz_eq he]
    unfold m290
    simp only [am_lt]
    rw [show m290_L6 N (u_hz D E) N (Int64.ofNat 109) 0 = some x1 from (f1 E).trans e1, Option.bind_some, show m290_L33 N (u_hz D E) N x1 0 = some x2 from (f2 E).trans e2, Option.bind_some, show m290_L97 N N (u_hz D E) x2 0 = some (x3, u_hz D E) from f3 E]
    rfl
end UJ
