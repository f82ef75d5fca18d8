/-! texts: the machine for tiles that are given -/
section NP
variable {D D0 : am_D} {l : Nat} {tx : Nat → Nat} {i : Nat}
theorem q_t0 : ∀ c, c < 127 → m242 1 0 (Int32.ofNat c) = if 48 ≤ c ∧ c ≤ 51 then 7 else -1 := by decide +kernel
theorem q_t7 : ∀ c, c < 127 → m242 1 7 (Int32.ofNat c) = if c = 58 then 2 else -1 := by decide +kernel
theorem q_t2 : ∀ c, c < 127 → m242 1 2 (Int32.ofNat c) = if 48 ≤ c ∧ c ≤ 54 then Int32.ofNat (c - 38) else -1 := by decide +kernel
theorem q_t10 : ∀ c', c' < 7 → ∀ c, c < 127 → m242 1 (Int32.ofNat (c' + 10)) (Int32.ofNat c) = if c' + 48 ≤ c ∧ c ≤ 54 then 1 else -1 := by decide +kernel
theorem q_t1 : ∀ c, c < 127 → m242 1 1 (Int32.ofNat c) = if c = 44 then 2 else if c = 59 then 0 else -1 := by decide +kernel
/-- a tile is read from the state 2 -/
theorem q94m (hT : q_T D0 l tx) (h : q_ps D0 D i) (hi : i ≤ l) : ∃ x D' k s', m94 D = some (x, D') ∧ q_ps D0 D' (i + k) ∧ i + k ≤ l ∧ q_ok 1 tx 2 i k s' ∧ ((x = -1 ∧ s' ≠ 1 ∧ s' ≠ 6 ∧ (i + k < l → m242 1 s' (Int32.ofNat (tx (i + k))) = -1)) ∨ (x ≠ -1 ∧ k = 2 ∧ s' = 1 ∧ x = m55 (Int32.ofNat (tx i - 48)) (Int32.ofNat (tx (i + 1) - 48)))) := by
  by_cases c1 : 48 ≤ q_cx l tx i ∧ q_cx l tx i ≤ 54
  · have hi0 := q_cx_lt (l := l) (tx := tx) (k := i) (by omega)
    obtain ⟨u1, u2⟩ := q_tx7 hT hi0
    obtain ⟨a, ha⟩ : ∃ a, a = tx i - 48 := ⟨_, rfl⟩
    have e10 : tx i - 38 = a + 10 := by omega
    have o2 : q_ok 1 tx 2 i 1 (Int32.ofNat (a + 10)) := q_ok1 (by rw [q_t2 _ u1, if_pos (by omega), e10]) (q_nm (by omega))
    by_cases c2 : q_cx l tx i ≤ q_cx l tx (i + 1) ∧ q_cx l tx (i + 1) ≤ 54
    · have hi1 := q_cx_lt (l := l) (tx := tx) (k := i + 1) (by omega)
      obtain ⟨w1, w2⟩ := q_tx7 hT hi1
      have e := q94c hT h c1 c2
      refine ⟨_, _, 2, 1, e, q_ps_6 (q_ps_6 h (i + 1)) (i + 2), by omega, q_ok_tr 1 1 i o2 (q_ok1 (by rw [q_t10 a (by omega) _ w1, if_pos (by omega)]) (by decide)), Or.inr ⟨q55n _ (by omega) _ (by omega), rfl, rfl, by rw [u2, w2]⟩⟩
    · have n1 : Int32.ofNat (a + 10) ≠ 1 := fun q => by
        have := q_ofN (a := a + 10) (b := 1) (by omega) (by omega) q
        omega
      have n6 : Int32.ofNat (a + 10) ≠ 6 := fun q => by
        have := q_ofN (a := a + 10) (b := 6) (by omega) (by omega) q
        omega
      have e := q94b hT h c1 c2
      refine ⟨_, _, 1, _, e, q_ps_6 (q_ps_6 h (i + 1)) (i + 1), by omega, o2, Or.inl ⟨rfl, n1, n6, fun q => ?_⟩⟩
      obtain ⟨w1, w2⟩ := q_tx7 hT q
      rw [u2, w2] at c2
      rw [q_t10 a (by omega) _ w1, if_neg (by omega)]
  · have e := q94a hT h hi c1
    refine ⟨_, _, 0, 2, e, q_ps_6 h i, hi, rfl, Or.inl ⟨rfl, by decide, by decide, fun q => ?_⟩⟩
    obtain ⟨w1, w2⟩ := q_tx7 hT (k := i) q
    rw [w2] at c1
    rw [Nat.add_zero, q_t2 _ w1, if_neg c1]
end NP
