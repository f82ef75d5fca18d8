/-! texts: ticks and lays of a game and the machine of states; every part -/
section NK
variable {D D0 : am_D} {l : Nat} {tx : Nat → Nat} {i : Nat}
theorem q96m_t (hT : q_T D0 l tx) (h : q_ps D0 D i) (c1 : q_cx l tx i = 116) : ∃ b D' k s', m96 D = some (b, D') ∧ q_ps D0 D' (i + k) ∧ q_pe l tx i k b s' := by
  have hi := q_cx_lt (l := l) (tx := tx) (k := i) (by omega)
  obtain ⟨t1, t2⟩ := q_tx7 hT hi
  have c1' : tx i = 116 := t2 ▸ c1
  have o1 : q_ok 0 tx 0 i 1 5 := q_ok1 (by rw [q_g0 _ t1, c1']; rfl) (by decide)
  obtain ⟨D', -, g⟩ := q96_t hT h c1
  by_cases c2 : 49 ≤ q_cx l tx (i + 1) ∧ q_cx l tx (i + 1) ≤ 57
  · rw [if_pos c2] at g
    have hi1 := q_cx_lt (l := l) (tx := tx) (k := i + 1) (by omega)
    obtain ⟨u1, u2⟩ := q_tx7 hT hi1
    rw [u2] at c2
    have o2 : q_ok 0 tx 0 i 2 6 := q_ok_tr 1 1 i o1 (q_ok1 (by rw [q_g5 _ u1, if_pos c2]) (by decide))
    by_cases c3 : 48 ≤ q_cx l tx (i + 2) ∧ q_cx l tx (i + 2) ≤ 57
    · rw [if_pos c3] at g
      have hi2 := q_cx_lt (l := l) (tx := tx) (k := i + 2) (by omega)
      obtain ⟨w1, w2⟩ := q_tx7 hT hi2
      rw [w2] at c3
      exact ⟨1, D', 3, 1, g.1, g.2.1, by omega, q_ok_tr 2 1 i o2 (q_ok1 (by rw [q_g6 _ w1, if_pos c3]) (by decide)), Or.inl ⟨rfl, Or.inl rfl⟩⟩
    · rw [if_neg c3] at g
      exact ⟨1, D', 2, 6, g.1, g.2.1, by omega, o2, Or.inl ⟨rfl, Or.inr ⟨rfl, c3⟩⟩⟩
  · rw [if_neg c2] at g
    refine ⟨0, D', 1, 5, g.1, g.2, by omega, o1, Or.inr ⟨rfl, by decide, by decide, fun q => ?_⟩⟩
    obtain ⟨u1, u2⟩ := q_tx7 hT q
    rw [u2] at c2
    rw [q_g5 _ u1, if_neg c2]
theorem q96m_l (hT : q_T D0 l tx) (h : q_ps D0 D i) (c1 : q_cx l tx i = 108) : ∃ b D' k s', m96 D = some (b, D') ∧ q_ps D0 D' (i + k) ∧ q_pe l tx i k b s' := by
  have hi := q_cx_lt (l := l) (tx := tx) (k := i) (by omega)
  obtain ⟨t1, t2⟩ := q_tx7 hT hi
  have c1' : tx i = 108 := t2 ▸ c1
  have o1 : q_ok 0 tx 0 i 1 2 := q_ok1 (by rw [q_g0 _ t1, c1']; rfl) (by decide)
  obtain ⟨D', g⟩ := q96_l hT h c1
  by_cases c2 : 48 ≤ q_cx l tx (i + 1) ∧ q_cx l tx (i + 1) ≤ 54
  · rw [if_pos c2] at g
    have hi1 := q_cx_lt (l := l) (tx := tx) (k := i + 1) (by omega)
    obtain ⟨u1, u2⟩ := q_tx7 hT hi1
    rw [u2] at c2
    obtain ⟨a, ha⟩ : ∃ a, a = tx (i + 1) - 48 := ⟨_, rfl⟩
    have e10 : tx (i + 1) - 38 = a + 10 := by omega
    have o2 : q_ok 0 tx 0 i 2 (Int32.ofNat (a + 10)) := q_ok_tr 1 1 i o1 (q_ok1 (by rw [q_g2 _ u1, if_pos c2, e10]) (q_nm (by omega)))
    by_cases c3 : q_cx l tx (i + 1) ≤ q_cx l tx (i + 2) ∧ q_cx l tx (i + 2) ≤ 54
    · rw [if_pos c3] at g
      have hi2 := q_cx_lt (l := l) (tx := tx) (k := i + 2) (by omega)
      obtain ⟨w1, w2⟩ := q_tx7 hT hi2
      rw [u2, w2] at c3
      have o3 : q_ok 0 tx 0 i 3 3 := q_ok_tr 2 1 i o2 (q_ok1 (by rw [q_g10 a (by omega) _ w1, if_pos (by omega)]) (by decide))
      by_cases c4 : q_cx l tx (i + 3) = 60 ∨ q_cx l tx (i + 3) = 62
      · rw [if_pos c4] at g
        have hi3 := q_cx_lt (l := l) (tx := tx) (k := i + 3) (by omega)
        obtain ⟨x1, x2⟩ := q_tx7 hT hi3
        rw [x2] at c4
        exact ⟨1, D', 4, 1, g.1, g.2.1, by omega, q_ok_tr 3 1 i o3 (q_ok1 (by rw [q_g3 _ x1, if_pos c4]) (by decide)), Or.inl ⟨rfl, Or.inl rfl⟩⟩
      · rw [if_neg c4] at g
        refine ⟨0, D', 3, 3, g.1, g.2, by omega, o3, Or.inr ⟨rfl, by decide, by decide, fun q => ?_⟩⟩
        obtain ⟨x1, x2⟩ := q_tx7 hT q
        rw [x2] at c4
        rw [q_g3 _ x1, if_neg c4]
    · rw [if_neg c3] at g
      have n1 : Int32.ofNat (a + 10) ≠ 1 := fun q => by
        have := q_ofN (a := a + 10) (b := 1) (by omega) (by omega) q
        omega
      have n6 : Int32.ofNat (a + 10) ≠ 6 := fun q => by
        have := q_ofN (a := a + 10) (b := 6) (by omega) (by omega) q
        omega
      refine ⟨0, D', 2, Int32.ofNat (a + 10), g.1, g.2, by omega, o2, Or.inr ⟨rfl, n1, n6, fun q => ?_⟩⟩
      obtain ⟨w1, w2⟩ := q_tx7 hT q
      rw [u2, w2] at c3
      rw [q_g10 a (by omega) _ w1, if_neg (by omega)]
  · rw [if_neg c2] at g
    refine ⟨0, D', 1, 2, g.1, g.2, by omega, o1, Or.inr ⟨rfl, by decide, by decide, fun q => ?_⟩⟩
    obtain ⟨u1, u2⟩ := q_tx7 hT q
    rw [u2] at c2
    rw [q_g2 _ u1, if_neg c2]
theorem q96m (hT : q_T D0 l tx) (h : q_ps D0 D i) (hi : i ≤ l) : ∃ b D' k s', m96 D = some (b, D') ∧ q_ps D0 D' (i + k) ∧ q_pe l tx i k b s' := by
  by_cases c1 : q_cx l tx i = 112
  · exact q96m_p hT h c1
  · by_cases c2 : q_cx l tx i = 116
    · exact q96m_t hT h c2
    · by_cases c3 : q_cx l tx i = 99
      · exact q96m_c hT h c3
      · by_cases c4 : q_cx l tx i = 108
        · exact q96m_l hT h c4
        · exact q96m_n hT h hi c1 c2 c3 c4
end NK
