/-! texts: a part of a game and the machine of states -/
section NJ
variable {D D0 : am_D} {l : Nat} {tx : Nat → Nat} {i : Nat}
theorem q_g0 : ∀ c, c < 127 → m242 0 0 (Int32.ofNat c) = if c = 99 then 4 else if c = 108 then 2 else if c = 112 then 1 else if c = 116 then 5 else -1 := by decide +kernel
theorem q_g1 : ∀ c, c < 127 → m242 0 1 (Int32.ofNat c) = if c = 59 then 0 else -1 := by decide +kernel
theorem q_g2 : ∀ c, c < 127 → m242 0 2 (Int32.ofNat c) = if 48 ≤ c ∧ c ≤ 54 then Int32.ofNat (c - 38) else -1 := by decide +kernel
theorem q_g10 : ∀ c', c' < 7 → ∀ c, c < 127 → m242 0 (Int32.ofNat (c' + 10)) (Int32.ofNat c) = if c' + 48 ≤ c ∧ c ≤ 54 then 3 else -1 := by decide +kernel
theorem q_g3 : ∀ c, c < 127 → m242 0 3 (Int32.ofNat c) = if c = 60 ∨ c = 62 then 1 else -1 := by decide +kernel
theorem q_g4 : ∀ c, c < 127 → m242 0 4 (Int32.ofNat c) = if c = 43 ∨ c = 45 then 1 else -1 := by decide +kernel
theorem q_g5 : ∀ c, c < 127 → m242 0 5 (Int32.ofNat c) = if 49 ≤ c ∧ c ≤ 57 then 6 else -1 := by decide +kernel
theorem q_g6 : ∀ c, c < 127 → m242 0 6 (Int32.ofNat c) = if 48 ≤ c ∧ c ≤ 57 then 1 else if c = 59 then 0 else -1 := by decide +kernel
/-- one character more -/
theorem q_ok1 {o s s' : Int32} (h : m242 o s (Int32.ofNat (tx i)) = s') (hn : s' ≠ -1) : q_ok o tx s i 1 s' := ⟨by rw [h]; exact hn, h.symm⟩
def q_pe (l : Nat) (tx : Nat → Nat) (i k : Nat) (b s' : Int32) : Prop := i + k ≤ l ∧ q_ok 0 tx 0 i k s' ∧ ((b = 1 ∧ (s' = 1 ∨ (s' = 6 ∧ ¬ (48 ≤ q_cx l tx (i + k) ∧ q_cx l tx (i + k) ≤ 57)))) ∨ (b = 0 ∧ s' ≠ 1 ∧ s' ≠ 6 ∧ (i + k < l → m242 0 s' (Int32.ofNat (tx (i + k))) = -1)))
theorem q_tx7 (hT : q_T D0 l tx) {k : Nat} (hk : k < l) : tx k < 127 ∧ q_cx l tx k = tx k := ⟨by have := (hT.2.2.2 k hk).2.2.2; omega, by unfold q_cx; rw [if_pos hk]⟩
theorem q96m_n (hT : q_T D0 l tx) (h : q_ps D0 D i) (hi : i ≤ l) (c1 : q_cx l tx i ≠ 112) (c2 : q_cx l tx i ≠ 116) (c3 : q_cx l tx i ≠ 99) (c4 : q_cx l tx i ≠ 108) : ∃ b D' k s', m96 D = some (b, D') ∧ q_ps D0 D' (i + k) ∧ q_pe l tx i k b s' := by
  obtain ⟨D', g1, g2⟩ := q96_n hT h hi c1 c2 c3 c4
  refine ⟨0, D', 0, 0, g1, g2, hi, rfl, Or.inr ⟨rfl, by decide, by decide, fun q => ?_⟩⟩
  obtain ⟨t1, t2⟩ := q_tx7 hT (k := i) q
  rw [t2] at c1 c2 c3 c4
  rw [Nat.add_zero, q_g0 _ t1, if_neg c3, if_neg c4, if_neg c1, if_neg c2]
theorem q96m_p (hT : q_T D0 l tx) (h : q_ps D0 D i) (c1 : q_cx l tx i = 112) : ∃ b D' k s', m96 D = some (b, D') ∧ q_ps D0 D' (i + k) ∧ q_pe l tx i k b s' := by
  have hi := q_cx_lt (l := l) (tx := tx) (k := i) (by omega)
  obtain ⟨t1, t2⟩ := q_tx7 hT hi
  rw [t2] at c1
  obtain ⟨D', g1, g2, g3⟩ := q96_p hT h (by rw [t2]; exact c1)
  refine ⟨1, D', 1, 1, g1, g2, by omega, q_ok1 (by rw [q_g0 _ t1, c1]; rfl) (by decide), Or.inl ⟨rfl, Or.inl rfl⟩⟩
theorem q96m_c (hT : q_T D0 l tx) (h : q_ps D0 D i) (c1 : q_cx l tx i = 99) : ∃ b D' k s', m96 D = some (b, D') ∧ q_ps D0 D' (i + k) ∧ q_pe l tx i k b s' := by
  have hi := q_cx_lt (l := l) (tx := tx) (k := i) (by omega)
  obtain ⟨t1, t2⟩ := q_tx7 hT hi
  have o1 : q_ok 0 tx 0 i 1 4 := q_ok1 (by rw [q_g0 _ t1, if_pos (t2 ▸ c1)]) (by decide)
  obtain ⟨D', g⟩ := q96_c hT h c1
  by_cases c2 : q_cx l tx (i + 1) = 43 ∨ q_cx l tx (i + 1) = 45
  · rw [if_pos c2] at g
    have hi1 := q_cx_lt (l := l) (tx := tx) (k := i + 1) (by omega)
    obtain ⟨u1, u2⟩ := q_tx7 hT hi1
    rw [u2] at c2
    exact ⟨1, D', 2, 1, g.1, g.2.1, by omega, q_ok_tr 1 1 i o1 (q_ok1 (by rw [q_g4 _ u1, if_pos c2]) (by decide)), Or.inl ⟨rfl, Or.inl rfl⟩⟩
  · rw [if_neg c2] at g
    refine ⟨0, D', 1, 4, g.1, g.2, by omega, o1, Or.inr ⟨rfl, by decide, by decide, fun q => ?_⟩⟩
    obtain ⟨u1, u2⟩ := q_tx7 hT q
    rw [u2] at c2
    rw [q_g4 _ u1, if_neg c2]
end NJ
