/-! texts: the class judges a text -/
section NN
variable {D : am_D} {l : Nat} {tx : Nat → Nat}
theorem q_dead : ∀ c, c < 127 → m242 0 (-1) (Int32.ofNat c) = -1 ∧ m242 1 (-1) (Int32.ofNat c) = -1 := by decide +kernel
theorem q241_d {N : Nat} (hT : q_T D l tx) {o : Int32} (ho : ∀ c, c < 127 → m242 o (-1) (Int32.ofNat c) = -1) : ∀ (r i m : Nat), i + r = l → r < m → m241_L4 N D o m (-1) (Int32.ofNat i) = some (-1)
  | 0, i, m + 1, hi, hm => by
    have h60 := hT.1
    obtain rfl : i = l := by omega
    rw [m241_L4, hT.2.1, if_pos (q_yle (by omega) (Nat.le_refl _))]
  | r + 1, i, m + 1, hi, hm => by
    have h60 := hT.1
    rw [m241_L4, hT.2.1, if_neg (q_nle (by omega) (by omega))]
    simp only [am_lt]
    rw [q234 hT (by omega), ho _ (q_tx7 hT (by omega)).1, show Int32.ofNat i + 1 = Int32.ofNat (i + 1) from q_add i 1]
    exact q241_d hT ho r (i + 1) m (by omega) (by omega)
  | _, _, 0, _, hm => by omega
theorem q241_L {N : Nat} (hT : q_T D l tx) {o : Int32} (ho : ∀ c, c < 127 → m242 o (-1) (Int32.ofNat c) = -1) : ∀ (r i m : Nat) (s : Int32), i + r = l → r < m → q_ok o tx 0 0 i s → ∃ e s' z, m241_L4 N D o m s (Int32.ofNat i) = some z ∧ q_err o tx l e s' ∧ (e = l → z = s') ∧ (e ≠ l → z = -1)
  | 0, i, m + 1, s, hi, hm, h => by
    have h60 := hT.1
    obtain rfl : i = l := by omega
    refine ⟨i, s, s, ?_, ⟨Nat.le_refl _, h, fun q => absurd q (Nat.lt_irrefl _)⟩, fun _ => rfl, fun q => absurd rfl q⟩
    rw [m241_L4, hT.2.1, if_pos (q_yle (by omega) (Nat.le_refl _))]
  | r + 1, i, m + 1, s, hi, hm, h => by
    have h60 := hT.1
    rw [m241_L4, hT.2.1, if_neg (q_nle (by omega) (by omega))]
    simp only [am_lt]
    rw [q234 hT (by omega), show Int32.ofNat i + 1 = Int32.ofNat (i + 1) from q_add i 1]
    by_cases c : m242 o s (Int32.ofNat (tx i)) = -1
    · rw [c, q241_d hT ho r (i + 1) m (by omega) (by omega)]
      exact ⟨i, s, -1, rfl, ⟨by omega, h, fun _ => c⟩, fun q => by omega, fun _ => rfl⟩
    · refine q241_L hT ho r (i + 1) m _ (by omega) (by omega) (q_ok_tr i 1 0 h ?_)
      rw [Nat.zero_add]
      exact ⟨c, rfl⟩
  | _, _, 0, _, _, hm, _ => by omega
theorem q241 {N : Nat} (hN : 2000 ≤ N) (hT : q_T D l tx) {o : Int32} (ho : o = 0 ∨ o = 1) : ∃ b e s', m241 N D o = some b ∧ q_err o tx l e s' ∧ ((b = 1 ∧ e = l ∧ (s' = 1 ∨ s' = 6)) ∨ (b = 0 ∧ ¬ (e = l ∧ (s' = 1 ∨ s' = 6)))) := by
  have h60 := hT.1
  have hd : ∀ c, c < 127 → m242 o (-1) (Int32.ofNat c) = -1 := fun c hc => by
    rcases ho with rfl | rfl
    · exact (q_dead c hc).1
    · exact (q_dead c hc).2
  obtain ⟨e, s', z, h1, h2, h3, h4⟩ := q241_L (N := N) hT hd l 0 N 0 (by omega) (by omega) rfl
  have h1' : m241_L4 N D o N 0 0 = some z := h1
  unfold m241
  rw [h1', Option.bind_some]
  by_cases ce : e = l
  · have hz := h3 ce
    subst hz
    by_cases c1 : z = 1
    · rw [if_pos c1]
      exact ⟨1, e, z, rfl, h2, Or.inl ⟨rfl, ce, Or.inl c1⟩⟩
    · rw [if_neg c1]
      by_cases c6 : z = 6
      · rw [if_pos c6]
        exact ⟨1, e, z, rfl, h2, Or.inl ⟨rfl, ce, Or.inr c6⟩⟩
      · rw [if_neg c6]
        exact ⟨0, e, z, rfl, h2, Or.inr ⟨rfl, fun q => q.2.elim c1 c6⟩⟩
  · have hz := h4 ce
    subst hz
    rw [if_neg (by decide), if_neg (by decide)]
    exact ⟨0, e, s', rfl, h2, Or.inr ⟨rfl, fun q => ce q.1⟩⟩
end NN
