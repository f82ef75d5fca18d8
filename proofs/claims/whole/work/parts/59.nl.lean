/-! texts: the model reads a game -/
section NL
variable {D D0 : am_D} {l : Nat} {tx : Nat → Nat}
theorem q97_L {N : Nat} (hT : q_T D0 l tx) : ∀ (m i : Nat) (D : am_D), i ≤ l → l < i + m → q_ps D0 D i → q_ok 0 tx 0 0 i 0 → ∃ c D' e s', m97_L5 N m D = some (c, D') ∧ q_ps D0 D' e ∧ q_err 0 tx l e s' ∧ (c = 1 ↔ (e = l ∧ (s' = 1 ∨ s' = 6)))
  | 0, i, D, hi, hm, _, _ => by omega
  | m + 1, i, D, hi, hm, h, ho => by
    have h60 := hT.1
    obtain ⟨b, D1, k, s', e1, p1, hk, ok, hcase⟩ := q96m hT h hi
    have ok' : q_ok 0 tx 0 0 (i + k) s' := q_ok_tr i k 0 ho (by rw [Nat.zero_add]; exact ok)
    have e5 : D1.1 106 5 = Int32.ofNat l := by rw [p1.2.1 5 (by omega) (by omega) (by omega)]; exact hT.2.2.1
    rw [m97_L5, e1, Option.bind_some]
    dsimp only
    rcases hcase with ⟨rfl, hs⟩ | ⟨rfl, n1, n6, herr⟩
    · rw [if_neg (show ¬ (1 : Int32) = 0 by decide), p1.2.2.1, e5]
      by_cases c : i + k = l
      · rw [if_pos (by rw [c])]
        exact ⟨1, D1, i + k, s', rfl, p1, ⟨hk, ok', fun q => by omega⟩, ⟨fun _ => ⟨c, hs.imp id (fun q => q.1)⟩, fun _ => rfl⟩⟩
      · have hlt : i + k < l := by omega
        obtain ⟨t1, t2⟩ := q_tx7 hT hlt
        have e2 := q92 hT p1 hk (c := 59) (by omega)
        have e2' : m92 D1 (59 : Int32) = _ := e2
        rw [if_neg (show ¬ Int32.ofNat (i + k) = Int32.ofNat l by rw [q_eq (by omega) (by omega)]; exact c), e2', Option.bind_some]
        by_cases c2 : q_cx l tx (i + k) = 59
        · rw [if_pos c2]
          dsimp only
          rw [if_neg (show ¬ (1 : Int32) = 0 by decide)]
          rw [t2] at c2
          refine q97_L hT m (i + k + 1) _ (by omega) (by omega) (q_ps_6 p1 _) (q_ok_tr (i + k) 1 0 ok' ?_)
          rw [Nat.zero_add]
          refine q_ok1 ?_ (by decide)
          rcases hs with rfl | ⟨rfl, hd⟩
          · rw [q_g1 _ t1, if_pos c2]
          · rw [q_g6 _ t1, if_neg (by omega), if_pos c2]
        · rw [if_neg c2]
          dsimp only
          rw [if_pos rfl]
          refine ⟨2, _, i + k, s', rfl, q_ps_6 p1 _, ⟨hk, ok', fun _ => ?_⟩, ⟨fun q => by omega, fun q => absurd q.1 c⟩⟩
          rcases hs with rfl | ⟨rfl, hd⟩
          · rw [t2] at c2
            rw [q_g1 _ t1, if_neg c2]
          · rw [t2] at c2 hd
            rw [q_g6 _ t1, if_neg hd, if_neg c2]
    · rw [if_pos rfl]
      exact ⟨0, D1, i + k, s', rfl, p1, ⟨hk, ok', herr⟩, ⟨fun q => by omega, fun q => by rcases q.2 with q | q <;> contradiction⟩⟩
theorem q97 {N : Nat} (hN : 2000 ≤ N) (hT : q_T D l tx) : ∃ b D' e s', m97 N D = some (b, D') ∧ q_ps D D' e ∧ q_err 0 tx l e s' ∧ ((b = 1 ∧ e = l ∧ (s' = 1 ∨ s' = 6)) ∨ (b = 0 ∧ ¬ (e = l ∧ (s' = 1 ∨ s' = 6)))) := by
  have h60 := hT.1
  have p0 : q_ps D (am_uI D 106 6 0) 0 := ⟨fun a ha => q_uI_ne _ ha, fun j h1 h2 h3 => by rw [q_uI_at, if_neg (by omega)], q_uIs _ _ _ _, rfl⟩
  obtain ⟨c, D', e, s', h1, h2, h3, h4⟩ := q97_L (N := N) hT N 0 (am_uI D 106 6 0) (by omega) (by omega) p0 rfl
  unfold m97
  simp only [am_lt]
  rw [h1, Option.bind_some]
  dsimp only
  by_cases c0 : c = 0
  · rw [if_pos c0]
    exact ⟨0, D', e, s', rfl, h2, h3, Or.inr ⟨rfl, fun q => by have := h4.mpr q; omega⟩⟩
  · rw [if_neg c0]
    by_cases c1 : c = 1
    · rw [if_pos c1]
      exact ⟨1, D', e, s', rfl, h2, h3, Or.inl ⟨rfl, h4.mp c1⟩⟩
    · rw [if_neg c1]
      exact ⟨0, D', e, s', rfl, h2, h3, Or.inr ⟨rfl, fun q => c1 (h4.mpr q)⟩⟩
end NL
