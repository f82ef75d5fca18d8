/-! the first error of a game: the call -/
section NO
variable {D : am_D} {l : Nat} {tx : Nat → Nat}
theorem q_ps_E {D0 : am_D} {i : Nat} (h : q_ps D0 D i) : q_E D0 D := ⟨fun a ha => h.1 a (by omega), ⟨h.2.1 2 (by omega) (by omega) (by omega), h.2.1 3 (by omega) (by omega) (by omega), h.2.1 5 (by omega) (by omega) (by omega)⟩, by rw [h.2.2.2]⟩
theorem q_E_T {D' : am_D} (h : q_E D D') (hT : q_T D l tx) : q_T D' l tx := by
  obtain ⟨h1, h2, h3, h4⟩ := hT
  refine ⟨h1, ?_, ?_, fun k hk => ?_⟩
  · rw [h.1 91 (by omega)]; exact h2
  · rw [h.2.1.2.2]; exact h3
  · rw [h.1 92 (by omega), h.1 108 (by omega)]; exact h4 k hk
theorem g_fe0 {N : Nat} (hN : 2000 ≤ N) (hI : q_I D) : q_G (fun D => m270 N D 0) (fun D => m99 N D 0) D := by
  obtain ⟨l, tx, hT⟩ := q_I_T hI
  obtain ⟨e, s', h1, h2⟩ := q240 (N := N) hN hT 0
  have hE := q_mE D (Int32.ofNat e).toInt64 0
  obtain ⟨b, D2, e', s'', g1, g2, g3, g4⟩ := q97 (N := N) hN (q_E_T hE hT)
  obtain ⟨rfl, -⟩ := q_err_un h2 g3
  have e5 : D2.1 106 5 = Int32.ofNat l := by rw [g2.2.1 5 (by omega) (by omega) (by omega)]; exact (q_E_T hE hT).2.2.1
  refine q_G_ok (D' := D) (D2 := D2) (Int32.ofNat e) ?_ ?_ ?_ ?_ (q_E_I (hE.tr (q_ps_E g2)) hI)
  · show m270 N D 0 = _
    unfold m270 m12
    rw [if_neg (show ¬ m43 0 = 0 by decide), h1]
    rfl
  · show m99 N _ 0 = _
    unfold m99
    rw [show m46 0 0 1 = 1 from rfl]
    simp only [am_lt, q_10, if_false, q47a, if_true, g1, Option.bind_some]
    rcases g4 with ⟨rfl, c, -⟩ | ⟨rfl, -⟩
    · rw [if_neg (show ¬ (1 : Int32) = 0 by decide), e5, ← c]
    · rw [if_pos rfl, g2.2.2.1]
  · rw [g2.2.1 0 (by omega) (by omega) (by omega)]; exact q_uIs _ _ _ _
  · rw [g2.2.2.2]; rfl
end NO
