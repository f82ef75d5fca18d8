/-! giveAll: the call -/
section OC
variable {D D1 : am_D} {N n p l : Nat} {T V : Nat → Nat} {tx : Nat → Nat}
theorem g_giveAll (hN : 2000 ≤ N) (hI : q_I D) : q_G (fun D => m272 N D) (fun D => m102 N D) D := by
  obtain ⟨n, p, T, V, hK⟩ := q_I_K hI
  obtain ⟨l, tx, hT⟩ := q_I_T hI
  have h60 := hT.1
  obtain ⟨b, e, s', h1, h2, h3⟩ := q241 (N := N) hN hT (o := 1) (Or.inr rfl)
  rcases h3 with ⟨rfl, rfl, hs⟩ | ⟨rfl, hn⟩
  · obtain ⟨D1, d1, d2⟩ := q_sav hI
    have hl0 : 0 < e := by
      by_cases c : e = 0
      · subst c
        have : s' = 0 := h2.2.1
        subst this
        rcases hs with q | q <;> exact absurd q (by decide)
      · omega
    have hL := q39_L (N := N) hN h2.2.1 hs e
    obtain ⟨w1, w2, w3, w4⟩ := q_txG hI d2 hT hK
    obtain ⟨d, D', M0, y, hd, a1, -, a3⟩ := hL 0 0 D1 _ N N (-1) 0 1 hl0 (by omega) (by omega) (by omega) (by omega) w1 w2 ⟨_, _, _, _, w3⟩ w4 (Or.inl ⟨rfl, rfl⟩)
    obtain ⟨X1, y1, y2, y3, y4, y5⟩ := q_txX (F := fun D => m98 N D) (fun D M => j98) (fun hT => q98 hN hT) d2 hT h2 hs ⟨a3.2.1, a3.2.2.1⟩ (Int32.ofNat d).toInt64
    have z1 : ∀ a, 107 ≤ a → (am_uI X1 106 0 0).1 a = D.1 a := fun a ha => by rw [q_uI_ne _ (by omega)]; exact y2 a ha
    have z2 : ∀ j, j ≠ 0 → j ≠ 6 → j ≠ 7 → j ≠ 8 → (am_uI X1 106 0 0).1 106 j = D.1 106 j := fun j b1 b2 b3 b4 => by rw [q_uI_at, if_neg (by omega)]; exact y3 j b2 b3 b4
    obtain ⟨o, m, -, hm, -, -, hm5, -⟩ := q_I_hs hI
    obtain ⟨E, e1, e2⟩ := q76 hN (D := am_uI X1 106 0 0) hm (by rw [z2 2 (by omega) (by omega) (by omega) (by omega)]; exact hm5)
    obtain ⟨v1, v2, v3, v4⟩ := q_txF hI d2 z1 z2 e2 hT hK
    obtain ⟨d', D'', M', y', -, b1, b2, b3⟩ := hL 0 0 D1 _ N N (-1) 0 1 hl0 (by omega) (by omega) (by omega) (by omega) v1 v2 ⟨_, _, _, _, v3⟩ v4 (Or.inl ⟨rfl, rfl⟩)
    rw [a1] at b1
    have hinj := Option.some.inj b1
    have hdd : Int32.ofNat d' = Int32.ofNat d := (congrArg (fun z => z.2.1) hinj).symm
    have hDD : D'' = D' := (congrArg (fun z => z.2.2) hinj).symm
    subst hDD
    rw [hdd] at b2
    obtain ⟨r1, r2, r3⟩ := q_txI hI d2 z1 z2 (fun a ha => by rw [q_uI_ne _ (by omega)]; exact y4 a ha) (show (am_uI X1 106 0 0).2 = _ from y5) e2 b3
    refine q_G_ok (D' := am_uI D'' 91 1 0) (D2 := am_uI M' 106 5 0) (Int32.ofNat d) ?_ ?_ ?_ ?_ r1
    · show m272 N D = _
      have a1' : m39 N D1 = some (Int32.ofNat d, D'') := by
        have : m39_L6 N N D1 0 (-1) 0 = _ := a1
        unfold m39
        rw [this, Option.bind_some, ite_self]
      unfold m272 m14
      rw [h1, Option.bind_some, if_neg (show ¬ (1 : Int32) = 0 by decide), d1, Option.bind_some, a1']
      rfl
    · show m102 N _ = _
      have y1' : m98 N (am_uJ (am_uI D'' 91 1 0) 124 0 (Int32.ofNat d).toInt64) = some (1, X1) := y1
      have b2' : m102_L39 N N (am_uI E 106 6 0) 0 0 1 1 = _ := b2
      unfold m102
      rw [y1', Option.bind_some]
      simp only [am_lt]
      rw [if_neg (show ¬ (1 : Int32) = 0 by decide), q47a]
      dsimp only
      rw [if_neg (show ¬ (1 : Int32) = 0 by decide), e1, Option.bind_some, b2', Option.bind_some]
    · rw [r2]; exact q_uIs _ _ _ _
    · rw [r3]
      show X1.2.1 124 = _
      rw [y5]; rfl
  · obtain ⟨b', D', e', s'', g1, g2, g3, g4⟩ := q98 (N := N) hN hT
    obtain ⟨rfl, rfl⟩ := q_err_un h2 g3
    have hb : b' = 0 := by
      rcases g4 with h | h
      · exact absurd h.2 hn
      · exact h.1
    subst hb
    refine ⟨1, D, 0, am_uI D' 106 0 1, ?_, ?_, q_uIs _ _ _ _, fun q => absurd q (by decide), q_E_I ((q_ps_E g2).tr (q_E_uI (by omega))) hI⟩
    · show m272 N D = _
      unfold m272 m14
      rw [h1, Option.bind_some, if_pos rfl]
      rfl
    · show m102 N D = _
      unfold m102
      rw [g1, Option.bind_some]
      simp only [am_lt, if_true, q47b]
end OC
