/-! texts: the model reads a lay -/
section NI
variable {D D0 : am_D} {l : Nat} {tx : Nat → Nat} {i : Nat}
theorem q55n : ∀ a, a < 7 → ∀ b, b < 7 → m55 (Int32.ofNat a) (Int32.ofNat b) ≠ -1 := by decide +kernel
/-- what follows a tile, or none -/
theorem q96_lt (hT : q_T D0 l tx) {D4 : am_D} {k : Nat} (h : q_ps D0 D4 k) (hk : k ≤ l) (y : Int32) : ∃ D', ((m91 (am_uI D4 106 8 y)).bind fun q24 => (am_lt (am_uI (am_uI D4 106 8 y) 106 7 q24) fun D26 => (if (D26.1 106 8) = (-1 : Int32) then (some ((0 : Int32), D26)) else ((m92 D26 (60 : Int32)).bind fun q29 => (if q29.1 = 0 then ((m92 q29.2 (62 : Int32)).bind fun q32 => (if q32.1 = 0 then (some ((0 : Int32), q32.2)) else (some ((1 : Int32), q32.2)))) else (some ((1 : Int32), q29.2))))))) = some ((if y = -1 then 0 else if q_cx l tx k = 60 ∨ q_cx l tx k = 62 then 1 else 0), D') ∧ q_ps D0 D' (if y = -1 then k else if q_cx l tx k = 60 ∨ q_cx l tx k = 62 then k + 1 else k) ∧ D'.1 106 7 = Int32.ofNat (q_cx l tx k) ∧ D'.1 106 8 = y := by
  have h1 := q_ps_78 h (Or.inr rfl : 8 = 7 ∨ 8 = 8) y
  have h2 := q_ps_78 h1 (Or.inl rfl : 7 = 7 ∨ 7 = 8) (Int32.ofNat (q_cx l tx k))
  have e1 := q92 hT h2 hk (c := 60) (by omega)
  have h3 := q_ps_6 h2 k
  have e2 := q92 hT h3 hk (c := 62) (by omega)
  have v : ∀ F : am_D, F = am_uI (am_uI D4 106 8 y) 106 7 (Int32.ofNat (q_cx l tx k)) → F.1 106 7 = Int32.ofNat (q_cx l tx k) ∧ F.1 106 8 = y := fun F hF => by
    subst hF
    exact ⟨q_uIs _ _ _ _, by rw [q_uI_at, if_neg (by omega), q_uIs]⟩
  obtain ⟨F, hF⟩ : ∃ F, F = am_uI (am_uI D4 106 8 y) 106 7 (Int32.ofNat (q_cx l tx k)) := ⟨_, rfl⟩
  obtain ⟨v7, v8⟩ := v F hF
  rw [← hF] at e1 e2 h2 h3
  have w : ∀ (G : am_D) (j : Nat), (am_uI G 106 6 (Int32.ofNat j)).1 106 7 = G.1 106 7 ∧ (am_uI G 106 6 (Int32.ofNat j)).1 106 8 = G.1 106 8 := fun G j => ⟨by rw [q_uI_at, if_neg (by omega)], by rw [q_uI_at, if_neg (by omega)]⟩
  have e1' : m92 F (60 : Int32) = _ := e1
  have e2' : m92 (am_uI F 106 6 (Int32.ofNat k)) (62 : Int32) = _ := e2
  rw [q91 hT h1 hk, Option.bind_some]
  simp only [am_lt]
  rw [← hF, v8]
  by_cases cy : y = -1
  · rw [if_pos cy, if_pos cy, if_pos cy]
    exact ⟨F, rfl, h2, v7, v8⟩
  · rw [if_neg cy, if_neg cy, if_neg cy, e1']
    by_cases c1 : q_cx l tx k = 60
    · rw [if_pos c1, if_pos (Or.inl c1), if_pos (Or.inl c1)]
      exact ⟨am_uI F 106 6 (Int32.ofNat (k + 1)), rfl, q_ps_6 h2 _, (w F _).1.trans v7, (w F _).2.trans v8⟩
    · rw [if_neg c1, Option.bind_some]
      dsimp only
      rw [if_pos rfl, e2']
      by_cases c2 : q_cx l tx k = 62
      · rw [if_pos c2, if_pos (Or.inr c2), if_pos (Or.inr c2)]
        exact ⟨am_uI (am_uI F 106 6 (Int32.ofNat k)) 106 6 (Int32.ofNat (k + 1)), rfl, q_ps_6 h3 _, ((w _ _).1.trans (w F _).1).trans v7, ((w _ _).2.trans (w F _).2).trans v8⟩
      · rw [if_neg c2, if_neg (fun q => q.elim c1 c2), if_neg (fun q => q.elim c1 c2)]
        exact ⟨am_uI (am_uI F 106 6 (Int32.ofNat k)) 106 6 (Int32.ofNat k), rfl, q_ps_6 h3 _, ((w _ _).1.trans (w F _).1).trans v7, ((w _ _).2.trans (w F _).2).trans v8⟩
theorem q96_l (hT : q_T D0 l tx) (h : q_ps D0 D i) (c0 : q_cx l tx i = 108) : ∃ D',
    (if 48 ≤ q_cx l tx (i + 1) ∧ q_cx l tx (i + 1) ≤ 54 then (if q_cx l tx (i + 1) ≤ q_cx l tx (i + 2) ∧ q_cx l tx (i + 2) ≤ 54 then (if q_cx l tx (i + 3) = 60 ∨ q_cx l tx (i + 3) = 62 then (m96 D = some (1, D') ∧ q_ps D0 D' (i + 4) ∧ D'.1 106 7 = Int32.ofNat (q_cx l tx (i + 3)) ∧ D'.1 106 8 = m55 (Int32.ofNat (q_cx l tx (i + 1) - 48)) (Int32.ofNat (q_cx l tx (i + 2) - 48))) else (m96 D = some (0, D') ∧ q_ps D0 D' (i + 3))) else (m96 D = some (0, D') ∧ q_ps D0 D' (i + 2))) else (m96 D = some (0, D') ∧ q_ps D0 D' (i + 1))) := by
  have hi := q_cx_lt (l := l) (tx := tx) (k := i) (by omega)
  obtain ⟨D3, p1, p2, p3⟩ := q96_pre hT h (by omega) (by omega)
  have e2 := q92 hT p1 (by omega) (c := 116) (by omega)
  rw [if_neg (by omega)] at e2
  have p4 := q_ps_6 p1 i
  have e3 := q92 hT p4 (by omega) (c := 99) (by omega)
  rw [if_neg (by omega)] at e3
  have p5 := q_ps_6 p4 i
  have e4 := q92 hT p5 (by omega) (c := 108) (by omega)
  rw [if_pos c0] at e4
  have p6 := q_ps_6 p5 (i + 1)
  obtain ⟨F, hF⟩ : ∃ F, F = am_uI (am_uI (am_uI D3 106 6 (Int32.ofNat i)) 106 6 (Int32.ofNat i)) 106 6 (Int32.ofNat (i + 1)) := ⟨_, rfl⟩
  rw [← hF] at p6 e4
  have em : ∀ (y : Int32) (G : am_D), m94 F = some (y, G) → m96 D = ((m91 (am_uI G 106 8 y)).bind fun q24 => (am_lt (am_uI (am_uI G 106 8 y) 106 7 q24) fun D26 => (if (D26.1 106 8) = (-1 : Int32) then (some ((0 : Int32), D26)) else ((m92 D26 (60 : Int32)).bind fun q29 => (if q29.1 = 0 then ((m92 q29.2 (62 : Int32)).bind fun q32 => (if q32.1 = 0 then (some ((0 : Int32), q32.2)) else (some ((1 : Int32), q32.2)))) else (some ((1 : Int32), q29.2))))))) := fun y G hG => by
    rw [p3]
    show (m92 _ (Int32.ofNat 116)).bind _ = _
    rw [e2, Option.bind_some]
    dsimp only
    rw [if_pos rfl]
    show (m92 _ (Int32.ofNat 99)).bind _ = _
    rw [e3, Option.bind_some]
    dsimp only
    rw [if_pos rfl]
    show (m92 _ (Int32.ofNat 108)).bind _ = _
    rw [e4, Option.bind_some]
    dsimp only
    rw [if_neg (show ¬ (1 : Int32) = 0 by decide), hG]
    rfl
  by_cases c1 : 48 ≤ q_cx l tx (i + 1) ∧ q_cx l tx (i + 1) ≤ 54
  · have hi1 := q_cx_lt (l := l) (tx := tx) (k := i + 1) (by omega)
    by_cases c2 : q_cx l tx (i + 1) ≤ q_cx l tx (i + 2) ∧ q_cx l tx (i + 2) ≤ 54
    · have hi2 := q_cx_lt (l := l) (tx := tx) (k := i + 2) (by omega)
      have e5 := q94c hT p6 c1 c2
      obtain ⟨D', g1, g2, g3, g4⟩ := q96_lt hT (q_ps_6 (q_ps_6 p6 (i + 2)) (i + 3)) (by omega) (m55 (Int32.ofNat (q_cx l tx (i + 1) - 48)) (Int32.ofNat (q_cx l tx (i + 2) - 48)))
      have hne := q55n (q_cx l tx (i + 1) - 48) (by omega) (q_cx l tx (i + 2) - 48) (by omega)
      rw [if_neg hne] at g1 g2
      refine ⟨D', ?_⟩
      rw [if_pos c1, if_pos c2, em _ _ e5]
      by_cases c3 : q_cx l tx (i + 3) = 60 ∨ q_cx l tx (i + 3) = 62
      · rw [if_pos c3] at g1 g2 ⊢
        exact ⟨g1, g2, g3, g4⟩
      · rw [if_neg c3] at g1 g2 ⊢
        exact ⟨g1, g2⟩
    · have e5 := q94b hT p6 c1 c2
      obtain ⟨D', g1, g2, g3, g4⟩ := q96_lt hT (q_ps_6 (q_ps_6 p6 (i + 2)) (i + 2)) (by omega) (-1)
      rw [if_pos rfl] at g1 g2
      refine ⟨D', ?_⟩
      rw [if_pos c1, if_neg c2, em _ _ e5]
      exact ⟨g1, g2⟩
  · have e5 := q94a hT p6 (by omega) c1
    obtain ⟨D', g1, g2, g3, g4⟩ := q96_lt hT (q_ps_6 p6 (i + 1)) (by omega) (-1)
    rw [if_pos rfl] at g1 g2
    refine ⟨D', ?_⟩
    rw [if_neg c1, em _ _ e5]
    exact ⟨g1, g2⟩
end NI
