/-! texts: the model reads a part, by its first character -/
section NH
variable {D D0 : am_D} {l : Nat} {tx : Nat → Nat} {i : Nat}
theorem q96_t (hT : q_T D0 l tx) (h : q_ps D0 D i) (c0 : q_cx l tx i = 116) : ∃ D', D'.1 106 7 = Int32.ofNat 116 ∧
    (if 49 ≤ q_cx l tx (i + 1) ∧ q_cx l tx (i + 1) ≤ 57 then (if 48 ≤ q_cx l tx (i + 2) ∧ q_cx l tx (i + 2) ≤ 57 then (m96 D = some (1, D') ∧ q_ps D0 D' (i + 3) ∧ D'.1 106 8 = Int32.ofNat (10 * (q_cx l tx (i + 1) - 48) + (q_cx l tx (i + 2) - 48))) else (m96 D = some (1, D') ∧ q_ps D0 D' (i + 2) ∧ D'.1 106 8 = Int32.ofNat (q_cx l tx (i + 1) - 48))) else (m96 D = some (0, D') ∧ q_ps D0 D' (i + 1))) := by
  have hi := q_cx_lt (l := l) (tx := tx) (k := i) (by omega)
  obtain ⟨D3, p1, p2, p3⟩ := q96_pre hT h (by omega) (by omega)
  have e2 := q92 hT p1 (by omega) (c := 116) (by omega)
  rw [if_pos c0] at e2
  obtain ⟨D', g1, g2⟩ := q95 hT (q_ps_6 p1 (i + 1)) (by omega)
  have em : ∀ b, (b = 0 ∨ b = 1) → m95 (am_uI D3 106 6 (Int32.ofNat (i + 1))) = some (b, D') → m96 D = some (b, D') := fun b hb q => by
    rw [p3]
    show (m92 _ (Int32.ofNat 116)).bind _ = _
    rw [e2, Option.bind_some]
    dsimp only
    rw [if_neg (show ¬ (1 : Int32) = 0 by decide), q, Option.bind_some]
    rcases hb with rfl | rfl
    · exact if_pos (show (0 : Int32) &&& 1 = 0 by decide)
    · exact if_pos (show (1 : Int32) &&& 1 = 1 by decide)
  refine ⟨D', ?_, ?_⟩
  · rw [g1, q_uI_at, if_neg (by omega), p2, c0]
  · by_cases c1 : 49 ≤ q_cx l tx (i + 1) ∧ q_cx l tx (i + 1) ≤ 57
    · rw [if_pos c1] at g2 ⊢
      by_cases c2 : 48 ≤ q_cx l tx (i + 1 + 1) ∧ q_cx l tx (i + 1 + 1) ≤ 57
      · rw [if_pos c2] at g2
        rw [if_pos (show 48 ≤ q_cx l tx (i + 2) ∧ q_cx l tx (i + 2) ≤ 57 from c2)]
        exact ⟨em 1 (Or.inr rfl) g2.1, g2.2.1, g2.2.2⟩
      · rw [if_neg c2] at g2
        rw [if_neg (show ¬ (48 ≤ q_cx l tx (i + 2) ∧ q_cx l tx (i + 2) ≤ 57) from c2)]
        exact ⟨em 1 (Or.inr rfl) g2.1, g2.2.1, g2.2.2⟩
    · rw [if_neg c1] at g2 ⊢
      exact ⟨em 0 (Or.inl rfl) g2.1, g2.2⟩
theorem q96_c (hT : q_T D0 l tx) (h : q_ps D0 D i) (c0 : q_cx l tx i = 99) : ∃ D',
    (if q_cx l tx (i + 1) = 43 ∨ q_cx l tx (i + 1) = 45 then (m96 D = some (1, D') ∧ q_ps D0 D' (i + 2) ∧ D'.1 106 7 = Int32.ofNat 99 ∧ D'.1 106 8 = (if q_cx l tx (i + 1) = 43 then 1 else 0)) else (m96 D = some (0, D') ∧ q_ps D0 D' (i + 1))) := by
  have hi := q_cx_lt (l := l) (tx := tx) (k := i) (by omega)
  have h126 := (q_cx_le hT (i + 1)).1
  obtain ⟨D3, p1, p2, p3⟩ := q96_pre hT h (by omega) (by omega)
  have e2 := q92 hT p1 (by omega) (c := 116) (by omega)
  rw [if_neg (by omega)] at e2
  have p4 := q_ps_6 p1 i
  have e3 := q92 hT p4 (by omega) (c := 99) (by omega)
  rw [if_pos c0] at e3
  have p5 := q_ps_6 p4 (i + 1)
  obtain ⟨y, hy⟩ : ∃ y : Int32, y = (if q_cx l tx (i + 1) = 43 then (1 : Int32) else 0) := ⟨_, rfl⟩
  have p6 := q_ps_78 p5 (Or.inr rfl : 8 = 7 ∨ 8 = 8) y
  have e4 := q92 hT p6 (by omega) (c := 43) (by omega)
  have p7 := q_ps_6 p6 (i + 1)
  have e5 := q92 hT p7 (by omega) (c := 45) (by omega)
  have eq43 : (if Int32.ofNat (q_cx l tx (i + 1)) = (43 : Int32) then (1 : Int32) else 0) = y := by
    rw [hy]
    by_cases c : q_cx l tx (i + 1) = 43
    · rw [if_pos c, if_pos (show Int32.ofNat (q_cx l tx (i + 1)) = 43 by rw [c]; rfl)]
    · have hne : ¬ Int32.ofNat (q_cx l tx (i + 1)) = 43 := fun q => c (q_ofN (b := 43) (by omega) (by omega) q)
      rw [if_neg c, if_neg hne]
  have em : m96 D = ((m92 (am_uI (am_uI (am_uI D3 106 6 (Int32.ofNat i)) 106 6 (Int32.ofNat (i + 1))) 106 8 y) (43 : Int32)).bind fun q43 => (if q43.1 = 0 then ((m92 q43.2 (45 : Int32)).bind fun q46 => (if q46.1 = 0 then (some ((0 : Int32), q46.2)) else (some ((1 : Int32), q46.2)))) else (some ((1 : Int32), q43.2)))) := by
    rw [p3]
    show (m92 _ (Int32.ofNat 116)).bind _ = _
    rw [e2, Option.bind_some]
    dsimp only
    rw [if_pos rfl]
    show (m92 _ (Int32.ofNat 99)).bind _ = _
    rw [e3, Option.bind_some]
    dsimp only
    rw [if_neg (show ¬ (1 : Int32) = 0 by decide), q91 hT p5 (by omega), Option.bind_some]
    simp only [am_lt]
    rw [eq43]
  have e4' : m92 (am_uI (am_uI (am_uI D3 106 6 (Int32.ofNat i)) 106 6 (Int32.ofNat (i + 1))) 106 8 y) (43 : Int32) = _ := e4
  have v7 : ∀ j, (am_uI (am_uI (am_uI (am_uI D3 106 6 (Int32.ofNat i)) 106 6 (Int32.ofNat (i + 1))) 106 8 y) 106 6 (Int32.ofNat j)).1 106 7 = Int32.ofNat 99 ∧ (am_uI (am_uI (am_uI (am_uI D3 106 6 (Int32.ofNat i)) 106 6 (Int32.ofNat (i + 1))) 106 8 y) 106 6 (Int32.ofNat j)).1 106 8 = y := fun j => by
    constructor
    · rw [q_uI_at, if_neg (by omega), q_uI_at, if_neg (by omega), q_uI_at, if_neg (by omega), q_uI_at, if_neg (by omega), p2, c0]
    · rw [q_uI_at, if_neg (by omega), q_uIs]
  rw [em, e4']
  by_cases c1 : q_cx l tx (i + 1) = 43
  · refine ⟨am_uI (am_uI (am_uI (am_uI D3 106 6 (Int32.ofNat i)) 106 6 (Int32.ofNat (i + 1))) 106 8 y) 106 6 (Int32.ofNat (i + 2)), ?_⟩
    rw [if_pos (Or.inl c1), if_pos c1, ← hy]
    exact ⟨rfl, q_ps_6 p6 (i + 2), (v7 _).1, (v7 _).2⟩
  · have e5' : m92 (am_uI (am_uI (am_uI (am_uI D3 106 6 (Int32.ofNat i)) 106 6 (Int32.ofNat (i + 1))) 106 8 y) 106 6 (Int32.ofNat (i + 1))) (45 : Int32) = _ := e5
    have z : ∀ X : Int32 × am_D, ((some (if q_cx l tx (i + 1) = 43 then ((1 : Int32), am_uI (am_uI (am_uI (am_uI D3 106 6 (Int32.ofNat i)) 106 6 (Int32.ofNat (i + 1))) 106 8 y) 106 6 (Int32.ofNat (i + 1 + 1))) else ((0 : Int32), am_uI (am_uI (am_uI (am_uI D3 106 6 (Int32.ofNat i)) 106 6 (Int32.ofNat (i + 1))) 106 8 y) 106 6 (Int32.ofNat (i + 1))))).bind fun q43 => (if q43.1 = 0 then ((m92 q43.2 (45 : Int32)).bind fun q46 => (if q46.1 = 0 then (some ((0 : Int32), q46.2)) else (some ((1 : Int32), q46.2)))) else (some ((1 : Int32), q43.2)))) = (if q_cx l tx (i + 1) = 45 then some ((1 : Int32), am_uI (am_uI (am_uI (am_uI (am_uI D3 106 6 (Int32.ofNat i)) 106 6 (Int32.ofNat (i + 1))) 106 8 y) 106 6 (Int32.ofNat (i + 1))) 106 6 (Int32.ofNat (i + 2))) else some ((0 : Int32), am_uI (am_uI (am_uI (am_uI (am_uI D3 106 6 (Int32.ofNat i)) 106 6 (Int32.ofNat (i + 1))) 106 8 y) 106 6 (Int32.ofNat (i + 1))) 106 6 (Int32.ofNat (i + 1)))) := fun _ => by
      rw [if_neg c1, Option.bind_some]
      dsimp only
      rw [if_pos rfl, e5', Option.bind_some]
      by_cases c2 : q_cx l tx (i + 1) = 45
      · rw [if_pos c2, if_pos c2]; rfl
      · rw [if_neg c2, if_neg c2]; rfl
    rw [z (0, D)]
    by_cases c2 : q_cx l tx (i + 1) = 45
    · refine ⟨am_uI (am_uI (am_uI (am_uI (am_uI D3 106 6 (Int32.ofNat i)) 106 6 (Int32.ofNat (i + 1))) 106 8 y) 106 6 (Int32.ofNat (i + 1))) 106 6 (Int32.ofNat (i + 2)), ?_⟩
      rw [if_pos (Or.inr c2), if_pos c2, ← hy]
      refine ⟨rfl, q_ps_6 p7 (i + 2), ?_, ?_⟩
      · rw [q_uI_at, if_neg (by omega)]; exact (v7 _).1
      · rw [q_uI_at, if_neg (by omega)]; exact (v7 _).2
    · refine ⟨am_uI (am_uI (am_uI (am_uI (am_uI D3 106 6 (Int32.ofNat i)) 106 6 (Int32.ofNat (i + 1))) 106 8 y) 106 6 (Int32.ofNat (i + 1))) 106 6 (Int32.ofNat (i + 1)), ?_⟩
      rw [if_neg (fun q => q.elim c1 c2), if_neg c2]
      exact ⟨rfl, q_ps_6 p7 (i + 1)⟩
end NH
