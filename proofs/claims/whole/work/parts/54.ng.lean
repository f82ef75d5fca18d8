/-! texts: a tile, a number of ticks; the model reads a part -/
section NG
variable {D D0 : am_D} {l : Nat} {tx : Nat → Nat} {i : Nat}
theorem q_nm {k : Nat} (hk : k < 2147483648) : ¬ Int32.ofNat k = -1 := fun q => by
  have : (Int32.ofNat k).toInt = (-1 : Int32).toInt := by rw [q]
  rw [q_ti hk] at this
  have e : (-1 : Int32).toInt = -1 := by decide
  omega
theorem q_cx_lt {k : Nat} (h : 0 < q_cx l tx k) : k < l := by
  unfold q_cx at h
  by_cases c : k < l
  · exact c
  · rw [if_neg c] at h; omega
theorem q94a (hT : q_T D0 l tx) (h : q_ps D0 D i) (hi : i ≤ l) (c : ¬ (48 ≤ q_cx l tx i ∧ q_cx l tx i ≤ 54)) : m94 D = some (-1, am_uI D 106 6 (Int32.ofNat i)) := by
  have e := q93 hT h hi (a := 0) (b := 6) (by omega) (by omega)
  rw [if_neg (by omega)] at e
  unfold m94
  rw [show m93 D 0 6 = _ from e, Option.bind_some, if_pos rfl, Option.bind_some, if_pos rfl]
theorem q94b (hT : q_T D0 l tx) (h : q_ps D0 D i) (c : 48 ≤ q_cx l tx i ∧ q_cx l tx i ≤ 54) (c' : ¬ (q_cx l tx i ≤ q_cx l tx (i + 1) ∧ q_cx l tx (i + 1) ≤ 54)) : m94 D = some (-1, am_uI (am_uI D 106 6 (Int32.ofNat (i + 1))) 106 6 (Int32.ofNat (i + 1))) := by
  have hi := q_cx_lt (l := l) (tx := tx) (k := i) (by omega)
  have e := q93 hT h (by omega) (a := 0) (b := 6) (by omega) (by omega)
  rw [if_pos (by omega)] at e
  have e2 := q93 hT (q_ps_6 h (i + 1)) (by omega) (a := q_cx l tx i - 48) (b := 6) (by omega) (by omega)
  rw [if_neg (by omega)] at e2
  unfold m94
  rw [show m93 D 0 6 = _ from e, Option.bind_some]
  rw [if_neg (q_nm (by omega)), show m93 (am_uI D 106 6 (Int32.ofNat (i + 1))) (Int32.ofNat (q_cx l tx i - 48)) 6 = _ from e2, Option.bind_some, Option.bind_some, if_pos rfl]
theorem q94c (hT : q_T D0 l tx) (h : q_ps D0 D i) (c : 48 ≤ q_cx l tx i ∧ q_cx l tx i ≤ 54) (c' : q_cx l tx i ≤ q_cx l tx (i + 1) ∧ q_cx l tx (i + 1) ≤ 54) : m94 D = some (m55 (Int32.ofNat (q_cx l tx i - 48)) (Int32.ofNat (q_cx l tx (i + 1) - 48)), am_uI (am_uI D 106 6 (Int32.ofNat (i + 1))) 106 6 (Int32.ofNat (i + 2))) := by
  have hi := q_cx_lt (l := l) (tx := tx) (k := i) (by omega)
  have e := q93 hT h (by omega) (a := 0) (b := 6) (by omega) (by omega)
  rw [if_pos (by omega)] at e
  have e2 := q93 hT (q_ps_6 h (i + 1)) (by omega) (a := q_cx l tx i - 48) (b := 6) (by omega) (by omega)
  rw [if_pos (by omega)] at e2
  unfold m94
  rw [show m93 D 0 6 = _ from e, Option.bind_some]
  rw [if_neg (q_nm (by omega)), show m93 (am_uI D 106 6 (Int32.ofNat (i + 1))) (Int32.ofNat (q_cx l tx i - 48)) 6 = _ from e2, Option.bind_some, Option.bind_some, if_neg (q_nm (by omega))]
/-- the first character is kept, and what it is not -/
theorem q96_n (hT : q_T D0 l tx) (h : q_ps D0 D i) (hi : i ≤ l) (c1 : q_cx l tx i ≠ 112) (c2 : q_cx l tx i ≠ 116) (c3 : q_cx l tx i ≠ 99) (c4 : q_cx l tx i ≠ 108) : ∃ D', m96 D = some (0, D') ∧ q_ps D0 D' i := by
  have h3 := q_ps_78 h (Or.inl rfl : 7 = 7 ∨ 7 = 8) (Int32.ofNat (q_cx l tx i))
  have h4 := q_ps_6 h3 i
  have h5 := q_ps_6 h4 i
  have h6 := q_ps_6 h5 i
  have h7 := q_ps_6 h6 i
  have e1 := q92 hT h3 hi (c := 112) (by omega)
  have e2 := q92 hT h4 hi (c := 116) (by omega)
  have e3 := q92 hT h5 hi (c := 99) (by omega)
  have e4 := q92 hT h6 hi (c := 108) (by omega)
  rw [if_neg c1] at e1
  rw [if_neg c2] at e2
  rw [if_neg c3] at e3
  rw [if_neg c4] at e4
  have h8 := q_ps_78 h7 (Or.inr rfl : 8 = 7 ∨ 8 = 8) (-1)
  have h9 := q_ps_78 h8 (Or.inl rfl : 7 = 7 ∨ 7 = 8) (Int32.ofNat (q_cx l tx i))
  refine ⟨_, ?_, h9⟩
  unfold m96
  rw [q91 hT h hi, Option.bind_some]
  show (m92 _ (Int32.ofNat 112)).bind _ = _
  rw [e1, Option.bind_some, if_pos rfl]
  show (m92 _ (Int32.ofNat 116)).bind _ = _
  rw [e2, Option.bind_some, if_pos rfl]
  show (m92 _ (Int32.ofNat 99)).bind _ = _
  rw [e3, Option.bind_some, if_pos rfl]
  show (m92 _ (Int32.ofNat 108)).bind _ = _
  rw [e4, Option.bind_some, if_pos rfl, Option.bind_some]
  simp only [am_lt]
  rw [q91 hT h8 hi, Option.bind_some, if_pos]
  rw [q_uI_at, if_neg (by omega), q_uIs]
theorem q96_p (hT : q_T D0 l tx) (h : q_ps D0 D i) (c1 : q_cx l tx i = 112) : ∃ D', m96 D = some (1, D') ∧ q_ps D0 D' (i + 1) ∧ D'.1 106 7 = Int32.ofNat 112 := by
  have hi := q_cx_lt (l := l) (tx := tx) (k := i) (by omega)
  have h3 := q_ps_78 h (Or.inl rfl : 7 = 7 ∨ 7 = 8) (Int32.ofNat (q_cx l tx i))
  have e1 := q92 hT h3 (by omega) (c := 112) (by omega)
  rw [if_pos c1] at e1
  refine ⟨_, ?_, q_ps_6 h3 (i + 1), ?_⟩
  · unfold m96
    rw [q91 hT h (by omega), Option.bind_some]
    show (m92 _ (Int32.ofNat 112)).bind _ = _
    rw [e1, Option.bind_some, if_neg (show ¬ (1 : Int32) = 0 by decide)]
  · rw [q_uI_at, if_neg (by omega), q_uIs, c1]
/-- up to the char that tells the part -/
theorem q96_pre (hT : q_T D0 l tx) (h : q_ps D0 D i) (hi : i ≤ l) (c1 : q_cx l tx i ≠ 112) : ∃ D3, q_ps D0 D3 i ∧ D3.1 106 7 = Int32.ofNat (q_cx l tx i) ∧ m96 D = ((m92 D3 (116 : Int32)).bind fun q8 => (if q8.1 = 0 then ((m92 q8.2 (99 : Int32)).bind fun q11 => (if q11.1 = 0 then ((m92 q11.2 (108 : Int32)).bind fun q14 => (((if q14.1 = 0 then (some ((-1 : Int32), q14.2)) else ((m94 q14.2).bind fun q20 => (some (q20.1, q20.2))))).bind fun q16 => (am_lt (am_uI q16.2 106 8 q16.1) fun D22 => ((m91 D22).bind fun q24 => (am_lt (am_uI D22 106 7 q24) fun D26 => (if (D26.1 106 8) = (-1 : Int32) then (some ((0 : Int32), D26)) else ((m92 D26 (60 : Int32)).bind fun q29 => (if q29.1 = 0 then ((m92 q29.2 (62 : Int32)).bind fun q32 => (if q32.1 = 0 then (some ((0 : Int32), q32.2)) else (some ((1 : Int32), q32.2)))) else (some ((1 : Int32), q29.2)))))))))) else ((m91 q11.2).bind fun q35 => (am_lt (if q35 = (43 : Int32) then (1 : Int32) else (0 : Int32)) fun q37 => (am_lt (am_uI q11.2 106 8 q37) fun D41 => ((m92 D41 (43 : Int32)).bind fun q43 => (if q43.1 = 0 then ((m92 q43.2 (45 : Int32)).bind fun q46 => (if q46.1 = 0 then (some ((0 : Int32), q46.2)) else (some ((1 : Int32), q46.2)))) else (some ((1 : Int32), q43.2))))))))) else ((m95 q8.2).bind fun q49 => (if q49.1 &&& 1 = q49.1 then (some (q49.1, q49.2)) else none)))) := by
  have h3 := q_ps_78 h (Or.inl rfl : 7 = 7 ∨ 7 = 8) (Int32.ofNat (q_cx l tx i))
  have e1 := q92 hT h3 hi (c := 112) (by omega)
  rw [if_neg c1] at e1
  refine ⟨_, q_ps_6 h3 i, ?_, ?_⟩
  · rw [q_uI_at, if_neg (by omega), q_uIs]
  · unfold m96
    rw [q91 hT h hi, Option.bind_some]
    show (m92 _ (Int32.ofNat 112)).bind _ = _
    rw [e1, Option.bind_some, if_pos rfl]
theorem q95 (hT : q_T D0 l tx) (h : q_ps D0 D i) (hi : i ≤ l) : ∃ D', D'.1 106 7 = D.1 106 7 ∧
    (if 49 ≤ q_cx l tx i ∧ q_cx l tx i ≤ 57 then (if 48 ≤ q_cx l tx (i + 1) ∧ q_cx l tx (i + 1) ≤ 57 then (m95 D = some (1, D') ∧ q_ps D0 D' (i + 2) ∧ D'.1 106 8 = Int32.ofNat (10 * (q_cx l tx i - 48) + (q_cx l tx (i + 1) - 48))) else (m95 D = some (1, D') ∧ q_ps D0 D' (i + 1) ∧ D'.1 106 8 = Int32.ofNat (q_cx l tx i - 48))) else (m95 D = some (0, D') ∧ q_ps D0 D' i)) := by
  have e := q93 hT h hi (a := 1) (b := 9) (by omega) (by omega)
  by_cases c : 49 ≤ q_cx l tx i ∧ q_cx l tx i ≤ 57
  · have hl := q_cx_lt (l := l) (tx := tx) (k := i) (by omega)
    rw [if_pos (by omega)] at e
    have h2 := q_ps_78 (q_ps_6 h (i + 1)) (Or.inr rfl : 8 = 7 ∨ 8 = 8) (Int32.ofNat (q_cx l tx i - 48))
    have e2 := q93 hT h2 (by omega) (a := 0) (b := 9) (by omega) (by omega)
    by_cases c' : 48 ≤ q_cx l tx (i + 1) ∧ q_cx l tx (i + 1) ≤ 57
    · rw [if_pos (by omega)] at e2
      refine ⟨am_uI (am_uI (am_uI (am_uI D 106 6 (Int32.ofNat (i + 1))) 106 8 (Int32.ofNat (q_cx l tx i - 48))) 106 6 (Int32.ofNat (i + 2))) 106 8 (Int32.ofNat (10 * (q_cx l tx i - 48) + (q_cx l tx (i + 1) - 48))), ?_, ?_⟩
      rotate_left
      · rw [if_pos c, if_pos c']
        refine ⟨?_, q_ps_78 (q_ps_6 h2 (i + 2)) (Or.inr rfl : 8 = 7 ∨ 8 = 8) (Int32.ofNat (10 * (q_cx l tx i - 48) + (q_cx l tx (i + 1) - 48))), q_uIs _ _ _ _⟩
        unfold m95
        rw [show m93 D 1 9 = _ from e, Option.bind_some]
        simp only [am_lt]
        rw [q_uIs, if_neg (q_nm (by omega)), show m93 (am_uI (am_uI D 106 6 (Int32.ofNat (i + 1))) 106 8 (Int32.ofNat (q_cx l tx i - 48))) 0 9 = _ from e2, Option.bind_some, Option.bind_some]
        dsimp only
        have w8 : (am_uI (am_uI (am_uI D 106 6 (Int32.ofNat (i + 1))) 106 8 (Int32.ofNat (q_cx l tx i - 48))) 106 6 (Int32.ofNat (i + 1 + 1))).1 106 8 = Int32.ofNat (q_cx l tx i - 48) := by rw [q_uI_at, if_neg (by omega), q_uIs]
        rw [if_neg (q_nm (k := q_cx l tx (i + 1) - 48) (by omega)), w8, show (10 : Int32) = Int32.ofNat 10 from rfl, q_mul, q_add, q_uIs, if_neg (q_nm (by omega))]
      · rw [q_uI_at, if_neg (by omega), q_uI_at, if_neg (by omega), q_uI_at, if_neg (by omega), q_uI_at, if_neg (by omega)]
    · rw [if_neg (by omega)] at e2
      refine ⟨am_uI (am_uI (am_uI (am_uI D 106 6 (Int32.ofNat (i + 1))) 106 8 (Int32.ofNat (q_cx l tx i - 48))) 106 6 (Int32.ofNat (i + 1))) 106 8 (Int32.ofNat (q_cx l tx i - 48)), ?_, ?_⟩
      rotate_left
      · rw [if_pos c, if_neg c']
        refine ⟨?_, q_ps_78 (q_ps_6 h2 (i + 1)) (Or.inr rfl : 8 = 7 ∨ 8 = 8) (Int32.ofNat (q_cx l tx i - 48)), q_uIs _ _ _ _⟩
        unfold m95
        rw [show m93 D 1 9 = _ from e, Option.bind_some]
        simp only [am_lt]
        rw [q_uIs, if_neg (q_nm (by omega)), show m93 (am_uI (am_uI D 106 6 (Int32.ofNat (i + 1))) 106 8 (Int32.ofNat (q_cx l tx i - 48))) 0 9 = _ from e2, Option.bind_some, Option.bind_some]
        dsimp only
        have w8 : (am_uI (am_uI (am_uI D 106 6 (Int32.ofNat (i + 1))) 106 8 (Int32.ofNat (q_cx l tx i - 48))) 106 6 (Int32.ofNat (i + 1))).1 106 8 = Int32.ofNat (q_cx l tx i - 48) := by rw [q_uI_at, if_neg (by omega), q_uIs]
        rw [if_pos rfl, w8, q_uIs, if_neg (q_nm (by omega))]
      · rw [q_uI_at, if_neg (by omega), q_uI_at, if_neg (by omega), q_uI_at, if_neg (by omega), q_uI_at, if_neg (by omega)]
  · rw [if_neg (by omega)] at e
    have h2 := q_ps_78 (q_ps_6 h i) (Or.inr rfl : 8 = 7 ∨ 8 = 8) (-1)
    refine ⟨am_uI (am_uI (am_uI D 106 6 (Int32.ofNat i)) 106 8 (-1)) 106 8 (-1), ?_, ?_⟩
    rotate_left
    · rw [if_neg c]
      refine ⟨?_, q_ps_78 h2 (Or.inr rfl : 8 = 7 ∨ 8 = 8) (-1)⟩
      unfold m95
      rw [show m93 D 1 9 = _ from e, Option.bind_some]
      simp only [am_lt]
      rw [q_uIs, if_pos rfl, Option.bind_some, if_pos rfl, q_uIs, q_uIs, if_pos rfl]
    · rw [q_uI_at, if_neg (by omega), q_uI_at, if_neg (by omega), q_uI_at, if_neg (by omega)]
end NG
