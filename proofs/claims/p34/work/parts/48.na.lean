/-! the longest chain of a hand: chains as lists of places -/
section NA
def q_bc (S : Nat) : Nat := q_S (fun i => if S.testBit i then 1 else 0) 0 7
theorem q_bb1 : ∀ S, S < 128 → ∀ i, i < 7 → S.testBit i = true → 2 ^ i ≤ S ∧ q_bc (S - 2 ^ i) + 1 = q_bc S ∧ ∀ j, j < 7 → (S - 2 ^ i).testBit j = (S.testBit j && decide (j ≠ i)) := by decide +kernel
theorem q_bb2 : ∀ S, S < 128 → ∀ i, i < 7 → (Int32.ofNat S >>> (Int32.ofNat i &&& 31)) &&& 1 = Int32.ofNat (if S.testBit i then 1 else 0) ∧ (S.testBit i = true → Int32.ofNat S &&& (((1 : Int32) <<< (Int32.ofNat i &&& 31)) ^^^ (-1 : Int32)) = Int32.ofNat (S - 2 ^ i)) := by decide +kernel
theorem q_bb3 : ∀ A, A < 128 → ∀ i, i < 7 → A.testBit i = false → A + 2 ^ i < 128 ∧ (A + 2 ^ i).testBit i = true ∧ ∀ j, j < 7 → (A + 2 ^ i).testBit j = (A.testBit j || decide (j = i)) := by decide +kernel
theorem q_bb4 : ∀ A, A < 128 → ∀ k, k < 8 → (∀ j, j < 7 → A.testBit j = true → (2 ^ k - 1).testBit j = true) → A < 2 ^ k := by decide +kernel
theorem q_bb5 : ∀ A, A < 128 → q_bc A = 0 → A = 0 := by decide +kernel
theorem q_bb6 : ∀ k, k < 8 → 2 ^ k - 1 < 128 ∧ q_bc (2 ^ k - 1) = k ∧ (∀ j, j < 7 → (2 ^ k - 1).testBit j = decide (j < k)) ∧ (1 : Int32) <<< (Int32.ofNat k &&& 31) = Int32.ofNat (2 ^ k) := by decide +kernel
theorem q_bext {A B : Nat} (hA : A < 128) (hB : B < 128) (h : ∀ j, j < 7 → A.testBit j = B.testBit j) : A = B := by
  apply Nat.eq_of_testBit_eq
  intro j
  by_cases hj : j < 7
  · exact h j hj
  · have e : 128 ≤ 2 ^ j := by
      have : 2 ^ 7 ≤ 2 ^ j := Nat.pow_le_pow_right (by omega) (by omega)
      omega
    rw [Nat.testBit_lt_two_pow (by omega), Nat.testBit_lt_two_pow (by omega)]
variable {H : Nat → Nat}
/-- one tile more -/
def q_step (H : Nat → Nat) (x : Nat × Nat) (i : Nat) : Option (Nat × Nat) := if i < 7 ∧ x.2.testBit i = true ∧ (x.1 = q_lo (H i) ∨ x.1 = q_hi (H i)) then some (q_pip (H i) - x.1, x.2 - 2 ^ i) else none
def q_run (H : Nat → Nat) : Nat × Nat → List Nat → Option (Nat × Nat)
  | x, [] => some x
  | x, i :: L => (q_step H x i).bind fun y => q_run H y L
theorem q_step_some {x y : Nat × Nat} {i : Nat} : q_step H x i = some y ↔ i < 7 ∧ x.2.testBit i = true ∧ (x.1 = q_lo (H i) ∨ x.1 = q_hi (H i)) ∧ y = (q_pip (H i) - x.1, x.2 - 2 ^ i) := by
  unfold q_step
  split
  · rename_i h
    constructor
    · intro e
      exact ⟨h.1, h.2.1, h.2.2, (Option.some.inj e).symm⟩
    · rintro ⟨-, -, -, e⟩
      rw [e]
  · rename_i h
    constructor
    · intro e; exact absurd e (by simp)
    · rintro ⟨h1, h2, h3, -⟩; exact absurd ⟨h1, h2, h3⟩ h
theorem q_run_cons {x z : Nat × Nat} {i : Nat} {L : List Nat} : q_run H x (i :: L) = some z ↔ ∃ y, q_step H x i = some y ∧ q_run H y L = some z := by
  show (q_step H x i).bind _ = _ ↔ _
  rw [Option.bind_eq_some_iff]
theorem q_run_snoc : ∀ (L : List Nat) {x z : Nat × Nat} {i : Nat}, q_run H x (L ++ [i]) = some z ↔ ∃ y, q_run H x L = some y ∧ q_step H y i = some z
  | [], x, z, i => by
    show q_run H x (i :: []) = some z ↔ _
    rw [q_run_cons]
    constructor
    · rintro ⟨y, h1, h2⟩
      exact ⟨x, rfl, by rw [h1]; exact h2⟩
    · rintro ⟨y, h1, h2⟩
      obtain rfl := Option.some.inj h1
      exact ⟨z, h2, rfl⟩
  | j :: L, x, z, i => by
    show q_run H x (j :: (L ++ [i])) = some z ↔ _
    rw [q_run_cons]
    constructor
    · rintro ⟨y, h1, h2⟩
      obtain ⟨y', g1, g2⟩ := (q_run_snoc L).mp h2
      exact ⟨y', q_run_cons.mpr ⟨y, h1, g1⟩, g2⟩
    · rintro ⟨y, h1, h2⟩
      obtain ⟨y', g1, g2⟩ := q_run_cons.mp h1
      exact ⟨y', g1, (q_run_snoc L).mpr ⟨y, g2, h2⟩⟩
/-- what is left is less; so many are taken -/
theorem q_run_len : ∀ (L : List Nat) {v S u B : Nat}, S < 128 → q_run H (v, S) L = some (u, B) → B < 128 ∧ q_bc S = L.length + q_bc B ∧ ∀ j, j < 7 → B.testBit j = true → S.testBit j = true
  | [], v, S, u, B, hS, h => by
    have e : (v, S) = (u, B) := Option.some.inj h
    have e1 : S = B := congrArg Prod.snd e
    subst e1
    exact ⟨hS, (Nat.zero_add _).symm, fun _ _ q => q⟩
  | i :: L, v, S, u, B, hS, h => by
    obtain ⟨y, h1, h2⟩ := q_run_cons.mp h
    obtain ⟨g1, g2, g3, rfl⟩ := q_step_some.mp h1
    obtain ⟨b1, b2, b3⟩ := q_bb1 S hS i g1 g2
    obtain ⟨r1, r2, r3⟩ := q_run_len L (Nat.lt_of_le_of_lt (Nat.sub_le _ _) hS) h2
    refine ⟨r1, ?_, fun j hj q => ?_⟩
    · show q_bc S = L.length + 1 + q_bc B
      have r2' : q_bc (S - 2 ^ i) = L.length + q_bc B := r2
      omega
    · have := r3 j hj q
      have e : (S - 2 ^ i).testBit j = true := this
      rw [b3 j hj, Bool.and_eq_true] at e
      exact e.1
/-- more may be at hand -/
theorem q_run_mono : ∀ (L : List Nat) {v S S' : Nat} {z : Nat × Nat}, S < 128 → S' < 128 → (∀ j, j < 7 → S.testBit j = true → S'.testBit j = true) → q_run H (v, S) L = some z → ∃ z', q_run H (v, S') L = some z'
  | [], v, S, S', z, _, _, _, _ => ⟨_, rfl⟩
  | i :: L, v, S, S', z, hS, hS', hs, h => by
    obtain ⟨y, h1, h2⟩ := q_run_cons.mp h
    obtain ⟨g1, g2, g3, rfl⟩ := q_step_some.mp h1
    obtain ⟨b1, b2, b3⟩ := q_bb1 S hS i g1 g2
    obtain ⟨c1, c2, c3⟩ := q_bb1 S' hS' i g1 (hs i g1 g2)
    obtain ⟨z', hz⟩ := q_run_mono L (S' := S' - 2 ^ i) (Nat.lt_of_le_of_lt (Nat.sub_le _ _) hS) (Nat.lt_of_le_of_lt (Nat.sub_le _ _) hS') (fun j hj q => by
      have q' : (S - 2 ^ i).testBit j = true := q
      rw [b3 j hj, Bool.and_eq_true] at q'
      rw [c3 j hj, Bool.and_eq_true]
      exact ⟨hs j hj q'.1, q'.2⟩) h2
    exact ⟨z', q_run_cons.mpr ⟨_, q_step_some.mpr ⟨g1, hs i g1 g2, g3, rfl⟩, hz⟩⟩
/-- just what is taken suffices -/
theorem q_run_just : ∀ (L : List Nat) {v S : Nat} {z : Nat × Nat}, S < 128 → q_run H (v, S) L = some z → ∃ A, A < 128 ∧ q_run H (v, A) L = some (z.1, 0) ∧ q_bc A = L.length ∧ ∀ j, j < 7 → A.testBit j = true → S.testBit j = true
  | [], v, S, z, hS, h => by
    have e : (v, S) = z := Option.some.inj h
    subst e
    exact ⟨0, by omega, rfl, by decide, fun j _ q => by rw [Nat.zero_testBit] at q; exact absurd q (by decide)⟩
  | i :: L, v, S, z, hS, h => by
    obtain ⟨y, h1, h2⟩ := q_run_cons.mp h
    obtain ⟨g1, g2, g3, rfl⟩ := q_step_some.mp h1
    obtain ⟨b1, b2, b3⟩ := q_bb1 S hS i g1 g2
    obtain ⟨A, a1, a2, a3, a4⟩ := q_run_just L (Nat.lt_of_le_of_lt (Nat.sub_le _ _) hS) h2
    have hi : A.testBit i = false := by
      by_cases c : A.testBit i = true
      · have e : (S - 2 ^ i).testBit i = true := a4 i g1 c
        rw [b3 i g1, Bool.and_eq_true] at e
        exact absurd e.2 (by simp)
      · simpa using c
    obtain ⟨c1, c2, c3⟩ := q_bb3 A a1 i g1 hi
    refine ⟨A + 2 ^ i, c1, q_run_cons.mpr ⟨_, q_step_some.mpr ⟨g1, c2, g3, rfl⟩, ?_⟩, ?_, fun j hj q => ?_⟩
    · show q_run H (_, A + 2 ^ i - 2 ^ i) L = _
      rw [Nat.add_sub_cancel]; exact a2
    · have := (q_bb1 (A + 2 ^ i) c1 i g1 c2).2.1
      rw [Nat.add_sub_cancel] at this
      show q_bc (A + 2 ^ i) = L.length + 1
      omega
    · rw [c3 j hj, Bool.or_eq_true] at q
      rcases q with q | q
      · have e : (S - 2 ^ i).testBit j = true := a4 j hj q
        rw [b3 j hj, Bool.and_eq_true] at e
        exact e.1
      · have : j = i := by simpa using q
        subst this
        exact g2
/-- one more lies by -/
theorem q_run_set : ∀ (L : List Nat) {v A u B i : Nat}, A < 128 → i < 7 → A.testBit i = false → q_run H (v, A) L = some (u, B) → B.testBit i = false ∧ q_run H (v, A + 2 ^ i) L = some (u, B + 2 ^ i)
  | [], v, A, u, B, i, hA, hi, h0, h => by
    have e : (v, A) = (u, B) := Option.some.inj h
    have e1 : v = u := congrArg Prod.fst e
    have e2 : A = B := congrArg Prod.snd e
    subst e1 e2
    exact ⟨h0, rfl⟩
  | j :: L, v, A, u, B, i, hA, hi, h0, h => by
    obtain ⟨y, h1, h2⟩ := q_run_cons.mp h
    obtain ⟨g1, g2, g3, rfl⟩ := q_step_some.mp h1
    obtain ⟨b1, b2, b3⟩ := q_bb1 A hA j g1 g2
    obtain ⟨c1, c2, c3⟩ := q_bb3 A hA i hi h0
    have h0' : (A - 2 ^ j).testBit i = false := by rw [b3 i hi, h0]; rfl
    obtain ⟨r1, r2⟩ := q_run_set L (Nat.lt_of_le_of_lt (Nat.sub_le _ _) hA) hi h0' h2
    have e : A + 2 ^ i - 2 ^ j = A - 2 ^ j + 2 ^ i := Nat.sub_add_comm b1
    refine ⟨r1, q_run_cons.mpr ⟨_, q_step_some.mpr ⟨g1, ?_, g3, rfl⟩, ?_⟩⟩
    · show (A + 2 ^ i).testBit j = true
      rw [c3 j g1, g2]; rfl
    · show q_run H (_, A + 2 ^ i - 2 ^ j) L = _
      rw [e]; exact r2
/-- one that is not taken is away -/
theorem q_run_clr : ∀ (L : List Nat) {v A u B i : Nat}, A < 128 → i < 7 → B.testBit i = true → q_run H (v, A) L = some (u, B) → A.testBit i = true ∧ q_run H (v, A - 2 ^ i) L = some (u, B - 2 ^ i)
  | [], v, A, u, B, i, hA, hi, h0, h => by
    have e : (v, A) = (u, B) := Option.some.inj h
    have e1 : v = u := congrArg Prod.fst e
    have e2 : A = B := congrArg Prod.snd e
    subst e1 e2
    exact ⟨h0, rfl⟩
  | j :: L, v, A, u, B, i, hA, hi, h0, h => by
    obtain ⟨y, h1, h2⟩ := q_run_cons.mp h
    obtain ⟨g1, g2, g3, rfl⟩ := q_step_some.mp h1
    obtain ⟨b1, b2, b3⟩ := q_bb1 A hA j g1 g2
    obtain ⟨r1, r2⟩ := q_run_clr L (Nat.lt_of_le_of_lt (Nat.sub_le _ _) hA) hi h0 h2
    have r1' : (A - 2 ^ j).testBit i = true := r1
    rw [b3 i hi, Bool.and_eq_true] at r1'
    have hne : i ≠ j := by simpa using r1'.2
    obtain ⟨c1, c2, c3⟩ := q_bb1 A hA i hi r1'.1
    have g2' : (A - 2 ^ i).testBit j = true := by rw [c3 j g1, g2]; simpa using hne.symm
    have e : A - 2 ^ i - 2 ^ j = A - 2 ^ j - 2 ^ i := Nat.sub_right_comm _ _ _
    refine ⟨r1'.1, q_run_cons.mpr ⟨_, q_step_some.mpr ⟨g1, g2', g3, rfl⟩, ?_⟩⟩
    show q_run H (_, A - 2 ^ i - 2 ^ j) L = _
    rw [e]; exact r2
/-- the values at which all of S may end -/
def q_mem (H : Nat → Nat) (S u : Nat) : Prop := ∃ v L, v < 7 ∧ q_run H (v, S) L = some (u, 0)
theorem q_mem_0 {u : Nat} : q_mem H 0 u ↔ u < 7 := by
  constructor
  · rintro ⟨v, L, hv, h⟩
    cases L with
    | nil =>
      have e : (v, 0) = (u, 0) := Option.some.inj h
      have e1 : v = u := congrArg Prod.fst e
      omega
    | cons i L =>
      obtain ⟨y, h1, h2⟩ := q_run_cons.mp h
      obtain ⟨g1, g2, -⟩ := q_step_some.mp h1
      have : (0 : Nat).testBit i = true := g2
      rw [Nat.zero_testBit] at this
      exact absurd this (by decide)
  · intro h
    exact ⟨u, [], h, rfl⟩
theorem q_mem_s {S u : Nat} (hS : S < 128) (h0 : S ≠ 0) : q_mem H S u ↔ ∃ i w, i < 7 ∧ S.testBit i = true ∧ q_mem H (S - 2 ^ i) w ∧ (w = q_lo (H i) ∨ w = q_hi (H i)) ∧ u = q_pip (H i) - w := by
  constructor
  · rintro ⟨v, L, hv, h⟩
    rcases List.eq_nil_or_concat L with rfl | ⟨L', i, rfl⟩
    · have e : (v, S) = (u, 0) := Option.some.inj h
      exact absurd (congrArg Prod.snd e) h0
    · rw [List.concat_eq_append] at h
      obtain ⟨⟨w, B⟩, h1, h2⟩ := (q_run_snoc L').mp h
      obtain ⟨g1, g2, g3, g4⟩ := q_step_some.mp h2
      obtain ⟨r1, r2⟩ := q_run_clr L' hS g1 g2 h1
      have e1 : u = q_pip (H i) - w := congrArg Prod.fst g4
      have e2 : 0 = B - 2 ^ i := congrArg Prod.snd g4
      rw [← e2] at r2
      exact ⟨i, w, g1, r1, ⟨v, L', hv, r2⟩, g3, e1⟩
  · rintro ⟨i, w, g1, g2, ⟨v, L, hv, h⟩, g3, e1⟩
    obtain ⟨b1, b2, b3⟩ := q_bb1 S hS i g1 g2
    have h0' : (S - 2 ^ i).testBit i = false := by rw [b3 i g1]; simp
    obtain ⟨r1, r2⟩ := q_run_set L (Nat.lt_of_le_of_lt (Nat.sub_le _ _) hS) g1 h0' h
    rw [Nat.sub_add_cancel b1, Nat.zero_add] at r2
    refine ⟨v, L ++ [i], hv, (q_run_snoc L).mpr ⟨_, r2, q_step_some.mpr ⟨g1, ?_, g3, ?_⟩⟩⟩
    · show (2 ^ i).testBit i = true
      exact Nat.testBit_two_pow_self
    · rw [e1, Nat.sub_self]
end NA
