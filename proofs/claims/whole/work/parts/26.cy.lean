/-! tables are copied: saving, restoring, the snapshot -/
/-- a table is copied, from b0 to b1 -/
def q_cy (b1 b0 : Nat) (D : am_D) : am_D :=
  let D := am_rcopy D (b0 + 2) (b1 + 2) 28 28
  let D := am_rcopy D (b0 + 3) (b1 + 3) 28 28
  let D := am_rcopy D (b0 + 4) (b1 + 4) 28 28
  let D := am_rcopy D (b0 + 5) (b1 + 5) 28 28
  let D := am_uI D (b1 + 1) 4 (D.1 (b0 + 1) 4)
  let D := am_uI D (b1 + 1) 5 (D.1 (b0 + 1) 5)
  let D := am_uI D (b1 + 1) 6 (D.1 (b0 + 1) 6)
  let D := am_rcopy D (b0 + 6) (b1 + 6) 28 28
  let D := am_rcopy D (b0 + 7) (b1 + 7) 4 4
  let D := am_rcopy D (b0 + 8) (b1 + 8) 4 4
  let D := am_rcopy D (b0 + 9) (b1 + 9) 4 4
  let D := am_rcopy D (b0 + 10) (b1 + 10) 2 2
  let D := am_uI D b1 6 (D.1 b0 6)
  let D := am_uI D b1 7 (D.1 b0 7)
  let D := am_uI D b1 8 (D.1 b0 8)
  let D := am_uI D b1 9 (D.1 b0 9)
  let D := am_uI D b1 10 (D.1 b0 10)
  let D := am_uI D b1 11 (D.1 b0 11)
  let D := am_uI D b1 12 (D.1 b0 12)
  let D := am_uI D b1 13 (D.1 b0 13)
  let D := am_uI D b1 14 (D.1 b0 14)
  am_uI D b1 15 (D.1 b0 15)
theorem q202_25_1 (D : am_D) : m202_25_1 D = q_cy 25 1 D := rfl
theorem q202_36_1 (D : am_D) : m202_36_1 D = q_cy 36 1 D := rfl
theorem q202_47_1 (D : am_D) : m202_47_1 D = q_cy 47 1 D := rfl
theorem q202_58_1 (D : am_D) : m202_58_1 D = q_cy 58 1 D := rfl
theorem q202_69_1 (D : am_D) : m202_69_1 D = q_cy 69 1 D := rfl
theorem q202_80_1 (D : am_D) : m202_80_1 D = q_cy 80 1 D := rfl
theorem q202_1_25 (D : am_D) : m202_1_25 D = q_cy 1 25 D := rfl
theorem q202_1_36 (D : am_D) : m202_1_36 D = q_cy 1 36 D := rfl
theorem q202_1_47 (D : am_D) : m202_1_47 D = q_cy 1 47 D := rfl
theorem q202_1_58 (D : am_D) : m202_1_58 D = q_cy 1 58 D := rfl
theorem q202_1_69 (D : am_D) : m202_1_69 D = q_cy 1 69 D := rfl
theorem q202_1_80 (D : am_D) : m202_1_80 D = q_cy 1 80 D := rfl
theorem q202_12_1 (D : am_D) : m202_12_1 D = q_cy 12 1 D := rfl
theorem q202_1_12 (D : am_D) : m202_1_12 D = q_cy 1 12 D := rfl
theorem q_rc_at (D : am_D) (a b n c i : Nat) : (am_rcopy D a b n n).1 c i = if c = b ∧ i < n then D.1 a i else D.1 c i := by
  unfold am_rcopy am_uR va_cpy
  show (if c = b then _ else D.1 c i) = _
  sorry
/-- the cells that a table's content is in -/
def q_w (i j : Nat) : Prop := (i = 0 ∧ 6 ≤ j ∧ j < 16) ∨ (i = 1 ∧ 4 ≤ j ∧ j < 7) ∨ (2 ≤ i ∧ i ≤ 6 ∧ j < 28) ∨ (7 ≤ i ∧ i ≤ 9 ∧ j < 4) ∨ (i = 10 ∧ j < 2)
