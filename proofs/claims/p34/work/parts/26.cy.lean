/-! tables are copied: saving, restoring, the snapshot -/
def q_cyc (b1 b0 : Nat) (D : am_D) : am_D := (am_lt (am_rcopy D (b0 + 1) (b1 + 1) 28 28) fun E0 => (am_lt (am_rcopy E0 (b0 + 2) (b1 + 2) 28 28) fun E1 => (am_lt (am_rcopy E1 (b0 + 3) (b1 + 3) 28 28) fun E2 => (am_lt (am_rcopy E2 (b0 + 4) (b1 + 4) 28 28) fun E3 => (am_lt (am_uI E3 b1 4 (E3.1 b0 4)) fun E4 => (am_lt (am_uI E4 b1 5 (E4.1 b0 5)) fun E5 => (am_lt (am_uI E5 b1 6 (E5.1 b0 6)) fun E6 => E6)))))))
/-- a table is copied, from b0 to b1 -/
def q_cy (b1 b0 : Nat) (D : am_D) : am_D := (am_lt (q_cyc (b1 + 1) (b0 + 1) D) fun E0 => (am_lt (am_rcopy E0 (b0 + 6) (b1 + 6) 28 28) fun E1 => (am_lt (am_rcopy E1 (b0 + 7) (b1 + 7) 4 4) fun E2 => (am_lt (am_rcopy E2 (b0 + 8) (b1 + 8) 4 4) fun E3 => (am_lt (am_rcopy E3 (b0 + 9) (b1 + 9) 4 4) fun E4 => (am_lt (am_rcopy E4 (b0 + 10) (b1 + 10) 2 2) fun E5 => (am_lt (am_uI E5 b1 6 (E5.1 b0 6)) fun E6 => (am_lt (am_uI E6 b1 7 (E6.1 b0 7)) fun E7 => (am_lt (am_uI E7 b1 8 (E7.1 b0 8)) fun E8 => (am_lt (am_uI E8 b1 9 (E8.1 b0 9)) fun E9 => (am_lt (am_uI E9 b1 10 (E9.1 b0 10)) fun E10 => (am_lt (am_uI E10 b1 11 (E10.1 b0 11)) fun E11 => (am_lt (am_uI E11 b1 12 (E11.1 b0 12)) fun E12 => (am_lt (am_uI E12 b1 13 (E12.1 b0 13)) fun E13 => (am_lt (am_uI E13 b1 14 (E13.1 b0 14)) fun E14 => (am_lt (am_uI E14 b1 15 (E14.1 b0 15)) fun E15 => E15))))))))))))))))
theorem q202_25_1 (D : am_D) : m202_25_1 D = q_cy 25 1 D := by
  have e : ∀ D, m152_26_2 D = q_cyc 26 2 D := fun _ => rfl
  unfold m202_25_1 q_cy
  rw [e]
theorem q202_36_1 (D : am_D) : m202_36_1 D = q_cy 36 1 D := by
  have e : ∀ D, m152_37_2 D = q_cyc 37 2 D := fun _ => rfl
  unfold m202_36_1 q_cy
  rw [e]
theorem q202_47_1 (D : am_D) : m202_47_1 D = q_cy 47 1 D := by
  have e : ∀ D, m152_48_2 D = q_cyc 48 2 D := fun _ => rfl
  unfold m202_47_1 q_cy
  rw [e]
theorem q202_58_1 (D : am_D) : m202_58_1 D = q_cy 58 1 D := by
  have e : ∀ D, m152_59_2 D = q_cyc 59 2 D := fun _ => rfl
  unfold m202_58_1 q_cy
  rw [e]
theorem q202_69_1 (D : am_D) : m202_69_1 D = q_cy 69 1 D := by
  have e : ∀ D, m152_70_2 D = q_cyc 70 2 D := fun _ => rfl
  unfold m202_69_1 q_cy
  rw [e]
theorem q202_80_1 (D : am_D) : m202_80_1 D = q_cy 80 1 D := by
  have e : ∀ D, m152_81_2 D = q_cyc 81 2 D := fun _ => rfl
  unfold m202_80_1 q_cy
  rw [e]
theorem q202_1_25 (D : am_D) : m202_1_25 D = q_cy 1 25 D := by
  have e : ∀ D, m152_2_26 D = q_cyc 2 26 D := fun _ => rfl
  unfold m202_1_25 q_cy
  rw [e]
theorem q202_1_36 (D : am_D) : m202_1_36 D = q_cy 1 36 D := by
  have e : ∀ D, m152_2_37 D = q_cyc 2 37 D := fun _ => rfl
  unfold m202_1_36 q_cy
  rw [e]
theorem q202_1_47 (D : am_D) : m202_1_47 D = q_cy 1 47 D := by
  have e : ∀ D, m152_2_48 D = q_cyc 2 48 D := fun _ => rfl
  unfold m202_1_47 q_cy
  rw [e]
theorem q202_1_58 (D : am_D) : m202_1_58 D = q_cy 1 58 D := by
  have e : ∀ D, m152_2_59 D = q_cyc 2 59 D := fun _ => rfl
  unfold m202_1_58 q_cy
  rw [e]
theorem q202_1_69 (D : am_D) : m202_1_69 D = q_cy 1 69 D := by
  have e : ∀ D, m152_2_70 D = q_cyc 2 70 D := fun _ => rfl
  unfold m202_1_69 q_cy
  rw [e]
theorem q202_1_80 (D : am_D) : m202_1_80 D = q_cy 1 80 D := by
  have e : ∀ D, m152_2_81 D = q_cyc 2 81 D := fun _ => rfl
  unfold m202_1_80 q_cy
  rw [e]
theorem q202_12_1 (D : am_D) : m202_12_1 D = q_cy 12 1 D := by
  have e : ∀ D, m152_13_2 D = q_cyc 13 2 D := fun _ => rfl
  unfold m202_12_1 q_cy
  rw [e]
theorem q202_1_12 (D : am_D) : m202_1_12 D = q_cy 1 12 D := by
  have e : ∀ D, m152_2_13 D = q_cyc 2 13 D := fun _ => rfl
  unfold m202_1_12 q_cy
  rw [e]
