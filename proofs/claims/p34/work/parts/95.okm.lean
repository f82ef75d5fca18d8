/-! the pieces together -/
theorem am_sliceE {α : Type} {p : α → Bool} {l : List α} {a : Nat} (h : l.length ≤ a) : (l.drop a).all p = true := by
  rw [List.drop_eq_nil_of_le h]; rfl
theorem am_sliceC {α : Type} {p : α → Bool} {l : List α} (n a : Nat) (h1 : ((l.drop a).take n).all p = true) (h2 : (l.drop (a + n)).all p = true) : (l.drop a).all p = true := by
  rw [← List.take_append_drop n (l.drop a), List.all_append, h1, List.drop_drop, h2]; rfl
theorem am_lawLen : am_m287.2.2.length ≤ 160 := by decide +kernel
theorem am_ok287 : am_m287.2.2.all (am_rowOk am_m287) = true := by
  have h : (am_m287.2.2.drop 0).all (am_rowOk am_m287) = true := am_sliceC 40 0 am_okL0 (am_sliceC 40 40 am_okL1 (am_sliceC 40 80 am_okL2 (am_sliceC 40 120 am_okL3 (am_sliceE am_lawLen))))
  exact h
