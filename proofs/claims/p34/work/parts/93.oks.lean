/-! a list in slices -/
theorem am_sliceE {α : Type} {p : α → Bool} {l : List α} {a : Nat} (h : l.length ≤ a) : (l.drop a).all p = true := by
  rw [List.drop_eq_nil_of_le h]; rfl
theorem am_sliceC {α : Type} {p : α → Bool} {l : List α} (n a : Nat) (h1 : ((l.drop a).take n).all p = true) (h2 : (l.drop (a + n)).all p = true) : (l.drop a).all p = true := by
  rw [← List.take_append_drop n (l.drop a), List.all_append, h1, List.drop_drop, h2]; rfl
