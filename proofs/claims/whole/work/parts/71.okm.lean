/-! the pieces together -/
theorem am_sliceE {α : Type} {p : α → Bool} {l : List α} {a : Nat} (h : l.length ≤ a) : (l.drop a).all p = true := by
  rw [List.drop_eq_nil_of_le h]; rfl
theorem am_sliceC {α : Type} {p : α → Bool} {l : List α} (n a : Nat) (h1 : ((l.drop a).take n).all p = true) (h2 : (l.drop (a + n)).all p = true) : (l.drop a).all p = true := by
  rw [← List.take_append_drop n (l.drop a), List.all_append, h1, List.drop_drop, h2]; rfl
theorem am_lawLen : am_m287.2.2.length ≤ 1200 := by decide +kernel
theorem am_ok287 : am_m287.2.2.all (am_rowOk am_m287) = true := by
  have h : (am_m287.2.2.drop 0).all (am_rowOk am_m287) = true := am_sliceC 40 0 am_okL0 (am_sliceC 40 40 am_okL1 (am_sliceC 40 80 am_okL2 (am_sliceC 40 120 am_okL3 (am_sliceC 40 160 am_okL4 (am_sliceC 40 200 am_okL5 (am_sliceC 40 240 am_okL6 (am_sliceC 40 280 am_okL7 (am_sliceC 40 320 am_okL8 (am_sliceC 40 360 am_okL9 (am_sliceC 40 400 am_okL10 (am_sliceC 40 440 am_okL11 (am_sliceC 40 480 am_okL12 (am_sliceC 40 520 am_okL13 (am_sliceC 40 560 am_okL14 (am_sliceC 40 600 am_okL15 (am_sliceC 40 640 am_okL16 (am_sliceC 40 680 am_okL17 (am_sliceC 40 720 am_okL18 (am_sliceC 40 760 am_okL19 (am_sliceC 40 800 am_okL20 (am_sliceC 40 840 am_okL21 (am_sliceC 40 880 am_okL22 (am_sliceC 40 920 am_okL23 (am_sliceC 40 960 am_okL24 (am_sliceC 40 1000 am_okL25 (am_sliceC 40 1040 am_okL26 (am_sliceC 40 1080 am_okL27 (am_sliceC 40 1120 am_okL28 (am_sliceC 40 1160 am_okL29 (am_sliceE am_lawLen))))))))))))))))))))))))))))))
  exact h
