/-! the tables of methods, decided row by row (by wip/p34/tools/gen_ok34.py) -/
theorem am_okr287 : am_m287.2.2.all (am_rowOk am_m287) = true := by
  have h : (am_m287.2.2.drop 0).all (am_rowOk am_m287) = true := am_sliceC 40 0 am_okS287_0 (am_sliceC 40 40 am_okS287_40 (am_sliceC 40 80 am_okS287_80 (am_sliceC 40 120 am_okS287_120 (am_sliceE am_len287))))
  exact h
theorem am_ok287 : am_m287.2.2.all (am_rowOk am_m287) = true := am_okr287
theorem am_ok288 : (am_m288.2.2.all (am_rowOk am_m288) && am_methOk am_m288) = true := by decide +kernel
theorem am_ok289 : (am_m289.2.2.all (am_rowOk am_m289) && am_methOk am_m289) = true := by decide +kernel
theorem am_ok290 : (am_m290.2.2.all (am_rowOk am_m290) && am_methOk am_m290) = true := by decide +kernel
theorem am_ok291 : (am_m291.2.2.all (am_rowOk am_m291) && am_methOk am_m291) = true := by decide +kernel
theorem am_okS292_0 : ((am_m292.2.2.drop 0).take 40).all (am_rowOk am_m292) = true := by decide +kernel
theorem am_okS292_40 : ((am_m292.2.2.drop 40).take 40).all (am_rowOk am_m292) = true := by decide +kernel
theorem am_okS292_80 : ((am_m292.2.2.drop 80).take 40).all (am_rowOk am_m292) = true := by decide +kernel
theorem am_okS292_120 : ((am_m292.2.2.drop 120).take 40).all (am_rowOk am_m292) = true := by decide +kernel
theorem am_len292 : am_m292.2.2.length ≤ 160 := by decide +kernel
theorem am_okr292 : am_m292.2.2.all (am_rowOk am_m292) = true := by
  have h : (am_m292.2.2.drop 0).all (am_rowOk am_m292) = true := am_sliceC 40 0 am_okS292_0 (am_sliceC 40 40 am_okS292_40 (am_sliceC 40 80 am_okS292_80 (am_sliceC 40 120 am_okS292_120 (am_sliceE am_len292))))
  exact h
theorem am_okm292 : am_methOk am_m292 = true := by decide +kernel
theorem am_ok292 : (am_m292.2.2.all (am_rowOk am_m292) && am_methOk am_m292) = true := by rw [Bool.and_eq_true]; exact ⟨am_okr292, am_okm292⟩
theorem am_okS293_0 : ((am_m293.2.2.drop 0).take 40).all (am_rowOk am_m293) = true := by decide +kernel
