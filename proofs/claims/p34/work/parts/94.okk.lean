/-! the tables of methods, decided row by row (by wip/p34/tools/gen_ok34.py) -/
theorem am_okS295_120 : ((am_m295.2.2.drop 120).take 40).all (am_rowOk am_m295) = true := by decide +kernel
theorem am_okS295_160 : ((am_m295.2.2.drop 160).take 40).all (am_rowOk am_m295) = true := by decide +kernel
theorem am_okS295_200 : ((am_m295.2.2.drop 200).take 40).all (am_rowOk am_m295) = true := by decide +kernel
theorem am_okS295_240 : ((am_m295.2.2.drop 240).take 40).all (am_rowOk am_m295) = true := by decide +kernel
theorem am_okS295_280 : ((am_m295.2.2.drop 280).take 40).all (am_rowOk am_m295) = true := by decide +kernel
theorem am_len295 : am_m295.2.2.length ≤ 320 := by decide +kernel
theorem am_okr295 : am_m295.2.2.all (am_rowOk am_m295) = true := by
  have h : (am_m295.2.2.drop 0).all (am_rowOk am_m295) = true := am_sliceC 40 0 am_okS295_0 (am_sliceC 40 40 am_okS295_40 (am_sliceC 40 80 am_okS295_80 (am_sliceC 40 120 am_okS295_120 (am_sliceC 40 160 am_okS295_160 (am_sliceC 40 200 am_okS295_200 (am_sliceC 40 240 am_okS295_240 (am_sliceC 40 280 am_okS295_280 (am_sliceE am_len295))))))))
  exact h
set_option maxRecDepth 1000000 in
theorem am_okc295 : lw_tbl[933]? = some (.code am_m295.1.2.1 am_m295.1.2.2.1 am_m295.1.2.2.2.1 am_m295.1.2.2.2.2) := by rfl
theorem am_okm295 : am_methOk am_m295 = true := am_methOk_of (jc := 933) (jk := 932) (js := 0) (ji := 19) rfl rfl (am_wd_of am_okc295 (by decide +kernel)) (by decide +kernel)
theorem am_ok295 : (am_m295.2.2.all (am_rowOk am_m295) && am_methOk am_m295) = true := by rw [Bool.and_eq_true]; exact ⟨am_okr295, am_okm295⟩
