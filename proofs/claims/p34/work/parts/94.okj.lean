/-! the tables of methods, decided row by row (by wip/p34/tools/gen_ok34.py) -/
theorem am_okr293 : am_m293.2.2.all (am_rowOk am_m293) = true := by
  have h : (am_m293.2.2.drop 0).all (am_rowOk am_m293) = true := am_sliceC 40 0 am_okS293_0 (am_sliceC 40 40 am_okS293_40 (am_sliceC 40 80 am_okS293_80 (am_sliceC 40 120 am_okS293_120 (am_sliceC 40 160 am_okS293_160 (am_sliceC 40 200 am_okS293_200 (am_sliceC 40 240 am_okS293_240 (am_sliceC 40 280 am_okS293_280 (am_sliceC 40 320 am_okS293_320 (am_sliceC 40 360 am_okS293_360 (am_sliceC 40 400 am_okS293_400 (am_sliceC 40 440 am_okS293_440 (am_sliceC 40 480 am_okS293_480 (am_sliceE am_len293)))))))))))))
  exact h
theorem am_okm293 : am_methOk am_m293 = true := by decide +kernel
theorem am_ok293 : (am_m293.2.2.all (am_rowOk am_m293) && am_methOk am_m293) = true := by rw [Bool.and_eq_true]; exact ⟨am_okr293, am_okm293⟩
theorem am_okS294_0 : ((am_m294.2.2.drop 0).take 40).all (am_rowOk am_m294) = true := by decide +kernel
theorem am_okS294_40 : ((am_m294.2.2.drop 40).take 40).all (am_rowOk am_m294) = true := by decide +kernel
theorem am_okS294_80 : ((am_m294.2.2.drop 80).take 40).all (am_rowOk am_m294) = true := by decide +kernel
theorem am_okS294_120 : ((am_m294.2.2.drop 120).take 40).all (am_rowOk am_m294) = true := by decide +kernel
theorem am_okS294_160 : ((am_m294.2.2.drop 160).take 40).all (am_rowOk am_m294) = true := by decide +kernel
theorem am_len294 : am_m294.2.2.length ≤ 200 := by decide +kernel
theorem am_okr294 : am_m294.2.2.all (am_rowOk am_m294) = true := by
  have h : (am_m294.2.2.drop 0).all (am_rowOk am_m294) = true := am_sliceC 40 0 am_okS294_0 (am_sliceC 40 40 am_okS294_40 (am_sliceC 40 80 am_okS294_80 (am_sliceC 40 120 am_okS294_120 (am_sliceC 40 160 am_okS294_160 (am_sliceE am_len294)))))
  exact h
theorem am_okm294 : am_methOk am_m294 = true := by decide +kernel
theorem am_ok294 : (am_m294.2.2.all (am_rowOk am_m294) && am_methOk am_m294) = true := by rw [Bool.and_eq_true]; exact ⟨am_okr294, am_okm294⟩
theorem am_okS295_0 : ((am_m295.2.2.drop 0).take 40).all (am_rowOk am_m295) = true := by decide +kernel
theorem am_okS295_40 : ((am_m295.2.2.drop 40).take 40).all (am_rowOk am_m295) = true := by decide +kernel
theorem am_okS295_80 : ((am_m295.2.2.drop 80).take 40).all (am_rowOk am_m295) = true := by decide +kernel
