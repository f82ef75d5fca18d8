/-! the tables of methods, decided row by row (by wip/p34/tools/gen_ok34.py) -/
theorem am_okS293_40 : ((am_m293.2.2.drop 40).take 40).all (am_rowOk am_m293) = true := by decide +kernel
theorem am_okS293_80 : ((am_m293.2.2.drop 80).take 40).all (am_rowOk am_m293) = true := by decide +kernel
theorem am_okS293_120 : ((am_m293.2.2.drop 120).take 40).all (am_rowOk am_m293) = true := by decide +kernel
theorem am_okS293_160 : ((am_m293.2.2.drop 160).take 40).all (am_rowOk am_m293) = true := by decide +kernel
theorem am_okS293_200 : ((am_m293.2.2.drop 200).take 40).all (am_rowOk am_m293) = true := by decide +kernel
theorem am_okS293_240 : ((am_m293.2.2.drop 240).take 40).all (am_rowOk am_m293) = true := by decide +kernel
theorem am_okS293_280 : ((am_m293.2.2.drop 280).take 40).all (am_rowOk am_m293) = true := by decide +kernel
theorem am_okS293_320 : ((am_m293.2.2.drop 320).take 40).all (am_rowOk am_m293) = true := by decide +kernel
theorem am_okS293_360 : ((am_m293.2.2.drop 360).take 40).all (am_rowOk am_m293) = true := by decide +kernel
theorem am_okS293_400 : ((am_m293.2.2.drop 400).take 40).all (am_rowOk am_m293) = true := by decide +kernel
theorem am_okS293_440 : ((am_m293.2.2.drop 440).take 40).all (am_rowOk am_m293) = true := by decide +kernel
theorem am_okS293_480 : ((am_m293.2.2.drop 480).take 40).all (am_rowOk am_m293) = true := by decide +kernel
theorem am_len293 : am_m293.2.2.length ≤ 520 := by decide +kernel
