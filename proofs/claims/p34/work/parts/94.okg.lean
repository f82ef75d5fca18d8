/-! the tables of methods, decided row by row (by wip/p34/tools/gen_ok34.py) -/
theorem am_ok225 : (am_m225.2.2.all (am_rowOk am_m225) && am_methOk am_m225) = true := by decide +kernel
theorem am_ok226 : (am_m226.2.2.all (am_rowOk am_m226) && am_methOk am_m226) = true := by decide +kernel
theorem am_ok227 : (am_m227.2.2.all (am_rowOk am_m227) && am_methOk am_m227) = true := by decide +kernel
theorem am_ok228 : (am_m228.2.2.all (am_rowOk am_m228) && am_methOk am_m228) = true := by decide +kernel
theorem am_ok229 : (am_m229.2.2.all (am_rowOk am_m229) && am_methOk am_m229) = true := by decide +kernel
theorem am_ok230 : (am_m230.2.2.all (am_rowOk am_m230) && am_methOk am_m230) = true := by decide +kernel
theorem am_ok249 : (am_m249.2.2.all (am_rowOk am_m249) && am_methOk am_m249) = true := by decide +kernel
theorem am_ok250 : (am_m250.2.2.all (am_rowOk am_m250) && am_methOk am_m250) = true := by decide +kernel
theorem am_ok251 : (am_m251.2.2.all (am_rowOk am_m251) && am_methOk am_m251) = true := by decide +kernel
theorem am_ok252 : (am_m252.2.2.all (am_rowOk am_m252) && am_methOk am_m252) = true := by decide +kernel
theorem am_ok253 : (am_m253.2.2.all (am_rowOk am_m253) && am_methOk am_m253) = true := by decide +kernel
theorem am_ok254 : (am_m254.2.2.all (am_rowOk am_m254) && am_methOk am_m254) = true := by decide +kernel
theorem am_ok255 : (am_m255.2.2.all (am_rowOk am_m255) && am_methOk am_m255) = true := by decide +kernel
theorem am_ok256 : (am_m256.2.2.all (am_rowOk am_m256) && am_methOk am_m256) = true := by decide +kernel
theorem am_ok257 : (am_m257.2.2.all (am_rowOk am_m257) && am_methOk am_m257) = true := by decide +kernel
theorem am_ok258 : (am_m258.2.2.all (am_rowOk am_m258) && am_methOk am_m258) = true := by decide +kernel
theorem am_ok259 : (am_m259.2.2.all (am_rowOk am_m259) && am_methOk am_m259) = true := by decide +kernel
theorem am_okS287_0 : ((am_m287.2.2.drop 0).take 40).all (am_rowOk am_m287) = true := by decide +kernel
theorem am_okS287_40 : ((am_m287.2.2.drop 40).take 40).all (am_rowOk am_m287) = true := by decide +kernel
theorem am_okS287_80 : ((am_m287.2.2.drop 80).take 40).all (am_rowOk am_m287) = true := by decide +kernel
theorem am_okS287_120 : ((am_m287.2.2.drop 120).take 40).all (am_rowOk am_m287) = true := by decide +kernel
theorem am_len287 : am_m287.2.2.length ≤ 160 := by decide +kernel
