/-! the tables of methods, decided row by row (by wip/p34/tools/gen_ok34.py) -/
theorem am_ok255 : (am_m255.2.2.all (am_rowOk am_m255) && am_methOk am_m255) = true := by decide +kernel
theorem am_ok256 : (am_m256.2.2.all (am_rowOk am_m256) && am_methOk am_m256) = true := by decide +kernel
theorem am_ok257 : (am_m257.2.2.all (am_rowOk am_m257) && am_methOk am_m257) = true := by decide +kernel
theorem am_ok258 : (am_m258.2.2.all (am_rowOk am_m258) && am_methOk am_m258) = true := by decide +kernel
theorem am_ok259 : (am_m259.2.2.all (am_rowOk am_m259) && am_methOk am_m259) = true := by decide +kernel
theorem am_ok288 : (am_m288.2.2.all (am_rowOk am_m288) && am_methOk am_m288) = true := by decide +kernel
theorem am_ok289 : (am_m289.2.2.all (am_rowOk am_m289) && am_methOk am_m289) = true := by decide +kernel
theorem am_ok290 : (am_m290.2.2.all (am_rowOk am_m290) && am_methOk am_m290) = true := by decide +kernel
theorem am_ok291 : (am_m291.2.2.all (am_rowOk am_m291) && am_methOk am_m291) = true := by decide +kernel
theorem am_ok292 : (am_m292.2.2.all (am_rowOk am_m292) && am_methOk am_m292) = true := by decide +kernel
theorem am_ok293 : (am_m293.2.2.all (am_rowOk am_m293) && am_methOk am_m293) = true := by decide +kernel
