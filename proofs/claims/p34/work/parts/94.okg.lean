/-! the tables of methods, decided row by row (by wip/p34/tools/gen_ok34.py) -/
theorem am_ok294 : (am_m294.2.2.all (am_rowOk am_m294) && am_methOk am_m294) = true := by decide +kernel
theorem am_ok295 : (am_m295.2.2.all (am_rowOk am_m295) && am_methOk am_m295) = true := by decide +kernel
