/-! the table of the law itself, decided in pieces (by wip/p34/tools/gen_ok34.py) -/
theorem am_okL0 : ((am_m287.2.2.drop 0).take 40).all (am_rowOk am_m287) = true := by decide +kernel
theorem am_okL1 : ((am_m287.2.2.drop 40).take 40).all (am_rowOk am_m287) = true := by decide +kernel
theorem am_okL2 : ((am_m287.2.2.drop 80).take 40).all (am_rowOk am_m287) = true := by decide +kernel
theorem am_okL3 : ((am_m287.2.2.drop 120).take 40).all (am_rowOk am_m287) = true := by decide +kernel
