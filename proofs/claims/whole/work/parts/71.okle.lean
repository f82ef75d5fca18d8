/-! the table of the law itself, decided in pieces (by wip/tools/gen_ok.py) -/
theorem am_okL28 : ((am_m287.2.2.drop 1120).take 40).all (am_rowOk am_m287) = true := by decide +kernel
theorem am_okL29 : ((am_m287.2.2.drop 1160).take 40).all (am_rowOk am_m287) = true := by decide +kernel
