/-! the table of the law itself, decided in pieces (by wip/tools/gen_ok.py) -/
theorem am_okL14 : ((am_m287.2.2.drop 560).take 40).all (am_rowOk am_m287) = true := by decide +kernel
theorem am_okL15 : ((am_m287.2.2.drop 600).take 40).all (am_rowOk am_m287) = true := by decide +kernel
theorem am_okL16 : ((am_m287.2.2.drop 640).take 40).all (am_rowOk am_m287) = true := by decide +kernel
theorem am_okL17 : ((am_m287.2.2.drop 680).take 40).all (am_rowOk am_m287) = true := by decide +kernel
theorem am_okL18 : ((am_m287.2.2.drop 720).take 40).all (am_rowOk am_m287) = true := by decide +kernel
theorem am_okL19 : ((am_m287.2.2.drop 760).take 40).all (am_rowOk am_m287) = true := by decide +kernel
theorem am_okL20 : ((am_m287.2.2.drop 800).take 40).all (am_rowOk am_m287) = true := by decide +kernel
