/-! the table of the law itself, decided in pieces (by wip/tools/gen_ok.py) -/
theorem am_okL7 : ((am_m287.2.2.drop 280).take 40).all (am_rowOk am_m287) = true := by decide +kernel
theorem am_okL8 : ((am_m287.2.2.drop 320).take 40).all (am_rowOk am_m287) = true := by decide +kernel
theorem am_okL9 : ((am_m287.2.2.drop 360).take 40).all (am_rowOk am_m287) = true := by decide +kernel
theorem am_okL10 : ((am_m287.2.2.drop 400).take 40).all (am_rowOk am_m287) = true := by decide +kernel
theorem am_okL11 : ((am_m287.2.2.drop 440).take 40).all (am_rowOk am_m287) = true := by decide +kernel
theorem am_okL12 : ((am_m287.2.2.drop 480).take 40).all (am_rowOk am_m287) = true := by decide +kernel
theorem am_okL13 : ((am_m287.2.2.drop 520).take 40).all (am_rowOk am_m287) = true := by decide +kernel
