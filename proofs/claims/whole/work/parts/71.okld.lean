/-! the table of the law itself, decided in pieces (by wip/tools/gen_ok.py) -/
theorem am_okL21 : ((am_m287.2.2.drop 840).take 40).all (am_rowOk am_m287) = true := by decide +kernel
theorem am_okL22 : ((am_m287.2.2.drop 880).take 40).all (am_rowOk am_m287) = true := by decide +kernel
theorem am_okL23 : ((am_m287.2.2.drop 920).take 40).all (am_rowOk am_m287) = true := by decide +kernel
theorem am_okL24 : ((am_m287.2.2.drop 960).take 40).all (am_rowOk am_m287) = true := by decide +kernel
theorem am_okL25 : ((am_m287.2.2.drop 1000).take 40).all (am_rowOk am_m287) = true := by decide +kernel
theorem am_okL26 : ((am_m287.2.2.drop 1040).take 40).all (am_rowOk am_m287) = true := by decide +kernel
theorem am_okL27 : ((am_m287.2.2.drop 1080).take 40).all (am_rowOk am_m287) = true := by decide +kernel
