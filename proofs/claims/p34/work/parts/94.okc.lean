/-! the tables of methods, decided row by row (by wip/p34/tools/gen_ok34.py) -/
theorem am_ok165 : (am_m165.2.2.all (am_rowOk am_m165) && am_methOk am_m165) = true := by decide +kernel
theorem am_ok166 : (am_m166.2.2.all (am_rowOk am_m166) && am_methOk am_m166) = true := by decide +kernel
theorem am_ok167 : (am_m167.2.2.all (am_rowOk am_m167) && am_methOk am_m167) = true := by decide +kernel
theorem am_ok168 : (am_m168.2.2.all (am_rowOk am_m168) && am_methOk am_m168) = true := by decide +kernel
theorem am_ok169 : (am_m169.2.2.all (am_rowOk am_m169) && am_methOk am_m169) = true := by decide +kernel
theorem am_ok170 : (am_m170.2.2.all (am_rowOk am_m170) && am_methOk am_m170) = true := by decide +kernel
theorem am_ok171 : (am_m171.2.2.all (am_rowOk am_m171) && am_methOk am_m171) = true := by decide +kernel
theorem am_ok172 : (am_m172.2.2.all (am_rowOk am_m172) && am_methOk am_m172) = true := by decide +kernel
theorem am_okS173_0 : ((am_m173.2.2.drop 0).take 40).all (am_rowOk am_m173) = true := by decide +kernel
theorem am_okS173_40 : ((am_m173.2.2.drop 40).take 40).all (am_rowOk am_m173) = true := by decide +kernel
theorem am_okS173_80 : ((am_m173.2.2.drop 80).take 40).all (am_rowOk am_m173) = true := by decide +kernel
theorem am_len173 : am_m173.2.2.length ≤ 120 := by decide +kernel
theorem am_okr173 : am_m173.2.2.all (am_rowOk am_m173) = true := by
  have h : (am_m173.2.2.drop 0).all (am_rowOk am_m173) = true := am_sliceC 40 0 am_okS173_0 (am_sliceC 40 40 am_okS173_40 (am_sliceC 40 80 am_okS173_80 (am_sliceE am_len173)))
  exact h
theorem am_okm173 : am_methOk am_m173 = true := by decide +kernel
theorem am_ok173 : (am_m173.2.2.all (am_rowOk am_m173) && am_methOk am_m173) = true := by rw [Bool.and_eq_true]; exact ⟨am_okr173, am_okm173⟩
