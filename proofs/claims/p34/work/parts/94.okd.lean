/-! the tables of methods, decided row by row (by wip/p34/tools/gen_ok34.py) -/
theorem am_ok174 : (am_m174.2.2.all (am_rowOk am_m174) && am_methOk am_m174) = true := by decide +kernel
theorem am_ok175 : (am_m175.2.2.all (am_rowOk am_m175) && am_methOk am_m175) = true := by decide +kernel
theorem am_okS176_0 : ((am_m176.2.2.drop 0).take 40).all (am_rowOk am_m176) = true := by decide +kernel
theorem am_okS176_40 : ((am_m176.2.2.drop 40).take 40).all (am_rowOk am_m176) = true := by decide +kernel
theorem am_okS176_80 : ((am_m176.2.2.drop 80).take 40).all (am_rowOk am_m176) = true := by decide +kernel
theorem am_okS176_120 : ((am_m176.2.2.drop 120).take 40).all (am_rowOk am_m176) = true := by decide +kernel
theorem am_len176 : am_m176.2.2.length ≤ 160 := by decide +kernel
theorem am_okr176 : am_m176.2.2.all (am_rowOk am_m176) = true := by
  have h : (am_m176.2.2.drop 0).all (am_rowOk am_m176) = true := am_sliceC 40 0 am_okS176_0 (am_sliceC 40 40 am_okS176_40 (am_sliceC 40 80 am_okS176_80 (am_sliceC 40 120 am_okS176_120 (am_sliceE am_len176))))
  exact h
theorem am_okm176 : am_methOk am_m176 = true := by decide +kernel
theorem am_ok176 : (am_m176.2.2.all (am_rowOk am_m176) && am_methOk am_m176) = true := by rw [Bool.and_eq_true]; exact ⟨am_okr176, am_okm176⟩
theorem am_ok177 : (am_m177.2.2.all (am_rowOk am_m177) && am_methOk am_m177) = true := by decide +kernel
theorem am_ok178 : (am_m178.2.2.all (am_rowOk am_m178) && am_methOk am_m178) = true := by decide +kernel
theorem am_ok179 : (am_m179.2.2.all (am_rowOk am_m179) && am_methOk am_m179) = true := by decide +kernel
theorem am_ok180 : (am_m180.2.2.all (am_rowOk am_m180) && am_methOk am_m180) = true := by decide +kernel
theorem am_ok181 : (am_m181.2.2.all (am_rowOk am_m181) && am_methOk am_m181) = true := by decide +kernel
theorem am_ok182 : (am_m182.2.2.all (am_rowOk am_m182) && am_methOk am_m182) = true := by decide +kernel
theorem am_ok183 : (am_m183.2.2.all (am_rowOk am_m183) && am_methOk am_m183) = true := by decide +kernel
theorem am_ok184 : (am_m184.2.2.all (am_rowOk am_m184) && am_methOk am_m184) = true := by decide +kernel
theorem am_ok185 : (am_m185.2.2.all (am_rowOk am_m185) && am_methOk am_m185) = true := by decide +kernel
theorem am_ok186 : (am_m186.2.2.all (am_rowOk am_m186) && am_methOk am_m186) = true := by decide +kernel
theorem am_ok187 : (am_m187.2.2.all (am_rowOk am_m187) && am_methOk am_m187) = true := by decide +kernel
theorem am_ok188 : (am_m188.2.2.all (am_rowOk am_m188) && am_methOk am_m188) = true := by decide +kernel
theorem am_ok189 : (am_m189.2.2.all (am_rowOk am_m189) && am_methOk am_m189) = true := by decide +kernel
