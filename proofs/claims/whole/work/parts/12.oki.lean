/-! the tables of the methods 262 to 287, decided row by row (by wip/tools/gen_ok.py) -/
theorem am_ok262 : (am_m262.2.2.all (am_rowOk am_m262) && am_methOk am_m262) = true := by decide +kernel
theorem am_ok263 : (am_m263.2.2.all (am_rowOk am_m263) && am_methOk am_m263) = true := by decide +kernel
theorem am_ok264 : (am_m264.2.2.all (am_rowOk am_m264) && am_methOk am_m264) = true := by decide +kernel
theorem am_ok265 : (am_m265.2.2.all (am_rowOk am_m265) && am_methOk am_m265) = true := by decide +kernel
theorem am_ok266 : (am_m266.2.2.all (am_rowOk am_m266) && am_methOk am_m266) = true := by decide +kernel
theorem am_ok267 : (am_m267.2.2.all (am_rowOk am_m267) && am_methOk am_m267) = true := by decide +kernel
theorem am_ok268 : (am_m268.2.2.all (am_rowOk am_m268) && am_methOk am_m268) = true := by decide +kernel
theorem am_ok269 : (am_m269.2.2.all (am_rowOk am_m269) && am_methOk am_m269) = true := by decide +kernel
theorem am_ok270 : (am_m270.2.2.all (am_rowOk am_m270) && am_methOk am_m270) = true := by decide +kernel
theorem am_ok271 : (am_m271.2.2.all (am_rowOk am_m271) && am_methOk am_m271) = true := by decide +kernel
theorem am_ok272 : (am_m272.2.2.all (am_rowOk am_m272) && am_methOk am_m272) = true := by decide +kernel
theorem am_ok273 : (am_m273.2.2.all (am_rowOk am_m273) && am_methOk am_m273) = true := by decide +kernel
theorem am_ok274 : (am_m274.2.2.all (am_rowOk am_m274) && am_methOk am_m274) = true := by decide +kernel
theorem am_ok275 : (am_m275.2.2.all (am_rowOk am_m275) && am_methOk am_m275) = true := by decide +kernel
theorem am_ok276 : (am_m276.2.2.all (am_rowOk am_m276) && am_methOk am_m276) = true := by decide +kernel
theorem am_ok277 : (am_m277.2.2.all (am_rowOk am_m277) && am_methOk am_m277) = true := by decide +kernel
theorem am_ok278 : (am_m278.2.2.all (am_rowOk am_m278) && am_methOk am_m278) = true := by decide +kernel
theorem am_ok279 : (am_m279.2.2.all (am_rowOk am_m279) && am_methOk am_m279) = true := by decide +kernel
theorem am_ok280 : (am_m280.2.2.all (am_rowOk am_m280) && am_methOk am_m280) = true := by decide +kernel
theorem am_ok281 : (am_m281.2.2.all (am_rowOk am_m281) && am_methOk am_m281) = true := by decide +kernel
theorem am_ok282 : (am_m282.2.2.all (am_rowOk am_m282) && am_methOk am_m282) = true := by decide +kernel
theorem am_ok283 : (am_m283.2.2.all (am_rowOk am_m283) && am_methOk am_m283) = true := by decide +kernel
theorem am_ok284 : (am_m284.2.2.all (am_rowOk am_m284) && am_methOk am_m284) = true := by decide +kernel
theorem am_ok285 : (am_m285.2.2.all (am_rowOk am_m285) && am_methOk am_m285) = true := by decide +kernel
theorem am_ok286 : (am_m286.2.2.all (am_rowOk am_m286) && am_methOk am_m286) = true := by decide +kernel
theorem am_ok287 : am_m287.2.2.all (am_rowOk am_m287) = true := by decide +kernel
