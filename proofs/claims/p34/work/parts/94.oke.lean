/-! the tables of methods, decided row by row (by wip/p34/tools/gen_ok34.py) -/
theorem am_ok190 : (am_m190.2.2.all (am_rowOk am_m190) && am_methOk am_m190) = true := by decide +kernel
theorem am_ok191 : (am_m191.2.2.all (am_rowOk am_m191) && am_methOk am_m191) = true := by decide +kernel
theorem am_ok192 : (am_m192.2.2.all (am_rowOk am_m192) && am_methOk am_m192) = true := by decide +kernel
theorem am_ok193 : (am_m193.2.2.all (am_rowOk am_m193) && am_methOk am_m193) = true := by decide +kernel
theorem am_ok194 : (am_m194.2.2.all (am_rowOk am_m194) && am_methOk am_m194) = true := by decide +kernel
theorem am_ok195 : (am_m195.2.2.all (am_rowOk am_m195) && am_methOk am_m195) = true := by decide +kernel
theorem am_ok196 : (am_m196.2.2.all (am_rowOk am_m196) && am_methOk am_m196) = true := by decide +kernel
theorem am_ok197 : (am_m197.2.2.all (am_rowOk am_m197) && am_methOk am_m197) = true := by decide +kernel
theorem am_ok198 : (am_m198.2.2.all (am_rowOk am_m198) && am_methOk am_m198) = true := by decide +kernel
theorem am_ok199 : (am_m199.2.2.all (am_rowOk am_m199) && am_methOk am_m199) = true := by decide +kernel
theorem am_ok200 : (am_m200.2.2.all (am_rowOk am_m200) && am_methOk am_m200) = true := by decide +kernel
theorem am_ok201 : (am_m201.2.2.all (am_rowOk am_m201) && am_methOk am_m201) = true := by decide +kernel
theorem am_ok202 : (am_m202.2.2.all (am_rowOk am_m202) && am_methOk am_m202) = true := by decide +kernel
