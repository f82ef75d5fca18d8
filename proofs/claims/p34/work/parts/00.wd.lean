/-! a row that uses the whole library's floats at once: so every part is read over it from the first -/
section WD
theorem f_wd (x : UInt64) : FP.Core.dIsNaN x = false → FP.Core.dIsNaN x = false := fun h => (FP.Core.notNaN_iff x).mpr ((FP.Core.notNaN_iff x).mp h)
end WD
