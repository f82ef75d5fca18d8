/-! a row that another part of the whole lent (69.qn) -/
theorem q_s1 (k : Nat) : Int32.ofNat k + 1 = Int32.ofNat (k + 1) := q_add k 1
