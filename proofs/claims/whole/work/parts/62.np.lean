/-! texts: the machine for tiles that are given -/
section NP
theorem q_t0 : ∀ c, c < 127 → m242 1 0 (Int32.ofNat c) = if 48 ≤ c ∧ c ≤ 51 then 7 else -1 := by decide +kernel
theorem q_t7 : ∀ c, c < 127 → m242 1 7 (Int32.ofNat c) = if c = 58 then 2 else -1 := by decide +kernel
theorem q_t2 : ∀ c, c < 127 → m242 1 2 (Int32.ofNat c) = if 48 ≤ c ∧ c ≤ 54 then Int32.ofNat (c - 38) else -1 := by decide +kernel
theorem q_t10 : ∀ c', c' < 7 → ∀ c, c < 127 → m242 1 (Int32.ofNat (c' + 10)) (Int32.ofNat c) = if c' + 48 ≤ c ∧ c ≤ 54 then 1 else -1 := by decide +kernel
theorem q_t1 : ∀ c, c < 127 → m242 1 1 (Int32.ofNat c) = if c = 44 then 2 else if c = 59 then 0 else -1 := by decide +kernel
end NP
