/-! two rows that other parts of the whole lent (54.ng, 67.nu) -/
theorem q_nm {k : Nat} (hk : k < 2147483648) : ¬ Int32.ofNat k = -1 := fun q => by
  have : (Int32.ofNat k).toInt = (-1 : Int32).toInt := by rw [q]
  rw [q_ti hk] at this
  have e : (-1 : Int32).toInt = -1 := by decide
  omega
theorem q248 {c a b : Nat} (hc : c < 1000) (ha : a < 1000) (hb : b < 1000) : m248 (Int32.ofNat c) (Int32.ofNat a) (Int32.ofNat b) = if a ≤ c ∧ c ≤ b then 1 else 0 := by
  unfold m248
  by_cases h1 : a ≤ c
  · rw [if_neg (q_nlt (by omega) h1)]
    by_cases h2 : c ≤ b
    · rw [if_neg (q_nlt (by omega) h2), if_pos ⟨h1, h2⟩]
    · rw [if_pos (q_ylt (by omega) (by omega)), if_neg (fun q => h2 q.2)]
  · rw [if_pos (q_ylt (by omega) (by omega)), if_neg (fun q => h1 q.1)]
