/-! mean pips -/
section NE
variable {D : am_D} {n p : Nat} {T V : Nat → Nat}
theorem q_fdiv0 : ∀ a, a < 169 → ∀ b, b < 29 → b ≠ 0 → FP.fdiv (FP.i2f (Int32.ofNat a)) (FP.i2f (Int32.ofNat b)) &&& 0x7fffffff ≤ 0x7f800000 := by decide +kernel
def q_mn (a b : Nat) : UInt32 := if b = 0 then FP.fconst0 else FP.fdiv (FP.i2f (Int32.ofNat a)) (FP.i2f (Int32.ofNat b))
theorem q_a168 {f : Nat → Int32} (h : ∀ t, t < 28 → ∃ w, w < 6 ∧ f t = Int32.ofNat w) : q_all (q_pips f) ≤ 168 := by
  rw [← q_hsum h]
  have h1 := q_S_le (f := fun t => if m48 (f t) = 0 then 0 else q_pip t) (g := q_pip) 28 0 (fun t _ _ => by
    show (if m48 (f t) = 0 then 0 else q_pip t) ≤ q_pip t
    split <;> omega)
  have h2 : q_S q_pip 0 28 = 168 := by decide +kernel
  omega
theorem q_mn_guard {a b : Nat} (ha : a < 169) (hb : b < 29) (X : Int32) (Y : Int32) (hX : X = Int32.ofNat a) (hY : Y = Int32.ofNat b) : ((if Y = 0 then (some FP.fconst0) else (if (FP.fdiv ((FP.i2f X)) ((FP.i2f Y))) &&& 0x7fffffff ≤ 0x7f800000 then (some (FP.fdiv ((FP.i2f X)) ((FP.i2f Y)))) else none)) : Option UInt32) = some (q_mn a b) := by
  subst hX hY
  unfold q_mn
  by_cases c : b = 0
  · subst c
    rw [if_pos (show Int32.ofNat 0 = 0 from rfl), if_pos rfl]
  · rw [if_neg (show ¬ Int32.ofNat b = 0 by rw [q_l0, q_eq (by omega) (by omega)]; exact c), if_neg c, if_pos (q_fdiv0 a ha b hb c)]
theorem q30 {N : Nat} (hN : 2000 ≤ N) (hK : q_K D n p T V) : m30 N D = some (q_mn (q_all (q_pips (q_P D))) (q_all (q_cnt (q_P D)))) := by
  have fcnt : q_cnt (D.1 7) = q_cnt (q_P D) := funext fun v => q_cnt_congr (k_pl hK)
  have fpip : q_pips (D.1 7) = q_pips (q_P D) := funext fun v => q_pips_congr (k_pl hK)
  have h1 := q_a168 (k_pw hK)
  have h2 := q_part (k_pw hK)
  unfold m30
  rw [q210 hN, fcnt, Option.bind_some, q211 hN, fpip]
  have := q_mn_guard (a := q_all (q_pips (q_P D))) (b := q_all (q_cnt (q_P D))) (by omega) (by omega) _ _ rfl rfl
  simp only [Option.bind_some]
  rw [this]
  rfl
theorem q144 {N : Nat} (hN : 2000 ≤ N) (hB : q_B D) (hK : q_K D n p T V) : m144 N D = some (q_mn (q_all (q_pips (q_P D))) (q_all (q_cnt (q_P D)))) := by
  have h1 := q_a168 (k_pw hK)
  have h2 := q_part (k_pw hK)
  have ex : Int32.ofNat (q_pips (q_P D) (Int32.ofNat 0)) + Int32.ofNat (q_pips (q_P D) (Int32.ofNat 1)) + Int32.ofNat (q_pips (q_P D) (Int32.ofNat 2)) + Int32.ofNat (q_pips (q_P D) (Int32.ofNat 3)) = Int32.ofNat (q_all (q_pips (q_P D))) := by
    have e : q_all (q_pips (q_P D)) = q_pips (q_P D) (Int32.ofNat 0) + q_pips (q_P D) (Int32.ofNat 1) + q_pips (q_P D) (Int32.ofNat 2) + q_pips (q_P D) (Int32.ofNat 3) := by
      rw [q_all_eq]
      omega
    rw [q_add, q_add, q_add, e]
  have ey : Int32.ofNat 28 - Int32.ofNat (q_cnt (q_P D) 4) - Int32.ofNat (q_cnt (q_P D) 5) = Int32.ofNat (q_all (q_cnt (q_P D))) := by
    have e4 : q_cnt (q_P D) 4 = q_cnt (q_P D) (Int32.ofNat 4) := rfl
    have e5 : q_cnt (q_P D) 5 = q_cnt (q_P D) (Int32.ofNat 5) := rfl
    have e : 28 - q_cnt (q_P D) (Int32.ofNat 4) - q_cnt (q_P D) (Int32.ofNat 5) = q_all (q_cnt (q_P D)) := by omega
    rw [e4, e5, q_sub (by omega), q_sub (by omega), e]
  unfold m144
  rw [q_l0, q_l1, q_l2, q_l3, q58 hN hB, q58 hN hB, q58 hN hB, q58 hN hB, q135 hN]
  simp only [am_lt, Option.bind_some]
  have := q_mn_guard (a := q_all (q_pips (q_P D))) (b := q_all (q_cnt (q_P D))) (by omega) (by omega) _ _ ex ey
  rw [q_l0] at this
  rw [this]
  rfl
/-- both means are alike -/
theorem g_mean {N : Nat} (hN : 2000 ≤ N) (hI : q_I D) : ∃ f, m30 N D = some f ∧ m145 N D = some (f, am_uI D 106 0 0) ∧ q_I (am_uI D 106 0 0) := by
  obtain ⟨n, p, T, V, hK⟩ := q_I_K hI
  have hE := q_hE D 0
  refine ⟨_, q30 hN hK, ?_, q_E_I hE hI⟩
  unfold m145
  simp only [am_lt]
  rw [q144 hN (q_E_B hE hI.1) (q_E_K hE hK), q_E_P hE]
  rfl
end NE
