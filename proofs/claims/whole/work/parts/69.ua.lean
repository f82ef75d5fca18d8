/-! floats: shares, doubled until they come to 1 -/
section UA
theorem f_nn {x : UInt64} (h : FP.Core.dIsNaN x = false) : x &&& 0x7fffffffffffffff ≤ 0x7ff0000000000000 := by
  have h1 : ¬ 9218868437227405312 < x.toNat % 2 ^ 63 := fun q => by
    rw [(FP.Core.isNaN_bits x).mpr q] at h
    cases h
  rw [UInt64.le_iff_toNat_le, UInt64.toNat_and]
  show x.toNat &&& (2 ^ 63 - 1) ≤ 9218868437227405312
  rw [Nat.and_two_pow_sub_one_eq_mod]
  omega
theorem f_F1 : q_F1 := fun a b hb => f_nn (FP.Core.ddiv_out (by
  obtain ⟨s, c, q, h⟩ := FP.Core.i2d_fin a
  exact (FP.Core.notNaN_iff _).mpr (by rw [show FP.i2d a = FP.Core.i2d a from rfl, h]; intro q; cases q)) (FP.Core.i2d_fin b) (fun hz => FP.Core.i2d_ne_zero hb ((FP.Core.zero_bits2 _).mp hz)))
/-- a share's bits: c times 2 to the -52 - k -/
def f_V (x : UInt64) (c k : Nat) : Prop := FP.Core.val64 x = .fin false c (-52 - (k : Int)) ∧ 2 ^ 52 ≤ c ∧ c < 2 ^ 53
theorem f_two : FP.Core.val64 (UInt64.ofNat 4611686018427387904) = .fin false (2 ^ 52) (-51) := by decide +kernel
theorem f_dbl {x : UInt64} {c k : Nat} (h : f_V x c (k + 1)) (hk : k ≤ 100) : f_V (FP.dmul x (UInt64.ofNat 4611686018427387904)) c k := by
  obtain ⟨h1, h2, h3⟩ := h
  refine ⟨?_, h2, h3⟩
  show FP.Core.val64 (FP.Core.dmul x _) = _
  rw [FP.Core.val64_dmul, h1, f_two]
  show FP.Core.roundRatio FP.Core.b64 false (c * 2 ^ 52) 1 _ = _
  refine FP.Core.roundRatio_exact FP.Core.good_b64 (by decide) ⟨h3, ?_, ?_, Or.inr h2⟩ ?_
  · show (-1074 : Int) ≤ _
    omega
  · show _ ≤ (971 : Int)
    omega
  · rw [show ((-52 - ((k + 1 : Nat) : Int)) + -51 - (-52 - (k : Int))).toNat = 0 by omega, show ((-52 - (k : Int)) - ((-52 - ((k + 1 : Nat) : Int)) + -51)).toNat = 52 by omega, Nat.pow_zero, Nat.mul_one, Nat.mul_one]
theorem f_nan {x : UInt64} {c k : Nat} (h : f_V x c k) : FP.Core.dIsNaN x = false := (FP.Core.notNaN_iff x).mpr (by rw [h.1]; intro q; cases q)
theorem f_fin {x : UInt64} {c k : Nat} (h : f_V x c k) : FP.Core.DFin x := ⟨_, _, _, h.1⟩
theorem f_ord (c d : Nat) (q r : Int) {u v : Nat} (hu : (q - min q r).toNat = u) (hv : (r - min q r).toNat = v) : FP.Core.order (.fin false c q) (.fin false d r) = some (if c * 2 ^ u < d * 2 ^ v then .lt else if c * 2 ^ u = d * 2 ^ v then .eq else .gt) := by
  subst hu; subst hv
  show some (compareOfLessAndEq ((c * 2 ^ (q - min q r).toNat : Nat) : Int) ((d * 2 ^ (r - min q r).toNat : Nat) : Int)) = _
  generalize c * 2 ^ (q - min q r).toNat = A
  generalize d * 2 ^ (r - min q r).toNat = B
  unfold compareOfLessAndEq
  by_cases h1 : A < B
  · rw [if_pos (by omega), if_pos h1]
  · rw [if_neg (by omega), if_neg h1]
    by_cases h2 : A = B
    · rw [if_pos (by omega), if_pos h2]
    · rw [if_neg (by omega), if_neg h2]
theorem f_c0 {x : UInt64} {c k : Nat} (h : f_V x c k) : FP.dcmp x FP.dconst0 = some .gt := by
  obtain ⟨h1, h2, h3⟩ := h
  show FP.Core.order (FP.Core.val64 x) (FP.Core.val64 FP.Core.dconst0) = _
  rw [h1, FP.Core.val64_dconst0, f_ord _ _ _ _ rfl rfl, Nat.zero_mul]
  have := Nat.two_pow_pos (-52 - (k : Int) - min (-52 - (k : Int)) FP.Core.b64.qmin).toNat
  have hp : 0 < c * 2 ^ (-52 - (k : Int) - min (-52 - (k : Int)) FP.Core.b64.qmin).toNat := Nat.mul_pos (by omega) this
  rw [if_neg (by omega), if_neg (by omega)]
theorem f_c2 {x : UInt64} {c k : Nat} (h : f_V x c k) : FP.dcmp x (UInt64.ofNat 4611686018427387904) = some .lt := by
  obtain ⟨h1, h2, h3⟩ := h
  show FP.Core.order (FP.Core.val64 x) (FP.Core.val64 _) = _
  rw [h1, f_two, f_ord (u := 0) (v := k + 1) _ _ _ _ (by omega) (by omega)]
  have : 2 ^ 53 ≤ 2 ^ 52 * 2 ^ (k + 1) := by
    rw [← Nat.pow_add]; exact Nat.pow_le_pow_right (by decide) (by omega)
  rw [if_pos (by omega)]
theorem f_c1L {x : UInt64} {c k : Nat} (h : f_V x c (k + 1)) : FP.dcmp x FP.dconst1 = some .lt := by
  obtain ⟨h1, h2, h3⟩ := h
  show FP.Core.order (FP.Core.val64 x) (FP.Core.val64 FP.Core.dconst1) = _
  rw [h1, FP.Core.val64_dconst1, f_ord (u := 0) (v := k + 1) _ _ _ _ (by omega) (by omega)]
  have : 2 ^ 53 ≤ 2 ^ 52 * 2 ^ (k + 1) := by
    rw [← Nat.pow_add]; exact Nat.pow_le_pow_right (by decide) (by omega)
  rw [if_pos (by omega)]
theorem f_c1G {x : UInt64} {c : Nat} (h : f_V x c 0) : 0 ≤ Op.cmpValue (FP.dcmp x FP.dconst1) .g := by
  obtain ⟨h1, h2, h3⟩ := h
  have : FP.dcmp x FP.dconst1 = some (if c * 2 ^ 0 < 2 ^ 52 * 2 ^ 0 then .lt else if c * 2 ^ 0 = 2 ^ 52 * 2 ^ 0 then .eq else .gt) := by
    show FP.Core.order (FP.Core.val64 x) (FP.Core.val64 FP.Core.dconst1) = _
    rw [h1, FP.Core.val64_dconst1, f_ord (u := 0) (v := 0) _ _ _ _ (by omega) (by omega)]
  rw [this, if_neg (by omega)]
  by_cases e : c * 2 ^ 0 = 2 ^ 52 * 2 ^ 0
  · rw [if_pos e]; decide
  · rw [if_neg e]; decide
/-- the loops -/
theorem f_L53 : ∀ (k : Nat) (x : UInt64) (c : Nat), f_V x c k → k ≤ 60 → ∃ y, f_V y c 0 ∧ (∀ (D : am_D) (v2 v3 : Int32) (N m j : Nat) (e : Int32), k < m → k + j ≤ 60 → m36_L53 N D v2 v3 m x e (Int32.ofNat j) = some (y, e + Int32.ofInt (-(k : Int)))) ∧ ∀ (D : am_D) (N m : Nat) (z : Int64), k < m → m147_L15 N D m x z = some (y, z - Int64.ofNat k)
  | 0, x, c, h, hk => by
    refine ⟨x, h, fun D v2 v3 N m j e hm hj => ?_, fun D N m z hm => ?_⟩
    · obtain ⟨n, rfl⟩ : ∃ n, m = n + 1 := ⟨m - 1, by omega⟩
      rw [m36_L53, if_neg (show ¬ (64 : Int32) ≤ Int32.ofNat j from q_nle (a := j) (b := 64) (by omega) (by omega)), if_pos (f_c1G h)]
      show _ = some (x, e + 0)
      rw [Int32.add_zero]
    · obtain ⟨n, rfl⟩ : ∃ n, m = n + 1 := ⟨m - 1, by omega⟩
      rw [m147_L15, if_pos (f_c1G h)]
      show _ = some (x, z - 0)
      rw [Int64.sub_zero]
  | k + 1, x, c, h, hk => by
    have hd := f_dbl h (by omega)
    have hn := f_nn (f_nan hd)
    have hc : ¬ 0 ≤ Op.cmpValue (FP.dcmp x FP.dconst1) .g := by rw [f_c1L h]; decide
    obtain ⟨y, g2, g1, g3⟩ := f_L53 k _ c hd (by omega)
    refine ⟨y, g2, fun D v2 v3 N m j e hm hj => ?_, fun D N m z hm => ?_⟩
    · obtain ⟨n, rfl⟩ : ∃ n, m = n + 1 := ⟨m - 1, by omega⟩
      rw [m36_L53, if_neg (show ¬ (64 : Int32) ≤ Int32.ofNat j from q_nle (a := j) (b := 64) (by omega) (by omega)), if_neg hc, if_pos hn]
      show m36_L53 N D v2 v3 n _ (e + -1) (Int32.ofNat j + 1) = _
      rw [q_s1, g1 D v2 v3 N n (j + 1) (e + -1) (by omega) (by omega), Int32.add_assoc]
      have : (-1 : Int32) + Int32.ofInt (-(k : Int)) = Int32.ofInt (-((k + 1 : Nat) : Int)) := by
        rw [show (-1 : Int32) = Int32.ofInt (-1) from rfl, ← Int32.ofInt_add]
        congr 1
        omega
      rw [this]
    · obtain ⟨n, rfl⟩ : ∃ n, m = n + 1 := ⟨m - 1, by omega⟩
      rw [m147_L15, if_neg hc, if_pos hn]
      show m147_L15 N D n _ (z - Int64.ofNat 1) = _
      have : z - Int64.ofNat 1 - Int64.ofNat k = z - Int64.ofNat (k + 1) := by
        rw [Int64.ofNat_add]
        generalize Int64.ofNat k = a
        generalize Int64.ofNat 1 = b
        rw [Int64.sub_eq_add_neg, Int64.sub_eq_add_neg, Int64.sub_eq_add_neg, Int64.neg_add, Int64.sub_eq_add_neg, Int64.add_assoc, Int64.add_comm (-b)]
      rw [g3 D N n (z - Int64.ofNat 1) (by omega), this]
theorem f_sh : ∀ k : Nat, k < 61 → ((((0 : Int32) + Int32.ofInt (-(k : Int))) + 1023).toInt64 <<< ((52 : Int32).toInt64 &&& 63)) = (Int64.ofNat 1023 - Int64.ofNat k) * Int64.ofNat 4503599627370496 := by decide +kernel
theorem f_p52 : FP.l2d ((Int64.ofNat 1) <<< ((52 : Int32).toInt64 &&& 63)) = UInt64.ofNat 4841369599423283200 := by decide +kernel
theorem f_v52 : FP.Core.val64 (UInt64.ofNat 4841369599423283200) = .fin false (2 ^ 52) 0 := by decide +kernel
theorem f_bits {x : UInt64} {c k N : Nat} (hN : 2000 ≤ N) (h : f_V x c k) (hk : k ≤ 60) : ∃ v : Int64, (∀ D : am_D, m36 N D x 52 1023 = some v) ∧ ∀ D : am_D, m147 N D x = some v := by
  obtain ⟨y, g2, g1, g3⟩ := f_L53 k x c h hk
  have n1 : FP.Core.dIsNaN (FP.dsub y FP.dconst1) = false := FP.Core.dsub_out (f_nan g2) ⟨_, _, _, FP.Core.val64_dconst1⟩
  have z52 : ¬ FP.Core.DZero (UInt64.ofNat 4841369599423283200) := fun ⟨s, q, e⟩ => by
    rw [f_v52] at e
    injection e with e1 e2
    exact absurd e2 (by decide)
  have n2 : FP.Core.dIsNaN (FP.dmul (FP.dsub y FP.dconst1) (UInt64.ofNat 4841369599423283200)) = false := FP.Core.dmul_out' n1 ⟨_, _, _, f_v52⟩ z52
  have g1' : ∀ D : am_D, m36_L53 N D 52 1023 N x 0 0 = some (y, 0 + Int32.ofInt (-(k : Int))) := fun D => g1 D 52 1023 N N 0 0 (by omega) (by omega)
  have g17 : ∀ D : am_D, m36_L17 N D 52 1023 N x 0 0 = some (x, 0) := fun D => by
    obtain ⟨n, rfl⟩ : ∃ n, N = n + 1 := ⟨N - 1, by omega⟩
    rw [m36_L17, if_neg (show ¬ (64 : Int32) ≤ 0 by decide), f_c2 h, if_pos (show Op.cmpValue (some .lt) .l < 0 by decide)]
  refine ⟨(Int64.ofNat 1023 - Int64.ofNat k) * Int64.ofNat 4503599627370496 + FP.d2l (FP.dmul (FP.dsub y FP.dconst1) (UInt64.ofNat 4841369599423283200)), fun D => ?_, fun D => ?_⟩
  · unfold m36
    rw [f_c0 h, if_pos (show 0 < Op.cmpValue (some .gt) .g by decide), g17, Option.bind_some]
    dsimp only
    rw [g1', Option.bind_some]
    dsimp only
    rw [if_pos (f_nn n1), f_p52, if_pos (f_nn n2), f_sh k (by omega)]
    rfl
  · unfold m147
    rw [f_c0 h, if_neg (show ¬ Op.cmpValue (some .gt) .l = 0 by decide)]
    simp only [am_lt]
    rw [g3 D N N _ (by omega), Option.bind_some]
    dsimp only
    rw [if_pos (f_nn n1), if_pos (f_nn n2)]
theorem f_i2d {a : Nat} (ha : a < 2147483648) : ∃ (c : Nat) (q : Int), FP.Core.val64 (FP.i2d (Int32.ofNat a)) = .fin false c q ∧ a * 2 ^ (0 - q).toNat = c * 2 ^ (q - 0).toNat := by
  obtain ⟨c, q, h1, h2⟩ := FP.Core.natFit (n := a) FP.Core.good_b64 FP.Core.wide_b64 false (Nat.le_trans (Nat.le_of_lt ha) (by decide))
  rw [Nat.mul_one] at h2
  refine ⟨c, q, ?_, h2⟩
  show FP.Core.val64 (FP.Core.i2d (Int32.ofNat a)) = _
  rw [FP.Core.val64_i2d, am_i32 ha]
  show FP.Core.round FP.Core.b64 (.fin (decide ((a : Int) < 0)) (a : Int).natAbs 0) = _
  rw [decide_eq_false (by omega), Int.natAbs_natCast]
  exact FP.Core.roundRatio_exact FP.Core.good_b64 (by decide) h1 (by rw [Nat.mul_one]; exact h2)
theorem f_pow (a : Nat) (ha : 0 < a) : ∀ (n b : Nat), a ≤ b → b < a * 2 ^ n → ∃ j, j ≤ n ∧ b ≤ a * 2 ^ j ∧ a * 2 ^ j < 2 * b
  | 0, b, h1, h2 => by
    rw [Nat.pow_zero, Nat.mul_one] at h2
    omega
  | n + 1, b, h1, h2 => by
    by_cases c : b < a * 2 ^ n
    · obtain ⟨j, g1, g2, g3⟩ := f_pow a ha n b h1 c
      exact ⟨j, by omega, g2, g3⟩
    · rw [Nat.pow_succ, ← Nat.mul_assoc] at h2
      by_cases d : a * 2 ^ n = b
      · exact ⟨n, by omega, by omega, by omega⟩
      · exact ⟨n + 1, by omega, by rw [Nat.pow_succ, ← Nat.mul_assoc]; omega, by rw [Nat.pow_succ, ← Nat.mul_assoc]; omega⟩
theorem f_rr {a b : Nat} (ha : 0 < a) (hab : a ≤ b) (hb : b < 2 ^ 29) : ∃ c k : Nat, k ≤ 29 ∧ FP.Core.roundRatio FP.Core.b64 false a b 0 = .fin false c (-52 - (k : Int)) ∧ 2 ^ 52 ≤ c ∧ c < 2 ^ 53 := by
  have hB : 0 < b := by omega
  obtain ⟨j, j1, j2, j3⟩ := f_pow a ha 29 b hab (by
    have : 1 * 2 ^ 29 ≤ a * 2 ^ 29 := Nat.mul_le_mul_right _ ha
    omega)
  have hq : FP.Core.quantum FP.Core.b64 a b 0 = -52 - (j : Int) := by
    refine FP.Core.quantum_eq ha hB ?_ ?_ (Or.inr ?_)
    · show (-1074 : Int) ≤ _
      omega
    · have e : (-52 - (j : Int) - 0 + (FP.Core.b64.p : Int)) = ((1 : Nat) : Int) - (j : Nat) := by
        show -52 - (j : Int) - 0 + 53 = _
        omega
      rw [e, FP.Core.below_iff]
      omega
    · have e : (-52 - (j : Int) - 0 + ((FP.Core.b64.p : Int) - 1)) = ((0 : Nat) : Int) - (j : Nat) := by
        show -52 - (j : Int) - 0 + (53 - 1) = _
        omega
      rw [e, FP.Core.below_iff]
      omega
  unfold FP.Core.roundRatio
  rw [if_neg (by omega), hq]
  unfold FP.Core.roundAt FP.Core.unitsNum FP.Core.unitsDen
  rw [show (0 - (-52 - (j : Int))).toNat = j + 52 by omega, show (-52 - (j : Int) - 0).toNat = 0 by omega, Nat.pow_zero, Nat.mul_one, Nat.pow_add, ← Nat.mul_assoc]
  have n1 : 2 ^ 52 ≤ FP.Core.nearest (a * 2 ^ j * 2 ^ 52) b := FP.Core.nearest_ge hB (by rw [Nat.mul_comm]; exact Nat.mul_le_mul_right _ j2)
  have n2 : FP.Core.nearest (a * 2 ^ j * 2 ^ 52) b ≤ 2 ^ 53 := FP.Core.nearest_le hB (by
    rw [show (2 : Nat) ^ 53 * b = 2 * b * 2 ^ 52 by omega]
    exact Nat.mul_le_mul_right _ (Nat.le_of_lt j3))
  by_cases j0 : j = 0
  · subst j0
    have hab' : a = b := by
      rw [Nat.pow_zero, Nat.mul_one] at j2
      omega
    have e : FP.Core.nearest (a * 2 ^ 0 * 2 ^ 52) b = 2 ^ 52 := by
      rw [Nat.pow_zero, Nat.mul_one, hab', Nat.mul_comm]
      exact FP.Core.nearest_exact _ hB
    rw [e]
    exact ⟨2 ^ 52, 0, by omega, rfl, by omega, by omega⟩
  · generalize FP.Core.nearest (a * 2 ^ j * 2 ^ 52) b = n at n1 n2
    unfold FP.Core.settle FP.Core.bound
    have q1 : -52 - (j : Int) ≤ FP.Core.b64.qmax := by
      show _ ≤ (971 : Int)
      omega
    have q2 : -52 - (j : Int) + 1 ≤ FP.Core.b64.qmax := by
      show _ ≤ (971 : Int)
      omega
    rw [if_pos q1, if_pos q2]
    by_cases c : n < 2 ^ 53
    · rw [if_pos (show n < 2 ^ FP.Core.b64.p from c)]
      exact ⟨n, j, j1, rfl, n1, c⟩
    · rw [if_neg (show ¬ n < 2 ^ FP.Core.b64.p from c)]
      refine ⟨2 ^ 52, j - 1, by omega, ?_, by omega, by omega⟩
      show FP.Core.Datum.fin false (2 ^ 52) (-52 - (j : Int) + 1) = _
      rw [show -52 - (j : Int) + 1 = -52 - ((j - 1 : Nat) : Int) by omega]
theorem f_div {a b : Nat} (ha : 0 < a) (hab : a ≤ b) (hb : b < 2 ^ 29) : ∃ c k : Nat, k ≤ 29 ∧ f_V (FP.ddiv (FP.i2d (Int32.ofNat a)) (FP.i2d (Int32.ofNat b))) c k := by
  obtain ⟨ca, qa, a1, a2⟩ := f_i2d (a := a) (by omega)
  obtain ⟨cb, qb, b1, b2⟩ := f_i2d (a := b) (by omega)
  have pa := Nat.two_pow_pos (0 - qa).toNat
  have pb := Nat.two_pow_pos (0 - qb).toNat
  have hcb : 0 < cb := by
    rcases Nat.eq_zero_or_pos cb with e | e
    · rw [e, Nat.zero_mul] at b2
      have : 0 < b * 2 ^ (0 - qb).toNat := Nat.mul_pos (by omega) pb
      omega
    · exact e
  obtain ⟨c, k, g1, g2, g3, g4⟩ := f_rr ha hab hb
  refine ⟨c, k, g1, ?_, g3, g4⟩
  show FP.Core.val64 (FP.Core.ddiv _ _) = _
  rw [FP.Core.val64_ddiv, a1, b1]
  show (if cb = 0 then _ else FP.Core.roundRatio FP.Core.b64 false ca cb (qa - qb)) = _
  rw [if_neg (by omega), ← g2]
  refine FP.Core.roundRatio_congr hcb (by omega) ?_
  -- ca * b * 2^u = a * cb * 2^v
  have key : ca * b * 2 ^ ((qa - 0).toNat + (0 - qb).toNat) = a * cb * 2 ^ ((0 - qa).toNat + (qb - 0).toNat) := by
    rw [Nat.pow_add, Nat.pow_add]
    calc ca * b * (2 ^ (qa - 0).toNat * 2 ^ (0 - qb).toNat) = (ca * 2 ^ (qa - 0).toNat) * (b * 2 ^ (0 - qb).toNat) := by ac_rfl
      _ = (a * 2 ^ (0 - qa).toNat) * (cb * 2 ^ (qb - 0).toNat) := by rw [a2, b2]
      _ = a * cb * (2 ^ (0 - qa).toNat * 2 ^ (qb - 0).toNat) := by ac_rfl
  obtain ⟨t, t1, t2⟩ : ∃ t, (qa - 0).toNat + (0 - qb).toNat = (qa - qb - 0).toNat + t ∧ (0 - qa).toNat + (qb - 0).toNat = (0 - (qa - qb)).toNat + t := ⟨(qa - 0).toNat + (0 - qb).toNat - (qa - qb - 0).toNat, by omega, by omega⟩
  rw [t1, t2, Nat.pow_add, Nat.pow_add, ← Nat.mul_assoc, ← Nat.mul_assoc] at key
  exact Nat.eq_of_mul_eq_mul_right (Nat.two_pow_pos t) key
theorem f_div0 {b : Nat} (hb0 : 0 < b) (hb : b < 2 ^ 29) : FP.ddiv (FP.i2d (Int32.ofNat 0)) (FP.i2d (Int32.ofNat b)) = FP.dconst0 := by
  obtain ⟨cb, qb, b1, b2⟩ := f_i2d (a := b) (by omega)
  have pb := Nat.two_pow_pos (0 - qb).toNat
  have hcb : 0 < cb := by
    rcases Nat.eq_zero_or_pos cb with e | e
    · rw [e, Nat.zero_mul] at b2
      have : 0 < b * 2 ^ (0 - qb).toNat := Nat.mul_pos hb0 pb
      omega
    · exact e
  have h0 : FP.Core.val64 (FP.i2d (Int32.ofNat 0)) = .fin false 0 FP.Core.b64.qmin := by decide +kernel
  have e : FP.Core.val64 (FP.Core.ddiv (FP.i2d (Int32.ofNat 0)) (FP.i2d (Int32.ofNat b))) = .fin false 0 FP.Core.b64.qmin := by
    rw [FP.Core.val64_ddiv, h0, b1]
    show (if cb = 0 then _ else FP.Core.roundRatio FP.Core.b64 false 0 cb _) = _
    rw [if_neg (by omega)]
    rfl
  exact FP.Core.val64_inj (by rw [show FP.ddiv = FP.Core.ddiv from rfl, e]; intro q; cases q) (by rw [show FP.ddiv = FP.Core.ddiv from rfl, e]; exact FP.Core.val64_dconst0.symm)
theorem f_F2 : q_F2 := fun N hN a b hab hb hb0 => by
  by_cases c : a = 0
  · subst c
    rw [f_div0 (by omega) (by omega)]
    refine ⟨Int64.ofNat 0, fun E => ?_, fun E => ?_⟩
    · unfold m36
      rw [if_neg (show ¬ 0 < Op.cmpValue (FP.dcmp FP.dconst0 FP.dconst0) .g by decide +kernel)]
    · unfold m147
      rw [if_pos (show Op.cmpValue (FP.dcmp FP.dconst0 FP.dconst0) .l = 0 by decide +kernel)]
  · obtain ⟨c, k, h1, h2⟩ := f_div (a := a) (b := b) (by omega) hab (by omega)
    exact f_bits hN h2 (by omega)
end UA
