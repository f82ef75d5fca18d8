/-! deals: the class looks -/
section OG
variable {D : am_D} {N n p : Nat} {T V : Nat → Nat}
def q_lkm (D : am_D) (h : Nat) : Nat := (D.1 107 (17 + h)).toNatClampNeg
def q_can (m t : Nat) : Nat := if m / 2 ^ q_lo t % 2 = 0 ∧ m / 2 ^ q_hi t % 2 = 0 then 1 else 0
theorem q_can_le (m t : Nat) : q_can m t ≤ 1 := by unfold q_can; split <;> omega
theorem q_can_c : ∀ m, m < 128 → ∀ t, t < 28 → (Int32.ofNat m &&& (((1 : Int32) <<< (Int32.ofNat (q_lo t) &&& 31)) ||| ((1 : Int32) <<< (Int32.ofNat (q_hi t) &&& 31))) = 0 ↔ q_can m t = 1) := by decide +kernel
theorem q_lkm_ok (hK : q_K D n p T V) {h : Nat} (hh : h < 4) : D.1 107 (17 + h) = Int32.ofNat (q_lkm D h) ∧ q_lkm D h < 128 := by
  obtain ⟨w, h1, h2⟩ := k_lw hK h hh
  unfold q_lkm
  rw [h2, q_tn (by omega)]
  exact ⟨rfl, h1⟩
/-- the mask of a tile for one who looks into the hand x -/
def q_ka (D : am_D) (x t : Nat) : Nat := q_can (q_lkm D ((x + 1) % 4)) t + 2 * q_can (q_lkm D ((x + 2) % 4)) t + 4 * q_can (q_lkm D ((x + 3) % 4)) t
theorem q_ka_lt (D : am_D) (x t : Nat) : q_ka D x t < 8 := by
  have h1 := q_can_le (q_lkm D ((x + 1) % 4)) t
  have h2 := q_can_le (q_lkm D ((x + 2) % 4)) t
  have h3 := q_can_le (q_lkm D ((x + 3) % 4)) t
  unfold q_ka
  omega
def q_sc (f : Nat → Int32) (x t : Nat) : Nat := if (f t).toNatClampNeg < 4 ∧ (f t).toNatClampNeg ≠ x then 1 else 0
def q_ls (f : Nat → Int32) (x : Nat) : Nat → List Nat
  | 0 => []
  | t + 1 => if q_sc f x t = 1 then t :: q_ls f x t else q_ls f x t
theorem q_ls_m {f : Nat → Int32} {x : Nat} : ∀ (t s : Nat), s ∈ q_ls f x t ↔ s < t ∧ q_sc f x s = 1
  | 0, s => ⟨fun h => (by cases h), fun h => (by omega)⟩
  | t + 1, s => by
    have ih := q_ls_m (f := f) (x := x) t s
    show s ∈ (if q_sc f x t = 1 then t :: q_ls f x t else q_ls f x t) ↔ _
    by_cases c : q_sc f x t = 1
    · rw [if_pos c, List.mem_cons, ih]
      constructor
      · rintro (rfl | h)
        · exact ⟨by omega, c⟩
        · exact ⟨by omega, h.2⟩
      · intro h
        by_cases d : s = t
        · exact Or.inl d
        · exact Or.inr ⟨by omega, h.2⟩
    · rw [if_neg c, ih]
      constructor
      · intro h
        exact ⟨by omega, h.2⟩
      · intro h
        have : s ≠ t := fun q => c (q ▸ h.2)
        exact ⟨by omega, h.2⟩
theorem q_ls_nd {f : Nat → Int32} {x : Nat} : ∀ (t : Nat), (q_ls f x t).Nodup
  | 0 => List.nodup_nil
  | t + 1 => by
    show (if q_sc f x t = 1 then t :: q_ls f x t else q_ls f x t).Nodup
    by_cases c : q_sc f x t = 1
    · rw [if_pos c]
      exact List.nodup_cons.mpr ⟨fun h => by have := (q_ls_m t t).mp h; omega, q_ls_nd t⟩
    · rw [if_neg c]; exact q_ls_nd t
theorem q_ls_len {f : Nat → Int32} {x : Nat} : ∀ (t : Nat), (q_ls f x t).length = q_S (fun s => q_sc f x s) 0 t
  | 0 => rfl
  | t + 1 => by
    rw [q_S_last, Nat.zero_add]
    show (if q_sc f x t = 1 then t :: q_ls f x t else q_ls f x t).length = _
    have hle : q_sc f x t ≤ 1 := by unfold q_sc; split <;> omega
    by_cases c : q_sc f x t = 1
    · rw [if_pos c, List.length_cons, q_ls_len t, c]
    · rw [if_neg c, q_ls_len t, show q_sc f x t = 0 by omega]
      rfl
theorem q_ls_cg {f g : Nat → Int32} {x : Nat} : ∀ (t : Nat), (∀ s, s < t → f s = g s) → q_ls f x t = q_ls g x t
  | 0, _ => rfl
  | t + 1, h => by
    have e : q_sc f x t = q_sc g x t := by unfold q_sc; rw [h t (by omega)]
    show (if q_sc f x t = 1 then t :: q_ls f x t else q_ls f x t) = (if q_sc g x t = 1 then t :: q_ls g x t else q_ls g x t)
    rw [e, q_ls_cg t (fun s hs => h s (by omega))]
theorem q_sc_w {f : Nat → Int32} {x t w : Nat} (hw : w < 6) (h : f t = Int32.ofNat w) : q_sc f x t = if w < 4 ∧ w ≠ x then 1 else 0 := by
  unfold q_sc
  rw [h, q_tn (by omega)]
/-- as many as the three hands have -/
theorem q_ls_28 {f : Nat → Int32} {x : Nat} (hx : x < 4) (hf : ∀ t, t < 28 → ∃ w, w < 6 ∧ f t = Int32.ofNat w) : (q_ls f x 28).length = q_cnt f (Int32.ofNat ((x + 1) % 4)) + q_cnt f (Int32.ofNat ((x + 2) % 4)) + q_cnt f (Int32.ofNat ((x + 3) % 4)) := by
  rw [q_ls_len, q_cnt_def, q_cnt_def, q_cnt_def, ← q_S_add, ← q_S_add]
  refine q_S_congr 28 0 (fun t _ ht => ?_)
  obtain ⟨w, hw, e⟩ := hf t (by omega)
  rw [q_sc_w hw e, e]
  simp (disch := omega) only [q_eq]
  obtain rfl | rfl | rfl | rfl : x = 0 ∨ x = 1 ∨ x = 2 ∨ x = 3 := by omega
  all_goals (
    obtain rfl | rfl | rfl | rfl | rfl | rfl : w = 0 ∨ w = 1 ∨ w = 2 ∨ w = 3 ∨ w = 4 ∨ w = 5 := by omega
    all_goals rfl)
theorem q_mk3 : ∀ u0, u0 < 2 → ∀ u1, u1 < 2 → ∀ u2, u2 < 2 → ((Int32.ofNat 0 ||| (if u0 = 1 then ((1 : Int32) <<< (Int32.ofNat 0 &&& 31)) else 0)) ||| (if u1 = 1 then ((1 : Int32) <<< (Int32.ofNat 1 &&& 31)) else 0)) ||| (if u2 = 1 then ((1 : Int32) <<< (Int32.ofNat 2 &&& 31)) else 0) = Int32.ofNat (u0 + 2 * u1 + 4 * u2) := by decide +kernel
theorem q191_s (hK : q_K D n p T V) {E : am_D} {x t : Nat} (hx : x < 4) (ht : t < 28) (h5 : E.1 93 5 = Int32.ofNat x) (h9 : E.1 9 = D.1 9) {j : Nat} (hj : j < 3) (k : Nat) (acc : Int32) : m191_L20 N E (((1 : Int32) <<< (Int32.ofNat (q_lo t) &&& 31)) ||| ((1 : Int32) <<< (Int32.ofNat (q_hi t) &&& 31))) (k + 1) acc (Int32.ofNat j) = m191_L20 N E (((1 : Int32) <<< (Int32.ofNat (q_lo t) &&& 31)) ||| ((1 : Int32) <<< (Int32.ofNat (q_hi t) &&& 31))) k (acc ||| (if q_can (q_lkm D ((x + 1 + j) % 4)) t = 1 then ((1 : Int32) <<< (Int32.ofNat j &&& 31)) else 0)) (Int32.ofNat (j + 1)) := by
  have hr : am_rat (E.1 9) 4 ((((E.1 93 5) + (1 : Int32)) + Int32.ofNat j) - (((E.1 93 5) + (1 : Int32)) + Int32.ofNat j) / (4 : Int32) * (4 : Int32)) = Int32.ofNat (q_lkm D ((x + 1 + j) % 4)) := by
    rw [h5, show Int32.ofNat x + 1 = Int32.ofNat (x + 1) from q_add x 1, q_add, show (4 : Int32) = Int32.ofNat 4 from rfl, q_mod (by omega) (by omega), q_rt4 _ (by omega), h9, k_la hK _ (by omega)]
    exact (q_lkm_ok hK (by omega)).1
  have hc := q_can_c _ (q_lkm_ok hK (show (x + 1 + j) % 4 < 4 by omega)).2 t ht
  rw [m191_L20, if_neg (show ¬ (3 : Int32) ≤ Int32.ofNat j from q_nle (a := j) (b := 3) (by omega) hj)]
  simp only [am_lt]
  rw [hr, show Int32.ofNat j + 1 = Int32.ofNat (j + 1) from q_add j 1]
  by_cases c : q_can (q_lkm D ((x + 1 + j) % 4)) t = 1
  · rw [if_pos (hc.mpr c), if_pos c]
  · rw [if_neg (fun q => c (hc.mp q)), if_neg c]
/-- the class's mask of a tile -/
theorem q191 (hN : 2000 ≤ N) (hK : q_K D n p T V) {E : am_D} {x t : Nat} (hx : x < 4) (ht : t < 28) (h5 : E.1 93 5 = Int32.ofNat x) (h9 : E.1 9 = D.1 9) : m191 N E (Int32.ofNat t) = some (Int32.ofNat (q_ka D x t)) := by
  obtain ⟨m, hm⟩ : ∃ m, N = m + 4 := ⟨N - 4, by omega⟩
  have s0 := q191_s (N := N) hK hx ht h5 h9 (j := 0) (by omega) (m + 3) (Int32.ofNat 0)
  have s1 := fun acc => q191_s (N := N) hK hx ht h5 h9 (j := 1) (by omega) (m + 2) acc
  have s2 := fun acc => q191_s (N := N) hK hx ht h5 h9 (j := 2) (by omega) (m + 1) acc
  have s3 : ∀ acc, m191_L20 N E (((1 : Int32) <<< (Int32.ofNat (q_lo t) &&& 31)) ||| ((1 : Int32) <<< (Int32.ofNat (q_hi t) &&& 31))) (m + 1) acc (Int32.ofNat 3) = some acc := fun acc => by
    rw [m191_L20, if_pos (show (3 : Int32) ≤ Int32.ofNat 3 by decide)]
  have e : m191_L20 N E (((1 : Int32) <<< (Int32.ofNat (q_lo t) &&& 31)) ||| ((1 : Int32) <<< (Int32.ofNat (q_hi t) &&& 31))) N (Int32.ofNat 0) (Int32.ofNat 0) = some (Int32.ofNat (q_ka D x t)) := by
    have e1 := s0.trans ((s1 _).trans ((s2 _).trans (s3 _)))
    have e2 : m191_L20 N E (((1 : Int32) <<< (Int32.ofNat (q_lo t) &&& 31)) ||| ((1 : Int32) <<< (Int32.ofNat (q_hi t) &&& 31))) N (Int32.ofNat 0) (Int32.ofNat 0) = m191_L20 N E (((1 : Int32) <<< (Int32.ofNat (q_lo t) &&& 31)) ||| ((1 : Int32) <<< (Int32.ofNat (q_hi t) &&& 31))) (m + 3 + 1) (Int32.ofNat 0) (Int32.ofNat 0) := congrArg (fun z => m191_L20 N E (((1 : Int32) <<< (Int32.ofNat (q_lo t) &&& 31)) ||| ((1 : Int32) <<< (Int32.ofNat (q_hi t) &&& 31))) z (Int32.ofNat 0) (Int32.ofNat 0)) hm
    rw [e2, e1]
    have l0 := q_can_le (q_lkm D ((x + 1 + 0) % 4)) t
    have l1 := q_can_le (q_lkm D ((x + 1 + 1) % 4)) t
    have l2 := q_can_le (q_lkm D ((x + 1 + 2) % 4)) t
    rw [q_mk3 _ (by omega) _ (by omega) _ (by omega)]
    rfl
  unfold m191
  rw [q249 ht, q250 ht]
  simp only [am_lt]
  have e' : m191_L20 N E (((1 : Int32) <<< (Int32.ofNat (q_lo t) &&& 31)) ||| ((1 : Int32) <<< (Int32.ofNat (q_hi t) &&& 31))) N 0 0 = _ := e
  rw [e', Option.bind_some]
end OG
