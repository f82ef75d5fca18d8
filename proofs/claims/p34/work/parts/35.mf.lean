/-! deal -/
section MF
variable {D : am_D}
/-- the tile of the box with a rank -/
def q_rk (f : Nat → Int32) : Nat → Nat → Nat → Nat
  | 0, i, _ => i
  | k + 1, i, r => if f i = Int32.ofNat 5 then (if r = 0 then i else q_rk f k (i + 1) (r - 1)) else q_rk f k (i + 1) r
theorem q_rk_ok {f : Nat → Int32} : ∀ (k i r : Nat), r < q_S (fun t => if f t = Int32.ofNat 5 then 1 else 0) i k → i ≤ q_rk f k i r ∧ q_rk f k i r < i + k ∧ f (q_rk f k i r) = Int32.ofNat 5
  | 0, i, r, h => by simp [q_S] at h
  | k + 1, i, r, h => by
    simp only [q_S] at h
    by_cases c : f i = Int32.ofNat 5
    · rw [if_pos c] at h
      by_cases hr : r = 0
      · simp only [q_rk, c, hr, if_true]
        exact ⟨Nat.le_refl _, by omega, trivial⟩
      · have := q_rk_ok (f := f) k (i + 1) (r - 1) (by omega)
        simp only [q_rk, c, hr, if_true, if_false]
        exact ⟨by omega, by omega, this.2.2⟩
    · rw [if_neg c] at h
      have := q_rk_ok (f := f) k (i + 1) r (by omega)
      simp only [q_rk, c, if_false]
      exact ⟨by omega, by omega, this.2.2⟩
theorem q_rk_congr {f g : Nat → Int32} : ∀ (k i r : Nat), (∀ t, i ≤ t → t < i + k → f t = g t) → q_rk f k i r = q_rk g k i r
  | 0, _, _, _ => rfl
  | k + 1, i, r, h => by
    simp only [q_rk]
    rw [h i (Nat.le_refl _) (by omega), q_rk_congr k (i + 1) (r - 1) (fun t h1 h2 => h t (by omega) (by omega)), q_rk_congr k (i + 1) r (fun t h1 h2 => h t (by omega) (by omega))]
theorem q79_L {N : Nat} : ∀ (k i r m : Nat), i + k = 28 → k < m → r < q_S (fun t => if q_P D t = Int32.ofNat 5 then 1 else 0) i k → m79_L4 N D m (Int32.ofNat r) (Int32.ofNat i) = some (1, Int32.ofNat (q_rk (q_P D) k i r))
  | 0, i, r, m, hi, hm, h => by simp [q_S] at h
  | k + 1, i, r, m + 1, hi, hm, h => by
    have h1 : ¬ 28 ≤ i := by omega
    have h2 : i < 28 := by omega
    simp only [q_S] at h
    have hle : q_S (fun t => if q_P D t = Int32.ofNat 5 then 1 else 0) (i + 1) k ≤ 28 := by
      have := q_S_le (f := fun t => if q_P D t = Int32.ofNat 5 then 1 else 0) (g := fun _ => 1) k (i + 1) (fun t _ _ => by split <;> omega)
      rw [q_S_const] at this
      omega
    rw [m79_L4, q_l5, q56 D h2]
    by_cases c : q_P D i = Int32.ofNat 5
    · rw [if_pos c] at h
      by_cases hr : r = 0
      · subst hr
        simp (disch := omega) only [q_l0, q_l1, q_l2, q_l3, q_l4, q_l5, q_l6, q_l7, q_l8, q_l9, q_l10, q_l13, q_l15, q_l17, q_l18, q_l19, q_l21, q_l22, q_l23, q_l25, q_l27, q_l28, q_l31, q_l33, q_l41, q_l43, q_l44, q_l45, q_l48, q_l49, q_l51, q_l52, q_l53, q_l54, q_l56, q_l57, q_l58, q_l59, q_l60, q_l62, q_l63, q_l64, q_l73, q_l81, q_l99, q_l108, q_l109, q_l112, q_l116, q_l126, q_l127, q_l128, q_l137, q_l165, q_l484, q_l1023, q_l1320, q_l4095, q_l4096, q_lm, am_lt, q_le, q_lt, q_tn, q_add, q_ite, Nat.zero_le, and_self, true_and, and_true, if_true, if_false, ite_self, h1, c, Option.bind_some, q_eq, Nat.one_ne_zero, q_rk]
      · simp (disch := omega) only [q_l0, q_l1, q_l2, q_l3, q_l4, q_l5, q_l6, q_l7, q_l8, q_l9, q_l10, q_l13, q_l15, q_l17, q_l18, q_l19, q_l21, q_l22, q_l23, q_l25, q_l27, q_l28, q_l31, q_l33, q_l41, q_l43, q_l44, q_l45, q_l48, q_l49, q_l51, q_l52, q_l53, q_l54, q_l56, q_l57, q_l58, q_l59, q_l60, q_l62, q_l63, q_l64, q_l73, q_l81, q_l99, q_l108, q_l109, q_l112, q_l116, q_l126, q_l127, q_l128, q_l137, q_l165, q_l484, q_l1023, q_l1320, q_l4095, q_l4096, q_lm, am_lt, q_le, q_lt, q_tn, q_add, q_ite, Nat.zero_le, and_self, true_and, and_true, if_true, if_false, ite_self, h1, c, hr, Option.bind_some, q_eq, Nat.one_ne_zero, q_dec', q_rk]
        exact q79_L k (i + 1) (r - 1) m (by omega) (by omega) (by omega)
    · rw [if_neg c] at h
      simp (disch := omega) only [q_l0, q_l1, q_l2, q_l3, q_l4, q_l5, q_l6, q_l7, q_l8, q_l9, q_l10, q_l13, q_l15, q_l17, q_l18, q_l19, q_l21, q_l22, q_l23, q_l25, q_l27, q_l28, q_l31, q_l33, q_l41, q_l43, q_l44, q_l45, q_l48, q_l49, q_l51, q_l52, q_l53, q_l54, q_l56, q_l57, q_l58, q_l59, q_l60, q_l62, q_l63, q_l64, q_l73, q_l81, q_l99, q_l108, q_l109, q_l112, q_l116, q_l126, q_l127, q_l128, q_l137, q_l165, q_l484, q_l1023, q_l1320, q_l4095, q_l4096, q_lm, am_lt, q_le, q_lt, q_tn, q_add, q_ite, Nat.zero_le, and_self, true_and, and_true, if_true, if_false, ite_self, h1, c, Option.bind_some, q_eq, q_rk]
      exact q79_L k (i + 1) r m (by omega) (by omega) (by omega)
  | _, _, _, 0, _, hm, _ => by omega
theorem q79 {N : Nat} (hN : 2000 ≤ N) {r : Nat} (h : r < q_cnt (q_P D) (Int32.ofNat 5)) : m79 N D (Int32.ofNat r) = some (Int32.ofNat (q_rk (q_P D) 28 0 r)) := by
  unfold m79
  rw [q_cnt_def] at h
  rw [q_l0, q79_L 28 0 r N (by omega) (by omega) h, Option.bind_some]
  rfl
theorem q215_L {N : Nat} : ∀ (k i r a m : Nat), i + k = 28 → k < m → a ≤ i → r < q_S (fun t => if D.1 7 t = Int32.ofNat 5 then 1 else 0) i k → m215_L4 N D (Int32.ofNat (a + r)) m (Int32.ofNat a) (Int32.ofNat i) = some (1, Int32.ofNat (q_rk (D.1 7) k i r))
  | 0, i, r, a, m, hi, hm, ha, h => by simp [q_S] at h
  | k + 1, i, r, a, m + 1, hi, hm, ha, h => by
    have h1 : ¬ 28 ≤ i := by omega
    have h2 : i < 28 := by omega
    simp only [q_S] at h
    have hle : q_S (fun t => if D.1 7 t = Int32.ofNat 5 then 1 else 0) (i + 1) k ≤ 28 := by
      have := q_S_le (f := fun t => if D.1 7 t = Int32.ofNat 5 then 1 else 0) (g := fun _ => 1) k (i + 1) (fun t _ _ => by split <;> omega)
      rw [q_S_const] at this
      omega
    have hr28 : r ≤ 29 := by
      have : (if D.1 7 i = Int32.ofNat 5 then 1 else 0) ≤ 1 := by split <;> omega
      omega
    rw [m215_L4]
    by_cases c : D.1 7 i = Int32.ofNat 5
    · rw [if_pos c] at h
      by_cases hr : r = 0
      · subst hr
        simp (disch := omega) only [q_l0, q_l1, q_l2, q_l3, q_l4, q_l5, q_l6, q_l7, q_l8, q_l9, q_l10, q_l13, q_l15, q_l17, q_l18, q_l19, q_l21, q_l22, q_l23, q_l25, q_l27, q_l28, q_l31, q_l33, q_l41, q_l43, q_l44, q_l45, q_l48, q_l49, q_l51, q_l52, q_l53, q_l54, q_l56, q_l57, q_l58, q_l59, q_l60, q_l62, q_l63, q_l64, q_l73, q_l81, q_l99, q_l108, q_l109, q_l112, q_l116, q_l126, q_l127, q_l128, q_l137, q_l165, q_l484, q_l1023, q_l1320, q_l4095, q_l4096, q_lm, am_lt, q_le, q_lt, q_tn, q_add, q_ite, Nat.zero_le, and_self, true_and, and_true, if_true, if_false, ite_self, h1, h2, c, Nat.add_zero, q_rk]
      · have hne : ¬ a = a + r := by omega
        simp (disch := omega) only [q_l0, q_l1, q_l2, q_l3, q_l4, q_l5, q_l6, q_l7, q_l8, q_l9, q_l10, q_l13, q_l15, q_l17, q_l18, q_l19, q_l21, q_l22, q_l23, q_l25, q_l27, q_l28, q_l31, q_l33, q_l41, q_l43, q_l44, q_l45, q_l48, q_l49, q_l51, q_l52, q_l53, q_l54, q_l56, q_l57, q_l58, q_l59, q_l60, q_l62, q_l63, q_l64, q_l73, q_l81, q_l99, q_l108, q_l109, q_l112, q_l116, q_l126, q_l127, q_l128, q_l137, q_l165, q_l484, q_l1023, q_l1320, q_l4095, q_l4096, q_lm, am_lt, q_le, q_lt, q_tn, q_add, q_ite, Nat.zero_le, and_self, true_and, and_true, if_true, if_false, ite_self, h1, h2, c, hr, q_eq, hne, q_rk]
        have := q215_L (N := N) k (i + 1) (r - 1) (a + 1) m (by omega) (by omega) (by omega) (by omega)
        rw [show a + 1 + (r - 1) = a + r by omega] at this
        exact this
    · rw [if_neg c] at h
      simp (disch := omega) only [q_l0, q_l1, q_l2, q_l3, q_l4, q_l5, q_l6, q_l7, q_l8, q_l9, q_l10, q_l13, q_l15, q_l17, q_l18, q_l19, q_l21, q_l22, q_l23, q_l25, q_l27, q_l28, q_l31, q_l33, q_l41, q_l43, q_l44, q_l45, q_l48, q_l49, q_l51, q_l52, q_l53, q_l54, q_l56, q_l57, q_l58, q_l59, q_l60, q_l62, q_l63, q_l64, q_l73, q_l81, q_l99, q_l108, q_l109, q_l112, q_l116, q_l126, q_l127, q_l128, q_l137, q_l165, q_l484, q_l1023, q_l1320, q_l4095, q_l4096, q_lm, am_lt, q_le, q_lt, q_tn, q_add, q_ite, Nat.zero_le, and_self, true_and, and_true, if_true, if_false, ite_self, h1, h2, c, q_rk]
      exact q215_L k (i + 1) r a m (by omega) (by omega) (by omega) (by omega)
  | _, _, _, _, 0, _, hm, _, _ => by omega
theorem q215 {N : Nat} (hN : 2000 ≤ N) {r : Nat} (h : r < q_cnt (D.1 7) (Int32.ofNat 5)) : m215 N D (Int32.ofNat r) = some (Int32.ofNat (q_rk (D.1 7) 28 0 r)) := by
  rw [q_cnt_def] at h
  have := q215_L (D := D) (N := N) 28 0 r 0 N (by omega) (by omega) (by omega) h
  rw [Nat.zero_add] at this
  unfold m215
  rw [q_l0, this, Option.bind_some]
  rfl
/-- what a deal keeps -/
def q_dp (f : Nat → Int32) : Prop := (∀ t, t < 28 → ∃ w, w < 6 ∧ w ≠ 4 ∧ f t = Int32.ofNat w) ∧ ∀ h, h < 4 → q_cnt f (Int32.ofNat h) ≤ 7
theorem q_dp_box {f : Nat → Int32} (hf : q_dp f) {h : Nat} (hh : h < 4) (h7 : q_cnt f (Int32.ofNat h) < 7) : 0 < q_cnt f (Int32.ofNat 5) := by
  have e := q_part (f := f) (fun t ht => by
    obtain ⟨w, h1, h2, h3⟩ := hf.1 t ht
    exact ⟨w, h1, h3⟩)
  have e4 : q_cnt f (Int32.ofNat 4) = 0 := q_cnt_0.mpr (fun t ht q => by
    obtain ⟨w, h1, h2, h3⟩ := hf.1 t ht
    rw [h3] at q
    exact h2 (q_ofN (by omega) (by omega) q))
  have ea : q_all (q_cnt f) = q_cnt f (Int32.ofNat 0) + (q_cnt f (Int32.ofNat 1) + (q_cnt f (Int32.ofNat 2) + (q_cnt f (Int32.ofNat 3) + 0))) := rfl
  have b0 := hf.2 0 (by omega)
  have b1 := hf.2 1 (by omega)
  have b2 := hf.2 2 (by omega)
  have b3 := hf.2 3 (by omega)
  obtain rfl | rfl | rfl | rfl : h = 0 ∨ h = 1 ∨ h = 2 ∨ h = 3 := by omega
  all_goals omega
theorem q_dp_up {f g : Nat → Int32} (hf : q_dp f) {h t : Nat} (hh : h < 4) (h7 : q_cnt f (Int32.ofNat h) < 7) (ht : t < 28) (h5 : f t = Int32.ofNat 5) (hg : ∀ j, j < 28 → g j = if j = t then Int32.ofNat h else f j) : q_dp g ∧ q_cnt g (Int32.ofNat h) = q_cnt f (Int32.ofNat h) + 1 := by
  have gt : g t = Int32.ofNat h := by rw [hg t ht, if_pos rfl]
  have gn : ∀ j, j < 28 → j ≠ t → g j = f j := fun j hj hn => by rw [hg j hj, if_neg hn]
  have q : ∀ y, y < 4 → q_cnt g (Int32.ofNat y) = q_cnt f (Int32.ofNat y) + (if h = y then 1 else 0) := fun y hy => by
    have := q_cnt_upd ht gn (Int32.ofNat y)
    rw [h5, gt] at this
    simp (disch := omega) only [q_eq] at this
    rw [if_neg (show ¬ 5 = y by omega)] at this
    omega
  refine ⟨⟨fun j hj => ?_, fun y hy => ?_⟩, by
    have := q h hh
    rw [if_pos rfl] at this
    exact this⟩
  · by_cases c : j = t
    · subst c
      exact ⟨h, by omega, by omega, gt⟩
    · rw [gn j hj c]; exact hf.1 j hj
  · have := hf.2 y hy
    have := q y hy
    by_cases c : h = y
    · subst c; rw [if_pos rfl] at this; omega
    · rw [if_neg c] at this; omega
/-- the next number; the tile that comes -/
def q_nx (x : Nat) : Nat := (73 * x + 41) % 4096
noncomputable def q_tk (f : Nat → Int32) (x : Nat) : Nat := q_rk f 28 0 (x % q_cnt f (Int32.ofNat 5))
theorem q_nx_lt (x : Nat) : q_nx x < 4096 := Nat.mod_lt _ (by omega)
theorem q_xx {x : Nat} (hx : x < 4096) : (((73 : Int32) * Int32.ofNat x) + (41 : Int32)) - (((73 : Int32) * Int32.ofNat x) + (41 : Int32)) / (4096 : Int32) * (4096 : Int32) = Int32.ofNat (q_nx x) := by
  rw [q_l73, q_l41, q_l4096, q_mul, q_add, q_mod (by omega) (by omega)]
  rfl
theorem q_tk_ok {f : Nat → Int32} {x : Nat} (hb : 0 < q_cnt f (Int32.ofNat 5)) : q_tk f x < 28 ∧ f (q_tk f x) = Int32.ofNat 5 := by
  have hr := q_rk_ok (f := f) 28 0 (x % q_cnt f (Int32.ofNat 5)) (by rw [← q_cnt_def]; exact Nat.mod_lt _ hb)
  exact ⟨by have := hr.2.1; unfold q_tk; omega, hr.2.2⟩
/-- one tile after the other to a hand: places, number, how many -/
noncomputable def q_d1 (h : Nat) : Nat → (Nat → Int32) → Nat → Nat → (Nat → Int32) × Nat × Nat
  | 0, f, x, n => (f, x, n)
  | k + 1, f, x, n => q_d1 h k (upd f (q_tk f (q_nx x)) (Int32.ofNat h)) (q_nx x) (n + 1)
/-- to all hands -/
noncomputable def q_d4 : Nat → Nat → (Nat → Int32) → Nat → Nat → (Nat → Int32) × Nat × Nat
  | 0, _, f, x, n => (f, x, n)
  | k + 1, h, f, x, n => q_d4 k (h + 1) (q_d1 h (7 - q_cnt f (Int32.ofNat h)) f x n).1 (q_d1 h (7 - q_cnt f (Int32.ofNat h)) f x n).2.1 (q_d1 h (7 - q_cnt f (Int32.ofNat h)) f x n).2.2
theorem q_d1_st {f : Nat → Int32} {h x : Nat} (hh : h < 4) (hs : q_dp f) (h7 : q_cnt f (Int32.ofNat h) < 7) : 0 < q_cnt f (Int32.ofNat 5) ∧ q_tk f x < 28 ∧ q_dp (upd f (q_tk f x) (Int32.ofNat h)) ∧ q_cnt (upd f (q_tk f x) (Int32.ofNat h)) (Int32.ofNat h) = q_cnt f (Int32.ofNat h) + 1 := by
  have hb := q_dp_box hs hh h7
  obtain ⟨t1, t2⟩ := q_tk_ok (f := f) (x := x) hb
  obtain ⟨u1, u2⟩ := q_dp_up (g := upd f (q_tk f x) (Int32.ofNat h)) hs hh h7 t1 t2 (fun j hj => rfl)
  exact ⟨hb, t1, u1, u2⟩
theorem q_d1_ok {h : Nat} (hh : h < 4) : ∀ (k : Nat) (f : Nat → Int32) (x n : Nat), q_dp f → x < 4096 → q_cnt f (Int32.ofNat h) + k = 7 → q_dp (q_d1 h k f x n).1 ∧ (q_d1 h k f x n).2.1 < 4096 ∧ (q_d1 h k f x n).2.2 = n + k
  | 0, f, x, n, hs, hx, hk => ⟨hs, hx, rfl⟩
  | k + 1, f, x, n, hs, hx, hk => by
    obtain ⟨hb, t1, u1, u2⟩ := q_d1_st (x := q_nx x) hh hs (by omega)
    obtain ⟨i1, i2, i3⟩ := q_d1_ok hh k (upd f (q_tk f (q_nx x)) (Int32.ofNat h)) (q_nx x) (n + 1) u1 (q_nx_lt x) (by omega)
    rw [q_d1]
    exact ⟨i1, i2, by omega⟩
/-- the class deals to a hand -/
theorem q214_1 {N : Nat} (hN : 2000 ≤ N) {h : Nat} (hh : h < 4) : ∀ (k : Nat) (f : Nat → Int32) (x n : Nat) (E : am_D) (m : Nat), q_dp f → x < 4096 → n + k ≤ 1000 → q_cnt f (Int32.ofNat h) + k = 7 → k < m → E.1 7 = f → ∃ E', m214_L21 N (Int32.ofNat h) m E (Int32.ofNat x) (Int32.ofNat n) (Int32.ofNat (7 - k)) = some (Int32.ofNat (q_d1 h k f x n).2.1, Int32.ofNat (q_d1 h k f x n).2.2, E') ∧ E'.1 7 = (q_d1 h k f x n).1 ∧ (∀ a, a ≠ 7 → E'.1 a = E.1 a) ∧ E'.2 = E.2
  | 0, f, x, n, E, m + 1, hs, hx, hn, hk, hm, hE => by
    rw [m214_L21, if_pos (show (7 : Int32) ≤ Int32.ofNat (7 - 0) by decide)]
    exact ⟨E, rfl, hE, fun _ _ => rfl, rfl⟩
  | k + 1, f, x, n, E, m + 1, hs, hx, hn, hk, hm, hE => by
    obtain ⟨hb, t1, u1, u2⟩ := q_d1_st (x := q_nx x) hh hs (by omega)
    have hle := q_cnt_le f (Int32.ofNat 5)
    have hxl := q_nx_lt x
    have h7 : ¬ (7 : Int32) ≤ Int32.ofNat (7 - (k + 1)) := q_nle (b := 7) (by omega) (by omega)
    have e204 : m204 N E 5 = some (Int32.ofNat (q_cnt f (Int32.ofNat 5))) := by rw [q204 hN, hE]; rfl
    have ec1 : ¬ Int32.ofNat (q_cnt f (Int32.ofNat 5)) ≤ 0 := q_nle (a := 0) (by omega) hb
    have ec2 : ¬ Int32.ofNat (q_cnt f (Int32.ofNat 5)) = 0 := by rw [q_l0, q_eq (by omega) (by omega)]; omega
    have e215 : m215 N E (Int32.ofNat (q_nx x) - Int32.ofNat (q_nx x) / Int32.ofNat (q_cnt f (Int32.ofNat 5)) * Int32.ofNat (q_cnt f (Int32.ofNat 5))) = some (Int32.ofNat (q_tk f (q_nx x))) := by
      rw [q_mod (by omega) (by omega), q215 hN (by rw [hE]; exact Nat.mod_lt _ hb), hE]
      rfl
    have e213 : m213 E (Int32.ofNat h) (Int32.ofNat (q_tk f (q_nx x))) = am_uI E 7 (q_tk f (q_nx x)) (Int32.ofNat h) := by
      unfold m213 am_rput
      simp only [am_lt]
      rw [if_pos (q_in (by omega) (by omega)), q_tn (by omega)]
    obtain ⟨E', i1, i2, i3, i4⟩ := q214_1 hN hh k (upd f (q_tk f (q_nx x)) (Int32.ofNat h)) (q_nx x) (n + 1) (am_uI E 7 (q_tk f (q_nx x)) (Int32.ofNat h)) m u1 hxl (by omega) (by omega) (by omega) (by rw [am_uI_row, hE])
    rw [q_d1]
    refine ⟨E', ?_, i2, fun a ha => by rw [i3 a ha, q_uI_ne _ ha], i4⟩
    rw [m214_L21, if_neg h7, q_xx hx]
    simp only [am_lt, e204, Option.bind_some, if_neg ec1, if_pos ec2, e215, e213]
    rw [q_l1, q_add, q_add, show 7 - (k + 1) + 1 = 7 - k by omega]
    exact i1
  | _, _, _, _, _, 0, _, _, _, _, hm, _ => by omega
theorem q214_L {N : Nat} (hN : 2000 ≤ N) : ∀ (k h : Nat) (f : Nat → Int32) (x n : Nat) (E : am_D) (m : Nat), h + k = 4 → q_dp f → x < 4096 → n + 7 * k ≤ 1000 → k < m → E.1 7 = f → ∃ E', m214_L7 N m E (Int32.ofNat x) (Int32.ofNat n) (Int32.ofNat h) = some (Int32.ofNat (q_d4 k h f x n).2.2, E') ∧ E'.1 7 = (q_d4 k h f x n).1 ∧ (∀ a, a ≠ 7 → E'.1 a = E.1 a) ∧ E'.2 = E.2 ∧ q_dp (q_d4 k h f x n).1
  | 0, h, f, x, n, E, m + 1, hh, hs, hx, hn, hm, hE => by
    obtain rfl : h = 4 := by omega
    rw [m214_L7, if_pos (show (4 : Int32) ≤ Int32.ofNat 4 by decide)]
    exact ⟨E, rfl, hE, fun _ _ => rfl, rfl, hs⟩
  | k + 1, h, f, x, n, E, m + 1, hh, hs, hx, hn, hm, hE => by
    have hh4 : h < 4 := by omega
    have h7 := hs.2 h hh4
    obtain ⟨i1, i2, i3⟩ := q_d1_ok hh4 (7 - q_cnt f (Int32.ofNat h)) f x n hs hx (by omega)
    obtain ⟨E', e1, e2, e3, e4⟩ := q214_1 hN hh4 (7 - q_cnt f (Int32.ofNat h)) f x n E N hs hx (by omega) (by omega) (by omega) hE
    obtain ⟨E2, j1, j2, j3, j4, j5⟩ := q214_L hN k (h + 1) _ _ (q_d1 h (7 - q_cnt f (Int32.ofNat h)) f x n).2.2 E' m (by omega) i1 i2 (by omega) (by omega) e2
    rw [q_d4]
    refine ⟨E2, ?_, j2, fun a ha => (j3 a ha).trans (e3 a ha), j4.trans e4, j5⟩
    rw [show 7 - (7 - q_cnt f (Int32.ofNat h)) = q_cnt f (Int32.ofNat h) by omega] at e1
    rw [m214_L7, if_neg (show ¬ (4 : Int32) ≤ Int32.ofNat h from q_nle (b := 4) (by omega) hh4), q204 hN, hE, Option.bind_some, e1, Option.bind_some]
    simp only [am_lt]
    rw [q_l1, q_add]
    exact j1
  | _, _, _, _, _, _, 0, _, _, _, _, hm, _ => by omega
/-- the model deals to a hand -/
theorem q80_1 {N : Nat} (hN : 2000 ≤ N) {h : Nat} (hh : h < 4) : ∀ (k : Nat) (f : Nat → Int32) (x n : Nat) (E : am_D) (m : Nat), q_dp f → x < 4096 → n + k ≤ 1000 → q_cnt f (Int32.ofNat h) + k = 7 → k < m → (∀ t, t < 28 → q_P E t = f t) → ∃ E', m80_L55 N (Int32.ofNat h) m E (Int32.ofNat x) (Int32.ofNat n) = some (Int32.ofNat (q_d1 h k f x n).2.1, Int32.ofNat (q_d1 h k f x n).2.2, E') ∧ (∀ t, t < 28 → q_P E' t = (q_d1 h k f x n).1 t) ∧ (∀ a, a ≠ 107 → E'.1 a = E.1 a) ∧ (∀ j, j < 25 ∨ 53 ≤ j → E'.1 107 j = E.1 107 j) ∧ E'.2 = E.2
  | 0, f, x, n, E, m + 1, hs, hx, hn, hk, hm, hE => by
    have hc : q_cnt (q_P E) (Int32.ofNat h) = 7 := by rw [q_cnt_congr hE]; exact hk
    rw [m80_L55, q57 hN, hc, Option.bind_some, if_pos (show (7 : Int32) ≤ Int32.ofNat 7 by decide)]
    exact ⟨E, rfl, hE, fun _ _ => rfl, fun _ _ => rfl, rfl⟩
  | k + 1, f, x, n, E, m + 1, hs, hx, hn, hk, hm, hE => by
    obtain ⟨hb, t1, u1, u2⟩ := q_d1_st (x := q_nx x) hh hs (by omega)
    have hle := q_cnt_le f (Int32.ofNat 5)
    have hxl := q_nx_lt x
    have hc : q_cnt (q_P E) (Int32.ofNat h) = q_cnt f (Int32.ofNat h) := q_cnt_congr hE
    have hc5 : q_cnt (q_P E) (Int32.ofNat 5) = q_cnt f (Int32.ofNat 5) := q_cnt_congr hE
    have h7 : ¬ (7 : Int32) ≤ Int32.ofNat (q_cnt f (Int32.ofNat h)) := q_nle (b := 7) (by omega) (by omega)
    have e57 : m57 N E 5 = some (Int32.ofNat (q_cnt f (Int32.ofNat 5))) := by rw [q57 hN, ← hc5]; rfl
    have ec2 : ¬ Int32.ofNat (q_cnt f (Int32.ofNat 5)) = 0 := by rw [q_l0, q_eq (by omega) (by omega)]; omega
    have e79 : m79 N E (Int32.ofNat (q_nx x) - Int32.ofNat (q_nx x) / Int32.ofNat (q_cnt f (Int32.ofNat 5)) * Int32.ofNat (q_cnt f (Int32.ofNat 5))) = some (Int32.ofNat (q_tk f (q_nx x))) := by
      rw [q_mod (by omega) (by omega), q79 hN (by rw [hc5]; exact Nat.mod_lt _ hb)]
      unfold q_tk
      rw [q_rk_congr (g := f) 28 0 _ (fun t _ ht => hE t (by omega))]
    have e25 : 0 ≤ (25 : Int32) + Int32.ofNat (q_tk f (q_nx x)) ∧ (25 : Int32) + Int32.ofNat (q_tk f (q_nx x)) < 1320 := by
      rw [q_l25, q_add]
      exact q_in (n := 1320) (by omega) (by omega)
    have e25' : ((25 : Int32) + Int32.ofNat (q_tk f (q_nx x))).toNatClampNeg = 25 + q_tk f (q_nx x) := by
      rw [q_l25, q_add, q_tn (by omega)]
    obtain ⟨E', i1, i2, i3, i4, i5⟩ := q80_1 hN hh k (upd f (q_tk f (q_nx x)) (Int32.ofNat h)) (q_nx x) (n + 1) (am_uI E 107 (25 + q_tk f (q_nx x)) (Int32.ofNat h)) m u1 hxl (by omega) (by omega) (by omega) (fun t ht => by
      show (if 107 = 107 ∧ 25 + t = 25 + q_tk f (q_nx x) then Int32.ofNat h else E.1 107 (25 + t)) = if t = q_tk f (q_nx x) then Int32.ofNat h else f t
      by_cases c : t = q_tk f (q_nx x)
      · rw [if_pos c, if_pos (by omega)]
      · rw [if_neg c, if_neg (by omega)]; exact hE t ht)
    rw [q_d1]
    refine ⟨E', ?_, i2, fun a ha => by rw [i3 a ha, q_uI_ne _ ha], fun j hj => by rw [i4 j hj, q_uI_at, if_neg (by omega)], i5⟩
    rw [m80_L55, q57 hN, hc, Option.bind_some, if_neg h7, q_xx hx]
    simp only [am_lt, e57, Option.bind_some, if_pos ec2, e79, if_pos e25, e25']
    rw [q_l1, q_add]
    exact i1
  | _, _, _, _, _, 0, _, _, _, _, hm, _ => by omega
theorem q80_L {N : Nat} (hN : 2000 ≤ N) : ∀ (k h : Nat) (f : Nat → Int32) (x n : Nat) (E : am_D) (m : Nat), h + k = 4 → q_dp f → x < 4096 → n + 7 * k ≤ 1000 → k < m → (∀ t, t < 28 → q_P E t = f t) → ∃ E', m80_L49 N m E (Int32.ofNat x) (Int32.ofNat n) (Int32.ofNat h) = some (Int32.ofNat (q_d4 k h f x n).2.2, E') ∧ (∀ t, t < 28 → q_P E' t = (q_d4 k h f x n).1 t) ∧ (∀ a, a ≠ 107 → E'.1 a = E.1 a) ∧ (∀ j, j < 25 ∨ 53 ≤ j → E'.1 107 j = E.1 107 j) ∧ E'.2 = E.2
  | 0, h, f, x, n, E, m + 1, hh, hs, hx, hn, hm, hE => by
    obtain rfl : h = 4 := by omega
    rw [m80_L49, if_pos (show (4 : Int32) ≤ Int32.ofNat 4 by decide)]
    exact ⟨E, rfl, hE, fun _ _ => rfl, fun _ _ => rfl, rfl⟩
  | k + 1, h, f, x, n, E, m + 1, hh, hs, hx, hn, hm, hE => by
    have hh4 : h < 4 := by omega
    have h7 := hs.2 h hh4
    obtain ⟨i1, i2, i3⟩ := q_d1_ok hh4 (7 - q_cnt f (Int32.ofNat h)) f x n hs hx (by omega)
    obtain ⟨E', e1, e2, e3, e4, e5⟩ := q80_1 hN hh4 (7 - q_cnt f (Int32.ofNat h)) f x n E N hs hx (by omega) (by omega) (by omega) hE
    obtain ⟨E2, j1, j2, j3, j4, j5⟩ := q80_L hN k (h + 1) _ _ (q_d1 h (7 - q_cnt f (Int32.ofNat h)) f x n).2.2 E' m (by omega) i1 i2 (by omega) (by omega) e2
    rw [q_d4]
    refine ⟨E2, ?_, j2, fun a ha => (j3 a ha).trans (e3 a ha), fun j hj => (j4 j hj).trans (e4 j hj), j5.trans e5⟩
    rw [m80_L49, if_neg (show ¬ (4 : Int32) ≤ Int32.ofNat h from q_nle (b := 4) (by omega) hh4), e1, Option.bind_some]
    simp only [am_lt]
    rw [q_l1, q_add]
    exact j1
  | _, _, _, _, _, _, 0, _, _, _, _, hm, _ => by omega
/-- ahead of a round the tiles lie elsewhere -/
theorem c_pls {c c' : Nat → Nat → Int32} {s s' : Nat → Int32} {n : Nat} {T V : Nat → Nat} (h : q_C4 c s n 0 T V) {f : Nat → Int32} (hf : q_dp f) (c6 : ∀ t, t < 28 → c' 6 t = f t) (cx : ∀ i, i ≤ 10 → i ≠ 6 → c' i = c i) (s25 : ∀ t, t < 28 → s' (25 + t) = f t) (sx : ∀ k, k < 25 ∨ (53 ≤ k ∧ k < 165) → s' k = s k) : q_C4 c' s' n 0 T V := by
  obtain ⟨⟨a1, a2, a3, a4, a5, a6, a7, a8⟩, b, d, ⟨⟨e1, e2, e3, e4, e5⟩, ⟨u, f1, f2, f3⟩, g1, g2, g3, g4, g5, g6, g7, g8, g9, g10, g11, g12, g13, g14⟩⟩ := h
  obtain rfl := e4 rfl
  refine ⟨⟨a1, by rw [sx _ (by omega)]; exact a2, by rw [cx 1 (by omega) (by omega)]; exact a3, fun k hk => by omega, a5, fun t ht => ?_, by rw [cx 1 (by omega) (by omega)]; exact a7, by rw [cx 1 (by omega) (by omega)]; exact a8⟩, fun t ht => ?_, fun y hy => ?_, ⟨⟨e1, by rw [sx _ (by omega)]; exact e2, by rw [cx 0 (by omega) (by omega)]; exact e3, fun _ => rfl, fun q => absurd rfl q⟩, ⟨u, f1, by rw [sx _ (by omega)]; exact f2, by rw [cx 0 (by omega) (by omega)]; exact f3⟩, ?_⟩⟩
  · rw [s25 t ht]
    obtain ⟨w, h1, h2, h3⟩ := hf.1 t ht
    rw [h3]
    exact ⟨fun q => absurd (q_ofN (by omega) (by omega) q) h2, fun ⟨k, hk, _⟩ => by omega⟩
  · obtain ⟨w, h1, h2, h3⟩ := hf.1 t ht
    exact ⟨by rw [c6 t ht, s25 t ht], w, h1, by rw [s25 t ht]; exact h3⟩
  · obtain ⟨d1, d2, d3, d4, d5, d6⟩ := d y hy
    rw [cx 7 (by omega) (by omega), cx 8 (by omega) (by omega), cx 9 (by omega) (by omega), sx _ (by omega), sx _ (by omega), sx _ (by omega), q_cnt_congr (g := f) (fun t ht => s25 t ht)]
    exact ⟨d1, d2, d3, d4, d5, hf.2 y hy⟩
  · rw [cx 0 (by omega) (by omega), cx 10 (by omega) (by omega), sx _ (by omega), sx _ (by omega), sx _ (by omega), sx _ (by omega), sx _ (by omega), sx _ (by omega), sx _ (by omega), sx _ (by omega), sx _ (by omega), sx _ (by omega)]
    exact ⟨g1, g2, g3, g4, g5, g6, g7, g8, g9, g10, g11, g12, g13, g14⟩
theorem q_K_dp {n : Nat} {T V : Nat → Nat} (hK : q_K D n 0 T V) : q_dp (D.1 7) := by
  refine ⟨fun t ht => ?_, fun y hy => ?_⟩
  · obtain ⟨w, w1, w2⟩ := k_pw hK t ht
    refine ⟨w, w1, fun q => ?_, by rw [k_pl hK t ht]; exact w2⟩
    subst q
    obtain ⟨k, hk, -⟩ := (k_in hK t ht).mp w2
    have := k_p0 hK rfl
    omega
  · rw [q_cnt_congr (k_pl hK)]; exact k_h7 hK y hy
theorem g_deal {N : Nat} (hN : 2000 ≤ N) (hI : q_I D) (v : Int32) : q_G (fun D => m261 N D v) (fun D => m80 N D v) D := by
  obtain ⟨n, p, T, V, hK⟩ := q_I_K hI
  have hp := k_p3 hK
  rcases q46 (v := v) (a := 0) (b := 4095) (by omega) (by omega) with ⟨w, -, h2, rfl, e⟩ | ⟨e, h1⟩
  · have e3 : ¬ Int32.ofNat w < 0 := q_nlt (a := 0) (by omega) (by omega)
    have e4 : Int32.ofNat w ≤ 4095 := q_yle (b := 4095) (by omega) h2
    by_cases hp0 : p = 0
    · subst hp0
      obtain ⟨D1, d1, d2⟩ := q_sav hI
      have p1 := (q_pre_1 d2).1
      have hK1 := q_K_D1 d2 hK
      have hdp := q_K_dp hK1
      obtain ⟨D', c1, c2, c3, c4, c5⟩ := q214_L hN 4 0 (D1.1 7) w 0 D1 N (by omega) hdp (by omega) (by omega) (by omega) rfl
      have hfr : q_fr D1 D' := ⟨fun a ha => c3 a (by omega), by rw [c4]⟩
      obtain ⟨E1, f1, f2⟩ := q_pre_of hN hI d2 hfr (Int32.ofNat (q_d4 4 0 (D1.1 7) w 0).2.2).toInt64
      obtain ⟨s1, s2, s3, s4, s5, s6⟩ := q_pre_s f2
      obtain ⟨D2, b1, b2, b3, b4, b5⟩ := q80_L hN 4 0 (D1.1 7) w 0 E1 N (by omega) hdp (by omega) (by omega) (by omega) (fun t ht => by
        rw [p1 7 (by omega), k_pl hK t ht]
        exact s1 (25 + t) (by omega))
      have hfm : q_fm E1 D2 := ⟨fun a ha => b3 a (by omega), ⟨by rw [b3 106 (by omega)], by rw [b3 106 (by omega)], by rw [b3 106 (by omega)]⟩, fun o h5 h6 k hk => by
        show D2.1 107 _ = E1.1 107 _
        rw [b4 _ (by omega)], b5⟩
      have hC : q_C4 (q_c D' 1) (q_s D2 0) n 0 T V := c_pls hK c5 (fun t ht => by
          show D'.1 7 t = _
          rw [c2]) (fun i hi hi6 => by
          show D'.1 (1 + i) = D.1 (1 + i)
          rw [c3 _ (by omega)]
          exact p1 _ (by omega)) (fun t ht => b2 t ht) (fun k hk => by
          show D2.1 107 k = D.1 107 k
          rw [b4 k (by omega)]
          exact s1 k (by omega))
      refine q_G_mu _ hI f2 hfm ⟨n, 0, T, V, hC⟩ (q_tx_same hI f2 hfm (c3 91 (by omega)) (by rw [b3 106 (by omega)])) ?_ ?_
      · show m261 N D _ = _
        have e6 : D.1 1 6 = 0 := k_p' hK
        have c1' : m214_L7 N N D1 (Int32.ofNat w) 0 0 = some (Int32.ofNat (q_d4 4 0 (D1.1 7) w 0).2.2, D') := c1
        unfold m261 m2 m214
        rw [if_neg e3, if_pos e4, if_pos e6, d1, Option.bind_some, c1']
        rfl
      · show m80 N _ _ = _
        have e7 : (am_uJ D' 124 0 (Int32.ofNat (q_d4 4 0 (D1.1 7) w 0).2.2).toInt64).1 107 0 = 0 := by
          show D'.1 107 0 = 0
          rw [c3 107 (by omega), p1 107 (by omega)]; exact k_p hK
        have b1' : m80_L49 N N E1 (Int32.ofNat w) 0 0 = some (Int32.ofNat (q_d4 4 0 (D1.1 7) w 0).2.2, D2) := b1
        simp only [← q_l0, ← q_l4095] at e
        unfold m80
        simp only [am_lt, e, q_10, if_false, if_true, e7, q47a, f1, Option.bind_some, b1']
    · refine q_G_ex hI 2 (by omega) ?_ ?_
      · show m261 N D _ = _
        have e6 : ¬ D.1 1 6 = 0 := by rw [k_p' hK, q_l0, q_eq (by omega) (by omega)]; exact hp0
        unfold m261 m2
        rw [if_neg e3, if_pos e4, if_neg e6]
        rfl
      · show m80 N D _ = _
        have e6 : ¬ D.1 107 0 = 0 := by rw [k_p hK, q_l0, q_eq (by omega) (by omega)]; exact hp0
        simp only [← q_l0, ← q_l4095] at e
        unfold m80
        simp only [am_lt, e, q_10, if_false, e6, q47c]
        rfl
  · refine q_G_ex hI 1 (by omega) ?_ ?_
    · show m261 N D _ = _
      unfold m261 m2
      rcases h1 with h1 | h1
      · rw [if_pos (show v < 0 from h1)]; rfl
      · rw [if_neg (c := v ≤ 4095) (Int32.not_le.mpr h1), ite_self]; rfl
    · show m80 N D _ = _
      simp only [← q_l0, ← q_l4095] at e
      unfold m80
      simp only [am_lt, e, if_true, q47b]
      rfl
end MF
