/-! a tile is laid: the chains -/
section MG
variable {D : am_D} {n p : Nat} {T V : Nat → Nat}
def q_T1 (e n t : Nat) (T : Nat → Nat) : Nat → Nat := fun k => if e = 0 then (if k = 0 then t else T (k - 1)) else (if k = n then t else T k)
def q_V1 (e n t : Nat) (T V : Nat → Nat) : Nat → Nat := fun k => if n = 0 then q_lo t else if e = 0 then (if k = 0 then q_pip t - V 0 else V (k - 1)) else (if k = n then q_pip (T (n - 1)) - V (n - 1) else V k)
/-- different tiles are at most so many -/
theorem q_sw (T : Nat → Nat) : ∀ n : Nat, (∀ k, k < n → T k < 28) → q_S (fun j => q_S (fun k => if T k = j then 1 else 0) 0 n) 0 28 = n
  | 0, _ => by
    have : q_S (fun j => q_S (fun k => if T k = j then 1 else 0) 0 0) 0 28 = 0 := (q_S_zero 28 0).mpr (fun _ _ _ => rfl)
    exact this
  | n + 1, h => by
    have ih := q_sw T n (fun k hk => h k (by omega))
    have e : ∀ j, q_S (fun k => if T k = j then 1 else 0) 0 (n + 1) = q_S (fun k => if T k = j then 1 else 0) 0 n + (if T n = j then 1 else 0) := fun j => by
      rw [q_S_split (fun k => if T k = j then 1 else 0) n 1 0, Nat.zero_add]
      rfl
    rw [q_S_congr (g := fun j => q_S (fun k => if T k = j then 1 else 0) 0 n + (if T n = j then 1 else 0)) 28 0 (fun j _ _ => e j), q_S_add, ih]
    have hn := h n (by omega)
    have : q_S (fun j => if T n = j then 1 else 0) 0 28 + 0 = q_S (fun _ => 0) 0 28 + 1 := by
      have := q_S_upd (f := fun _ => 0) (g := fun j => if T n = j then 1 else 0) (p := T n) 28 0 (by omega) (by omega) (fun j _ _ hj => by rw [if_neg (fun q => hj q.symm)])
      rw [if_pos rfl] at this
      exact this
    rw [q_S_const] at this
    omega
theorem q_n27 {t : Nat} (ht : t < 28) (h1 : ∀ k, k < n → T k < 28) (h2 : ∀ j k, j < n → k < n → T j = T k → j = k) (h3 : ∀ k, k < n → T k ≠ t) : n ≤ 27 := by
  have e := q_sw T n h1
  have h4 : ∀ j, q_S (fun k => if T k = j then 1 else 0) 0 n ≤ if j = t then 0 else 1 := fun j => by
    by_cases hj : j = t
    · rw [if_pos hj, Nat.le_zero, q_S_zero]
      intro k _ hk
      rw [if_neg (by rw [hj]; exact h3 k (by omega))]
    · rw [if_neg hj]
      by_cases hx : ∃ k, k < n ∧ T k = j
      · obtain ⟨k, hk, hkj⟩ := hx
        have := q_S_upd (f := fun _ => 0) (g := fun k => if T k = j then 1 else 0) (p := k) n 0 (by omega) (by omega) (fun i _ hi hik => by rw [if_neg (fun q => hik (h2 i k (by omega) hk (q.trans hkj.symm)))])
        rw [if_pos hkj, q_S_const] at this
        omega
      · have : q_S (fun k => if T k = j then 1 else 0) 0 n = 0 := (q_S_zero n 0).mpr (fun k _ hk => by rw [if_neg (fun q => hx ⟨k, by omega, q⟩)])
        omega
  have h5 := q_S_le (f := fun j => q_S (fun k => if T k = j then 1 else 0) 0 n) (g := fun j => if j = t then 0 else 1) 28 0 (fun j _ _ => h4 j)
  have h6 := q_S_upd (f := fun _ => 1) (g := fun j => if j = t then 0 else 1) (p := t) 28 0 (by omega) (by omega) (fun j _ _ hj => by rw [if_neg hj])
  rw [if_pos rfl, q_S_const] at h6
  omega
theorem q_rp_at (D : am_D) (a m p : Nat) (hm : m < 2147483648) (hp : p < m) (x : Int32) : am_rput D a m (Int32.ofNat p) x = am_uI D a p x := by
  unfold am_rput
  rw [if_pos (q_in hm hp), q_tn (by omega)]
theorem q165 (D : am_D) {v : Nat} (h1 : 1 ≤ v) (h2 : v < 28) : (∀ r j, 3 ≤ r → r ≤ 6 → (m165 D (Int32.ofNat v)).1 r j = if j = v then D.1 r (v - 1) else D.1 r j) ∧ (∀ a, a < 3 ∨ 6 < a → (m165 D (Int32.ofNat v)).1 a = D.1 a) ∧ (m165 D (Int32.ofNat v)).2 = D.2 := by
  have e : ∀ F : am_D, ∀ r, am_rat (F.1 r) 28 (Int32.ofNat v - 1) = F.1 r (v - 1) := fun F r => by
    rw [q_l1, q_sub h1, q_rt _ (by omega) (by omega)]
  unfold m165
  simp only [am_lt, q_rp_at _ _ 28 v (by omega) h2, e]
  refine ⟨fun r j h3 h4 => ?_, fun a ha => ?_, rfl⟩
  · simp only [q_uI_at]
    obtain rfl | rfl | rfl | rfl : r = 3 ∨ r = 4 ∨ r = 5 ∨ r = 6 := by omega
    all_goals simp
  · rw [q_uI_ne _ (by omega), q_uI_ne _ (by omega), q_uI_ne _ (by omega), q_uI_ne _ (by omega)]
theorem q164_L {N : Nat} {v1 v2 v3 v4 v5 : Int32} (hn : n ≤ 27) : ∀ (i m : Nat) (E : am_D), i ≤ n → i < m → (∀ r j, 3 ≤ r → r ≤ 6 → E.1 r j = if i < j ∧ j ≤ n then D.1 r (j - 1) else D.1 r j) → (∀ a, a < 3 ∨ 6 < a → E.1 a = D.1 a) → E.2 = D.2 → ∃ E', m164_L64 N v1 v2 v3 v4 v5 (Int32.ofNat 0) m E (Int32.ofNat i) = some E' ∧ (∀ r j, 3 ≤ r → r ≤ 6 → E'.1 r j = if 0 < j ∧ j ≤ n then D.1 r (j - 1) else D.1 r j) ∧ (∀ a, a < 3 ∨ 6 < a → E'.1 a = D.1 a) ∧ E'.2 = D.2
  | 0, m + 1, E, hi, hm, h1, h2, h3 => by
    rw [m164_L64, if_pos (show Int32.ofNat 0 ≤ Int32.ofNat 0 by decide)]
    exact ⟨E, rfl, h1, h2, h3⟩
  | i + 1, m + 1, E, hi, hm, h1, h2, h3 => by
    obtain ⟨g1, g2, g3⟩ := q165 E (v := i + 1) (by omega) (by omega)
    rw [m164_L64, if_neg (q_nle (a := 0) (b := i + 1) (by omega) (by omega))]
    simp only [am_lt]
    have e : Int32.ofNat (i + 1) + (-1 : Int32) = Int32.ofNat i := q_dec i
    rw [e]
    refine q164_L hn i m _ (by omega) (by omega) (fun r j h4 h5 => ?_) (fun a ha => by rw [g2 a ha, h2 a ha]) (g3.trans h3)
    rw [g1 r j h4 h5, h1 r _ h4 h5, h1 r j h4 h5]
    by_cases c : j = i + 1
    · subst c
      rw [if_pos rfl, if_neg (by omega), if_pos (by omega)]
    · rw [if_neg c]
      by_cases d : i + 1 < j ∧ j ≤ n
      · rw [if_pos d, if_pos (by omega)]
      · rw [if_neg d, if_neg (by omega)]
  | _, 0, _, _, hm, _, _, _ => by omega
/-- the tile shows what lies at the end -/
theorem q_ft0 (hK : q_K D n p T V) {t : Nat} (ht : t < 28) (hn : 0 < n) (hf : n = 0 ∨ q_sh t (m156 D (Int32.ofNat 0))) : V 0 = q_lo t ∨ V 0 = q_hi t := by
  have h1 := hf.resolve_left (by omega)
  have e : m156 D (Int32.ofNat 0) = Int32.ofNat (V 0) := by
    show D.1 2 5 = _
    rw [k_e0 hK, if_neg (by omega)]
  rw [e] at h1
  have a1 := q_lo7 t ht
  have a2 := q_hi7 t ht
  obtain ⟨b1, b2, -⟩ := k_k hK 0 hn
  have a3 := (q_v7 b1 b2).1
  exact h1.imp (fun q => (q_ofN (by omega) (by omega) q).symm) (fun q => (q_ofN (by omega) (by omega) q).symm)
theorem q_ft1 (hK : q_K D n p T V) {t : Nat} (ht : t < 28) (hn : 0 < n) (hf : n = 0 ∨ q_sh t (m156 D (Int32.ofNat 1))) : q_pip (T (n - 1)) - V (n - 1) = q_lo t ∨ q_pip (T (n - 1)) - V (n - 1) = q_hi t := by
  have h1 := hf.resolve_left (by omega)
  have e : m156 D (Int32.ofNat 1) = Int32.ofNat (q_pip (T (n - 1)) - V (n - 1)) := by
    show D.1 2 6 = _
    rw [k_e1 hK, if_neg (by omega)]
  rw [e] at h1
  have a1 := q_lo7 t ht
  have a2 := q_hi7 t ht
  obtain ⟨b1, b2, -⟩ := k_k hK (n - 1) (by omega)
  have a3 := (q_v7 b1 b2).2
  exact h1.imp (fun q => (q_ofN (by omega) (by omega) q).symm) (fun q => (q_ofN (by omega) (by omega) q).symm)
theorem q_tv (hK : q_K D n p T V) {t e : Nat} (ht : t < 28) (he : e < 2) (hf : n = 0 ∨ q_sh t (m156 D (Int32.ofNat e))) : ∀ k, k < n + 1 → q_T1 e n t T k < 28 ∧ (q_V1 e n t T V k = q_lo (q_T1 e n t T k) ∨ q_V1 e n t T V k = q_hi (q_T1 e n t T k)) := by
  intro k hk
  unfold q_T1 q_V1
  by_cases hn : n = 0
  · subst hn
    obtain rfl : k = 0 := by omega
    simp [ht]
  · simp only [hn, if_false]
    obtain rfl | rfl : e = 0 ∨ e = 1 := by omega
    · have h0 := q_ft0 hK ht (by omega) hf
      simp only [if_true]
      by_cases hk0 : k = 0
      · simp only [hk0, if_true]
        refine ⟨ht, ?_⟩
        unfold q_pip
        omega
      · simp only [hk0, if_false]
        obtain ⟨b1, b2, -⟩ := k_k hK (k - 1) (by omega)
        exact ⟨b1, b2⟩
    · have h0 := q_ft1 hK ht (by omega) hf
      simp only [Nat.one_ne_zero, if_false]
      by_cases hkn : k = n
      · simp only [hkn, if_true]
        exact ⟨ht, h0⟩
      · simp only [hkn, if_false]
        obtain ⟨b1, b2, -⟩ := k_k hK k (by omega)
        exact ⟨b1, b2⟩
theorem q_vfr {v t : Nat} (h : v = q_lo t ∨ v = q_hi t) : Int32.ofNat (q_pip t) - Int32.ofNat v = Int32.ofNat (q_pip t - v) := q_sub (q_vle h)
/-- the class's chain with the tile -/
theorem q164 {N : Nat} (hN : 2000 ≤ N) (hK : q_K D n p T V) {t e x : Nat} (ht : t < 28) (he : e < 2) (hn : n ≤ 27) (hf : n = 0 ∨ q_sh t (m156 D (Int32.ofNat e))) :
    ∃ D', m164 N D (Int32.ofNat t) (Int32.ofNat e) (Int32.ofNat x) = some D' ∧ D'.1 2 4 = Int32.ofNat (n + 1) ∧
      (∀ k, k < n + 1 → D'.1 3 k = Int32.ofNat (q_T1 e n t T k) ∧ D'.1 4 k = Int32.ofNat (q_V1 e n t T V k) ∧ D'.1 5 k = (if k = (if e = 0 then 0 else n) then Int32.ofNat x else D.1 5 (if e = 0 then k - 1 else k)) ∧ D'.1 6 k = (if k = (if e = 0 then 0 else n) then Int32.ofNat (n + 1) else D.1 6 (if e = 0 then k - 1 else k))) ∧
      D'.1 2 5 = Int32.ofNat (q_V1 e n t T V 0) ∧ D'.1 2 6 = Int32.ofNat (q_pip (q_T1 e n t T n) - q_V1 e n t T V n) ∧ (∀ a, a < 2 ∨ 6 < a → D'.1 a = D.1 a) ∧ D'.2 = D.2 := by
  have htv := q_tv hK ht he hf
  have hlt : D.1 2 4 < 28 := by rw [k_n' hK]; exact q_ylt (b := 28) (by omega) (by omega)
  obtain ⟨pl, hpl⟩ : ∃ pl, pl = if e = 0 then 0 else n := ⟨_, rfl⟩
  have hpl27 : pl ≤ n := by rw [hpl]; split <;> omega
  have hq12 : (if Int32.ofNat e = 0 then (0 : Int32) else D.1 2 4) = Int32.ofNat pl := by
    rw [k_n' hK, hpl]
    obtain rfl | rfl : e = 0 ∨ e = 1 := by omega
    · rfl
    · rw [if_neg (by decide), if_neg (by omega)]
  -- the rows behind the moving
  obtain ⟨E, hE, hE1, hE2, hE3⟩ : ∃ E, (∀ v1 v2 v3 v4 v5, m164_L64 N v1 v2 v3 v4 v5 (Int32.ofNat pl) N D (Int32.ofNat n) = some E) ∧ (∀ r j, 3 ≤ r → r ≤ 6 → E.1 r j = if e = 0 ∧ 0 < j ∧ j ≤ n then D.1 r (j - 1) else D.1 r j) ∧ (∀ a, a < 3 ∨ 6 < a → E.1 a = D.1 a) ∧ E.2 = D.2 := by
    obtain rfl | rfl : e = 0 ∨ e = 1 := by omega
    · rw [if_pos rfl] at hpl
      subst hpl
      obtain ⟨E, -, h1, h2, h3⟩ := q164_L (N := N) (D := D) (v1 := 0) (v2 := 0) (v3 := 0) (v4 := 0) (v5 := 0) hn n N D (Nat.le_refl _) (by omega) (fun r j _ _ => by rw [if_neg (by omega)]) (fun _ _ => rfl) rfl
      refine ⟨E, fun v1 v2 v3 v4 v5 => ?_, fun r j h4 h5 => ?_, h2, h3⟩
      · obtain ⟨E', g0, g1, g2, g3⟩ := q164_L (N := N) (D := D) (v1 := v1) (v2 := v2) (v3 := v3) (v4 := v4) (v5 := v5) hn n N D (Nat.le_refl _) (by omega) (fun r j _ _ => by rw [if_neg (by omega)]) (fun _ _ => rfl) rfl
        rw [g0]
        congr 1
        refine Prod.ext (funext fun a => ?_) (g3.trans h3.symm)
        by_cases ha : 3 ≤ a ∧ a ≤ 6
        · funext j
          rw [g1 a j ha.1 ha.2, h1 a j ha.1 ha.2]
        · rw [g2 a (by omega), h2 a (by omega)]
      · rw [h1 r j h4 h5]
        by_cases c : 0 < j ∧ j ≤ n
        · rw [if_pos c, if_pos ⟨rfl, c⟩]
        · rw [if_neg c, if_neg (fun q => c q.2)]
    · rw [if_neg (by omega)] at hpl
      subst hpl
      refine ⟨D, fun v1 v2 v3 v4 v5 => ?_, fun r j _ _ => by rw [if_neg (by omega)], fun _ _ => rfl, rfl⟩
      obtain ⟨m, rfl⟩ : ∃ m, N = m + 1 := ⟨N - 1, by omega⟩
      rw [m164_L64, if_pos (Int32.le_refl _)]
  -- the values
  have hx10 : m162 D (Int32.ofNat t) (if (if D.1 2 4 = 0 then (1 : Int32) else 0) = 0 then Int32.ofNat e else 0) = Int32.ofNat (if n = 0 then q_lo t else if e = 0 then q_pip t - V 0 else q_pip t - (q_pip (T (n - 1)) - V (n - 1))) := by
    rw [k_n' hK]
    unfold m162
    rw [k_n' hK]
    by_cases h0 : n = 0
    · subst h0
      simp only [show (Int32.ofNat 0 = 0) = True from by decide, if_true, q_10, if_false, eq_self, q249 ht]
    · have h0' : ¬ Int32.ofNat n = 0 := by rw [q_l0, q_eq (by omega) (by omega)]; exact h0
      simp only [h0', h0, if_false, if_true]
      obtain rfl | rfl : e = 0 ∨ e = 1 := by omega
      · have e1 : m156 D (Int32.ofNat 0) = Int32.ofNat (V 0) := by
          show D.1 2 5 = _
          rw [k_e0 hK, if_neg h0]
        rw [q251 ht, e1, if_pos rfl, q_vfr (q_ft0 hK ht (by omega) hf)]
      · have e1 : m156 D (Int32.ofNat 1) = Int32.ofNat (q_pip (T (n - 1)) - V (n - 1)) := by
          show D.1 2 6 = _
          rw [k_e1 hK, if_neg h0]
        rw [q251 ht, e1, if_neg (by omega), q_vfr (q_ft1 hK ht (by omega) hf)]
  obtain ⟨fr, hfr⟩ : ∃ fr, fr = (if n = 0 then q_lo t else if e = 0 then q_pip t - V 0 else q_pip t - (q_pip (T (n - 1)) - V (n - 1))) := ⟨_, rfl⟩
  rw [← hfr] at hx10
  have hq27 : ∀ y : Int32, y = D.1 2 6 → (if (if Int32.ofNat n = 0 then (1 : Int32) else 0) = 0 then (if Int32.ofNat e = 0 then Int32.ofNat fr else y) else Int32.ofNat fr) = Int32.ofNat (q_V1 e n t T V pl) := fun y hy => by
    rw [hy, k_e1 hK, hfr, hpl]
    unfold q_V1
    by_cases h0 : n = 0
    · subst h0; rfl
    · have h0' : ¬ Int32.ofNat n = 0 := by rw [q_l0, q_eq (by omega) (by omega)]; exact h0
      simp only [h0', h0, if_false, if_true]
      obtain rfl | rfl : e = 0 ∨ e = 1 := by omega
      · rfl
      · rw [if_neg (by decide)]; simp
  have hq40 : ∀ y : Int32, y = D.1 2 5 → (if (if Int32.ofNat n = 0 then (1 : Int32) else 0) = 0 then (if Int32.ofNat e = 0 then Int32.ofNat fr else y) else Int32.ofNat fr) = Int32.ofNat (q_V1 e n t T V 0) := fun y hy => by
    rw [hy, k_e0 hK, hfr]
    unfold q_V1
    by_cases h0 : n = 0
    · subst h0; rfl
    · have h0' : ¬ Int32.ofNat n = 0 := by rw [q_l0, q_eq (by omega) (by omega)]; exact h0
      simp only [h0', h0, if_false, if_true]
      obtain rfl | rfl : e = 0 ∨ e = 1 := by omega
      · rfl
      · rw [if_neg (by decide)]
        simp only [Nat.one_ne_zero, if_false]
        rw [if_neg (fun q => h0 q.symm)]
  obtain ⟨F, hF⟩ : ∃ F, F = am_uI (am_uI (am_uI (am_uI (am_uI (am_uI E 3 pl (Int32.ofNat t)) 4 pl (Int32.ofNat (q_V1 e n t T V pl))) 5 pl (Int32.ofNat x)) 2 4 (Int32.ofNat (n + 1))) 6 pl (Int32.ofNat (n + 1))) 2 5 (Int32.ofNat (q_V1 e n t T V 0)) := ⟨_, rfl⟩
  have hFk : ∀ k, k < n + 1 → F.1 3 k = Int32.ofNat (q_T1 e n t T k) ∧ F.1 4 k = Int32.ofNat (q_V1 e n t T V k) ∧ F.1 5 k = (if k = (if e = 0 then 0 else n) then Int32.ofNat x else D.1 5 (if e = 0 then k - 1 else k)) ∧ F.1 6 k = (if k = (if e = 0 then 0 else n) then Int32.ofNat (n + 1) else D.1 6 (if e = 0 then k - 1 else k)) := by
    intro k hk
    rw [hF]
    simp only [q_uI_at]
    rw [← hpl]
    simp (decide := true) only [true_and, false_and, if_false]
    by_cases hkp : k = pl
    · simp only [hkp, if_true]
      refine ⟨?_, trivial, trivial, trivial⟩
      unfold q_T1
      rw [hpl]
      by_cases he0 : e = 0
      · simp [he0]
      · simp [he0]
    · simp only [hkp, if_false]
      rw [hE1 3 k (by omega) (by omega), hE1 4 k (by omega) (by omega), hE1 5 k (by omega) (by omega), hE1 6 k (by omega) (by omega)]
      unfold q_T1 q_V1
      have h0 : ¬ n = 0 := by
        rw [hpl] at hkp
        by_cases he0 : e = 0
        · rw [if_pos he0] at hkp; omega
        · rw [if_neg he0] at hkp; omega
      by_cases he0 : e = 0
      · rw [if_pos he0] at hpl
        subst hpl
        have c : e = 0 ∧ 0 < k ∧ k ≤ n := ⟨he0, by omega, by omega⟩
        rw [if_pos c, if_pos c, if_pos c, if_pos c]
        simp only [he0, h0, hkp, if_true, if_false]
        obtain ⟨-, -, -, -, a5, a6, -⟩ := k_k hK (k - 1) (by omega)
        exact ⟨a5, a6, trivial, trivial⟩
      · rw [if_neg he0] at hpl
        subst hpl
        have c : ¬ (e = 0 ∧ 0 < k ∧ k ≤ pl) := fun q => he0 q.1
        rw [if_neg c, if_neg c, if_neg c, if_neg c]
        simp only [he0, h0, hkp, if_false]
        obtain ⟨-, -, -, -, a5, a6, -⟩ := k_k hK k (by omega)
        exact ⟨a5, a6, trivial, trivial⟩
  have hF24 : F.1 2 4 = Int32.ofNat (n + 1) := by
    rw [hF]
    simp only [q_uI_at]
    simp (decide := true)
  have hF25 : F.1 2 5 = Int32.ofNat (q_V1 e n t T V 0) := by rw [hF]; exact q_uIs _ _ _ _
  have hFo : ∀ a, a < 2 ∨ 6 < a → F.1 a = D.1 a := fun a ha => by
    rw [hF, q_uI_ne _ (by omega), q_uI_ne _ (by omega), q_uI_ne _ (by omega), q_uI_ne _ (by omega), q_uI_ne _ (by omega), q_uI_ne _ (by omega), hE2 a (by omega)]
  have h155 : m155 F (Int32.ofNat n) = Int32.ofNat (q_pip (q_T1 e n t T n) - q_V1 e n t T V n) := by
    obtain ⟨b1, b2⟩ := htv n (by omega)
    unfold m155
    rw [q_rt _ (by omega) (show n < 28 by omega), q_rt _ (by omega) (show n < 28 by omega), (hFk n (by omega)).1, (hFk n (by omega)).2.1, q251 b1, q_vfr b2]
  refine ⟨am_uI F 2 6 (Int32.ofNat (q_pip (q_T1 e n t T n) - q_V1 e n t T V n)), ?_, ?_, fun k hk => ?_, ?_, q_uIs _ _ _ _, fun a ha => by rw [q_uI_ne _ (by omega), hFo a ha], ?_⟩
  · unfold m164
    rw [if_pos hlt]
    simp only [am_lt, hx10, hq12]
    rw [k_n' hK, hE, Option.bind_some]
    have g1 : ∀ (X : am_D) (a : Nat) (y : Int32), am_rput X a 28 (Int32.ofNat pl) y = am_uI X a pl y := fun X a y => q_rp_at _ _ _ _ (by omega) (by omega) _
    have e26 : (am_uI E 3 pl (Int32.ofNat t)).1 2 6 = D.1 2 6 := by rw [q_uI_ne _ (by omega), hE2 2 (by omega)]
    have e24 : (am_uI (am_uI (am_uI E 3 pl (Int32.ofNat t)) 4 pl (Int32.ofNat (q_V1 e n t T V pl))) 5 pl (Int32.ofNat x)).1 2 4 = Int32.ofNat n := by
      rw [q_uI_ne _ (by omega), q_uI_ne _ (by omega), q_uI_ne _ (by omega), hE2 2 (by omega)]; exact k_n' hK
    have e25 : (am_uI (am_uI (am_uI (am_uI (am_uI E 3 pl (Int32.ofNat t)) 4 pl (Int32.ofNat (q_V1 e n t T V pl))) 5 pl (Int32.ofNat x)) 2 4 (Int32.ofNat (n + 1))) 6 pl (Int32.ofNat (n + 1))).1 2 5 = D.1 2 5 := by
      rw [q_uI_ne _ (by omega), q_uI_at, if_neg (by omega), q_uI_ne _ (by omega), q_uI_ne _ (by omega), q_uI_ne _ (by omega), hE2 2 (by omega)]
    have z1 : Int32.ofNat n + (1 : Int32) = Int32.ofNat (n + 1) := q_add n 1
    have z2 : Int32.ofNat (n + 1) - (1 : Int32) = Int32.ofNat n := q_sub (b := 1) (by omega)
    simp only [g1]
    rw [hq27 _ e26, e24, z1, q_uIs, hq40 _ e25, ← hF, hF24, z2, h155]
  · rw [q_uI_at, if_neg (by omega)]; exact hF24
  · rw [q_uI_ne _ (by omega), q_uI_ne _ (by omega), q_uI_ne _ (by omega), q_uI_ne _ (by omega)]
    exact hFk k hk
  · rw [q_uI_at, if_neg (by omega)]; exact hF25
  · show F.2 = D.2
    rw [hF]; exact hE3
end MG
