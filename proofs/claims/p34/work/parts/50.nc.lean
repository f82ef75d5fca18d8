/-! the longest chain of a hand: the model -/
section NC
variable {D : am_D} {H : Nat → Nat}
theorem q112 (hB : q_B D) {r t : Nat} (hr : r < 128) (ht : t < 28) : ∃ r', r' < 128 ∧ m112 D (Int32.ofNat r) (Int32.ofNat t) = some (Int32.ofNat r') ∧ ∀ u, u < 7 → (r'.testBit u = true ↔ ∃ w, w < 7 ∧ r.testBit w = true ∧ (w = q_lo t ∨ w = q_hi t) ∧ u = q_pip t - w) := by
  have l7 := q_lo7 t ht
  have u7 := q_hi7 t ht
  have i28 : 0 ≤ Int32.ofNat t ∧ Int32.ofNat t < 28 := q_in (n := 28) (by omega) ht
  have e1 : D.1 109 (Int32.ofNat t).toNatClampNeg = Int32.ofNat (q_lo t) := by rw [q_tn (by omega)]; exact (hB t ht).1
  have e2 : D.1 110 (Int32.ofNat t).toNatClampNeg = Int32.ofNat (q_hi t) := by rw [q_tn (by omega)]; exact (hB t ht).2
  have em : m112 D (Int32.ofNat r) (Int32.ofNat t) = some (Int32.ofNat ((if r.testBit (q_lo t) = true then 2 ^ q_hi t else 0) ||| (if r.testBit (q_hi t) = true then 2 ^ q_lo t else 0))) := by
    unfold m112
    rw [if_pos i28, e1, e2, (q_bb2 r hr _ l7).1, (q_bb2 r hr _ u7).1, (q_bit _ l7).2, (q_bit _ u7).2]
    simp only [if_pos i28]
    by_cases c1 : r.testBit (q_lo t) = true <;> by_cases c2 : r.testBit (q_hi t) = true
    · rw [if_pos c1, if_pos c2, if_pos (show Int32.ofNat 1 = 1 from rfl), Option.bind_some, if_pos (show Int32.ofNat 1 = 1 from rfl), q_or, if_pos c1, if_pos c2]
    · rw [if_pos c1, if_neg c2, if_pos (show Int32.ofNat 1 = 1 from rfl), Option.bind_some, if_neg (show ¬ Int32.ofNat 0 = 1 by decide), q_l0, q_or, if_pos c1, if_neg c2]
    · rw [if_neg c1, if_pos c2, if_neg (show ¬ Int32.ofNat 0 = 1 by decide), Option.bind_some, if_pos (show Int32.ofNat 1 = 1 from rfl), q_l0, q_or, if_neg c1, if_pos c2]
    · rw [if_neg c1, if_neg c2, if_neg (show ¬ Int32.ofNat 0 = 1 by decide), Option.bind_some, if_neg (show ¬ Int32.ofNat 0 = 1 by decide), q_l0, q_or, if_neg c1, if_neg c2]
  refine ⟨_, Nat.or_lt_two_pow (n := 7) ?_ ?_, em, fun u hu => ?_⟩
  · split
    · exact q_pow7 _ u7
    · omega
  · split
    · exact q_pow7 _ l7
    · omega
  · rw [Nat.testBit_or, Bool.or_eq_true]
    unfold q_pip
    constructor
    · rintro (h | h)
      · by_cases c : r.testBit (q_lo t) = true
        · rw [if_pos c, Nat.testBit_two_pow] at h
          have h' : q_hi t = u := by simpa using h
          exact ⟨q_lo t, l7, c, Or.inl rfl, by omega⟩
        · rw [if_neg c, Nat.zero_testBit] at h
          exact absurd h (by decide)
      · by_cases c : r.testBit (q_hi t) = true
        · rw [if_pos c, Nat.testBit_two_pow] at h
          have h' : q_lo t = u := by simpa using h
          exact ⟨q_hi t, u7, c, Or.inr rfl, by omega⟩
        · rw [if_neg c, Nat.zero_testBit] at h
          exact absurd h (by decide)
    · rintro ⟨w, hw, h1, h2 | h2, h3⟩
      · subst h2
        left
        rw [if_pos h1, Nat.testBit_two_pow]
        have : q_hi t = u := by omega
        simpa using this
      · subst h2
        right
        rw [if_pos h1, Nat.testBit_two_pow]
        have : q_lo t = u := by omega
        simpa using this
theorem q_run_lt (hH : ∀ j, H j < 28) : ∀ (L : List Nat) {v S : Nat} {z : Nat × Nat}, v < 7 → q_run H (v, S) L = some z → z.1 < 7
  | [], v, S, z, hv, h => by
    have e : (v, S) = z := Option.some.inj h
    rw [← e]; exact hv
  | i :: L, v, S, z, hv, h => by
    obtain ⟨y, h1, h2⟩ := q_run_cons.mp h
    obtain ⟨g1, g2, g3, rfl⟩ := q_step_some.mp h1
    exact q_run_lt hH L (q_v7 (hH i) g3).2 h2
theorem q_bcle (S : Nat) : q_bc S ≤ 7 := by
  have := q_S_le (f := fun i => if S.testBit i then 1 else 0) (g := fun _ => 1) 7 0 (fun t _ _ => by
    show (if S.testBit t then 1 else 0) ≤ 1
    split <;> omega)
  rw [q_S_const] at this
  exact this
/-- what the table says so far -/
def q_tab (H : Nat → Nat) (S : Nat) (D : am_D) : Prop := ∀ A, 1 ≤ A → A < S → ∃ r, r < 128 ∧ D.1 114 A = Int32.ofNat r ∧ ∀ u, u < 7 → (r.testBit u = true ↔ q_mem H A u)
theorem q113_62 {N : Nat} {k S : Nat} {v3 : Int32} (hk : k ≤ 7) (hH : ∀ j, H j < 28) (hS : S < 128) (h1 : 1 ≤ S) (hSk : ∀ j, j < 7 → S.testBit j = true → j < k) : ∀ (r i c cur m : Nat) (D : am_D), i + r = k → r < m → q_tab H S D → D.1 114 S = Int32.ofNat cur → cur < 128 → (∀ u, u < 7 → (cur.testBit u = true ↔ ∃ i' w, i' < i ∧ S.testBit i' = true ∧ q_mem H (S - 2 ^ i') w ∧ (w = q_lo (H i') ∨ w = q_hi (H i')) ∧ u = q_pip (H i') - w)) → c + q_S (fun i => if S.testBit i then 1 else 0) i (7 - i) = q_bc S → (∀ j, j < k → D.1 113 j = Int32.ofNat (H j)) → q_B D →
    ∃ D' cur', m113_L62 N (Int32.ofNat k) v3 (Int32.ofNat S) m D (Int32.ofNat c) (Int32.ofNat i) = some (Int32.ofNat (q_bc S), D') ∧ D'.1 114 S = Int32.ofNat cur' ∧ cur' < 128 ∧ (∀ u, u < 7 → (cur'.testBit u = true ↔ q_mem H S u)) ∧ (∀ j, j ≠ S → D'.1 114 j = D.1 114 j) ∧ (∀ a, a ≠ 114 → D'.1 a = D.1 a) ∧ D'.2 = D.2
  | r, i, c, cur, m + 1, D, hi, hm, hT, hc, hc1, hu, hb, h113, hB => by
    rw [m113_L62]
    by_cases c0 : i = k
    · subst c0
      rw [if_pos (show Int32.ofNat i ≤ Int32.ofNat i from q_yle (by omega) (by omega))]
      have hz : q_S (fun i => if S.testBit i then 1 else 0) i (7 - i) = 0 := (q_S_zero _ _).mpr (fun t h1 h2 => by
        show (if S.testBit t then 1 else 0) = 0
        by_cases ct : S.testBit t = true
        · have := hSk t (by omega) ct
          omega
        · rw [if_neg ct])
      refine ⟨D, cur, by rw [show c = q_bc S by omega], hc, hc1, fun u hu7 => ?_, fun _ _ => rfl, fun _ _ => rfl, rfl⟩
      rw [hu u hu7, q_mem_s hS (by omega)]
      constructor
      · rintro ⟨i', w, a1, a2, a3⟩
        exact ⟨i', w, by omega, a2, a3⟩
      · rintro ⟨i', w, a1, a2, a3⟩
        exact ⟨i', w, hSk i' a1 a2, a2, a3⟩
    · have hi7 : i < 7 := by omega
      obtain ⟨r', rfl⟩ : ∃ r', r = r' + 1 := ⟨r - 1, by omega⟩
      obtain ⟨b1, b2⟩ := q_bb2 S hS i hi7
      have i128 : 0 ≤ Int32.ofNat S ∧ Int32.ofNat S < 128 := q_in (n := 128) (by omega) hS
      have i7 : 0 ≤ Int32.ofNat i ∧ Int32.ofNat i < 7 := q_in (n := 7) (by omega) hi7
      have hs7 : q_S (fun i => if S.testBit i then 1 else 0) i (7 - i) = (if S.testBit i then 1 else 0) + q_S (fun i => if S.testBit i then 1 else 0) (i + 1) (7 - (i + 1)) := by
        rw [show 7 - i = (7 - (i + 1)) + 1 by omega]; rfl
      rw [if_neg (show ¬ Int32.ofNat k ≤ Int32.ofNat i from q_nle (by omega) (by omega)), b1]
      simp only [am_lt]
      rw [show Int32.ofNat i + 1 = Int32.ofNat (i + 1) from q_add i 1]
      by_cases c1 : S.testBit i = true
      · obtain ⟨p1, p2, p3⟩ := q_bb1 S hS i hi7 c1
        have hlt : S - 2 ^ i < S := Nat.sub_lt (by omega) (Nat.two_pow_pos i)
        obtain ⟨rr, s1, s2, s3⟩ : ∃ rr, rr < 128 ∧ (if Int32.ofNat (S - 2 ^ i) = 0 then (some (127 : Int32)) else (if 0 ≤ Int32.ofNat (S - 2 ^ i) ∧ Int32.ofNat (S - 2 ^ i) < 128 then (some (D.1 114 (Int32.ofNat (S - 2 ^ i)).toNatClampNeg)) else none)) = some (Int32.ofNat rr) ∧ ∀ u, u < 7 → (rr.testBit u = true ↔ q_mem H (S - 2 ^ i) u) := by
          by_cases cz : S - 2 ^ i = 0
          · refine ⟨127, by omega, by rw [cz, if_pos (show Int32.ofNat 0 = 0 from rfl)]; rfl, fun u hu7 => ?_⟩
            rw [cz, q_mem_0]
            have : (2 ^ 7 - 1).testBit u = decide (u < 7) := (q_bb6 7 (by omega)).2.2.1 u hu7
            have : (127 : Nat).testBit u = decide (u < 7) := this
            rw [this]; simp
          · obtain ⟨rr, s1, s2, s3⟩ := hT (S - 2 ^ i) (by omega) hlt
            have j128 : 0 ≤ Int32.ofNat (S - 2 ^ i) ∧ Int32.ofNat (S - 2 ^ i) < 128 := q_in (n := 128) (by omega) (Nat.lt_of_le_of_lt (Nat.sub_le _ _) hS)
            have n31 : S - 2 ^ i < 2147483648 := Nat.lt_of_lt_of_le (Nat.lt_of_le_of_lt (Nat.sub_le _ _) hS) (by omega)
            refine ⟨rr, s1, ?_, s3⟩
            rw [if_neg (show ¬ Int32.ofNat (S - 2 ^ i) = 0 by rw [q_l0, q_eq n31 (by omega)]; exact cz), if_pos j128, q_tn n31, s2]
        obtain ⟨r2, t1, t2, t3⟩ := q112 hB s1 (hH i)
        have hcur := Nat.or_lt_two_pow (n := 7) hc1 t1
        rw [if_pos c1, if_pos (show Int32.ofNat 1 = 1 from rfl), if_pos i128, b2 c1, s2, Option.bind_some, if_pos i7, q_tn (show i < 2147483648 by omega), h113 i (by omega), t2, Option.bind_some, if_pos i128, q_tn (show S < 2147483648 by omega), hc, q_or, show Int32.ofNat c + 1 = Int32.ofNat (c + 1) from q_add c 1, Option.bind_some]
        obtain ⟨D', cur', g1, g2, g3, g4, g5, g6, g7⟩ := q113_62 (N := N) (v3 := v3) hk hH hS h1 hSk r' (i + 1) (c + 1) (cur ||| r2) m (am_uI D 114 S (Int32.ofNat (cur ||| r2))) (by omega) (by omega) (fun A a1 a2 => by
          obtain ⟨q, q1, q2, q3⟩ := hT A a1 a2
          exact ⟨q, q1, by rw [q_uI_at, if_neg (by omega)]; exact q2, q3⟩) (q_uIs _ _ _ _) hcur (fun u hu7 => by
          rw [Nat.testBit_or, Bool.or_eq_true, hu u hu7, t3 u hu7]
          constructor
          · rintro (⟨i', w, a1, a2⟩ | ⟨w, a1, a2, a3, a4⟩)
            · exact ⟨i', w, by omega, a2⟩
            · exact ⟨i, w, by omega, c1, (s3 w a1).mp a2, a3, a4⟩
          · rintro ⟨i', w, a1, a2, a3, a4, a5⟩
            by_cases ci : i' = i
            · subst ci
              have w7 : w < 7 := by
                have := q_lo7 _ (hH i')
                have := q_hi7 _ (hH i')
                omega
              exact Or.inr ⟨w, w7, (s3 w w7).mpr a3, a4, a5⟩
            · exact Or.inl ⟨i', w, by omega, a2, a3, a4, a5⟩) (by rw [hs7, if_pos c1] at hb; omega) (fun j hj => by rw [q_uI_ne _ (by omega)]; exact h113 j hj) (by intro t ht; rw [q_uI_ne _ (by omega), q_uI_ne _ (by omega)]; exact hB t ht)
        exact ⟨D', cur', g1, g2, g3, g4, fun j hj => by rw [g5 j hj, q_uI_at, if_neg (fun q => hj q.2)], fun a ha => by rw [g6 a ha, q_uI_ne _ ha], g7⟩
      · rw [if_neg c1, if_neg (show ¬ Int32.ofNat 0 = 1 by decide), Option.bind_some]
        exact q113_62 (N := N) (v3 := v3) hk hH hS h1 hSk r' (i + 1) c cur m D (by omega) (by omega) hT hc hc1 (fun u hu7 => by
          rw [hu u hu7]
          constructor
          · rintro ⟨i', w, a1, a2⟩
            exact ⟨i', w, by omega, a2⟩
          · rintro ⟨i', w, a1, a2, a3⟩
            by_cases ci : i' = i
            · subst ci; exact absurd a2 c1
            · exact ⟨i', w, by omega, a2, a3⟩) (by rw [hs7, if_neg c1] at hb; omega) h113 hB
  | _, _, _, _, 0, _, _, hm, _, _, _, _, _, _, _ => by omega
theorem q_full {k A : Nat} (hk : k ≤ 7) (hA : A < 2 ^ k) : A < 128 ∧ ∀ j, j < 7 → A.testBit j = true → j < k := by
  have h7 : 2 ^ k ≤ 2 ^ 7 := Nat.pow_le_pow_right (by omega) hk
  refine ⟨by omega, fun j hj q => ?_⟩
  by_cases c : j < k
  · exact c
  · have : 2 ^ k ≤ 2 ^ j := Nat.pow_le_pow_right (by omega) (by omega)
    rw [Nat.testBit_lt_two_pow (by omega)] at q
    exact absurd q (by decide)
theorem q113_40 {N : Nat} (hN : 2000 ≤ N) {k : Nat} (hk : k ≤ 7) (hH : ∀ j, H j < 28) : ∀ (r S best m : Nat) (D : am_D), S + r = 2 ^ k → r < m → 1 ≤ S → q_tab H S D → best ≤ 7 → (best = 0 ∨ ∃ A u, 1 ≤ A ∧ A < S ∧ u < 7 ∧ q_mem H A u ∧ q_bc A = best) → (∀ A u, 1 ≤ A → A < S → u < 7 → q_mem H A u → q_bc A ≤ best) → (∀ j, j < k → D.1 113 j = Int32.ofNat (H j)) → q_B D →
    ∃ l D', m113_L40 N (Int32.ofNat k) m D (Int32.ofNat best) (Int32.ofNat S) = some (Int32.ofNat l, D') ∧ (l = 0 ∨ ∃ A u, 1 ≤ A ∧ A < 2 ^ k ∧ u < 7 ∧ q_mem H A u ∧ q_bc A = l) ∧ (∀ A u, 1 ≤ A → A < 2 ^ k → u < 7 → q_mem H A u → q_bc A ≤ l) ∧ (∀ a, a ≠ 114 → D'.1 a = D.1 a) ∧ D'.2 = D.2
  | 0, S, best, m + 1, D, hi, hm, h1, hT, hb7, hx, hb, h113, hB => by
    obtain rfl : S = 2 ^ k := by omega
    have h7 : 2 ^ k ≤ 2 ^ 7 := Nat.pow_le_pow_right (by omega) hk
    refine ⟨best, D, ?_, hx, hb, fun _ _ => rfl, rfl⟩
    rw [m113_L40, (q_bb6 k (by omega)).2.2.2, if_pos (q_yle (by omega) (Nat.le_refl _))]
  | r + 1, S, best, m + 1, D, hi, hm, h1, hT, hb7, hx, hb, h113, hB => by
    obtain ⟨hS, hSk⟩ := q_full hk (show S < 2 ^ k by omega)
    have h7 : 2 ^ k ≤ 2 ^ 7 := Nat.pow_le_pow_right (by omega) hk
    have i128 : 0 ≤ Int32.ofNat S ∧ Int32.ofNat S < 128 := q_in (n := 128) (by omega) hS
    obtain ⟨D1, cur, g1, g2, g3, g4, g5, g6, g7⟩ := q113_62 (N := N) (H := H) (v3 := Int32.ofNat best) hk hH hS h1 hSk k 0 0 0 N (am_uI D 114 S 0) (by omega) (by omega) (fun A a1 a2 => by
      obtain ⟨q, q1, q2, q3⟩ := hT A a1 a2
      exact ⟨q, q1, by rw [q_uI_at, if_neg (by omega)]; exact q2, q3⟩) (q_uIs _ _ _ _) (by omega) (fun u _ => by
      rw [Nat.zero_testBit]
      exact ⟨fun q => absurd q (by decide), fun ⟨i', w, a1, _⟩ => absurd a1 (Nat.not_lt_zero _)⟩) (Nat.zero_add _) (fun j hj => by rw [q_uI_ne _ (by omega)]; exact h113 j hj) (by intro t ht; rw [q_uI_ne _ (by omega), q_uI_ne _ (by omega)]; exact hB t ht)
    have g1' : m113_L62 N (Int32.ofNat k) (Int32.ofNat best) (Int32.ofNat S) N (am_uI D 114 S 0) 0 0 = some (Int32.ofNat (q_bc S), D1) := g1
    have o6 : ∀ a, a ≠ 114 → D1.1 a = D.1 a := fun a ha => by rw [g6 a ha, q_uI_ne _ ha]
    have hT1 : q_tab H (S + 1) D1 := fun A a1 a2 => by
      by_cases c : A = S
      · subst c
        exact ⟨cur, g3, g2, g4⟩
      · obtain ⟨q, q1, q2, q3⟩ := hT A a1 (by omega)
        exact ⟨q, q1, by rw [g5 A c, q_uI_at, if_neg (fun q => c q.2)]; exact q2, q3⟩
    have hbc : q_bc S ≤ 7 := q_bcle S
    have go : ∀ best', best' ≤ 7 → (best' = 0 ∨ ∃ A u, 1 ≤ A ∧ A < S + 1 ∧ u < 7 ∧ q_mem H A u ∧ q_bc A = best') → (∀ A u, 1 ≤ A → A < S + 1 → u < 7 → q_mem H A u → q_bc A ≤ best') → ∃ l D', m113_L40 N (Int32.ofNat k) m D1 (Int32.ofNat best') (Int32.ofNat (S + 1)) = some (Int32.ofNat l, D') ∧ (l = 0 ∨ ∃ A u, 1 ≤ A ∧ A < 2 ^ k ∧ u < 7 ∧ q_mem H A u ∧ q_bc A = l) ∧ (∀ A u, 1 ≤ A → A < 2 ^ k → u < 7 → q_mem H A u → q_bc A ≤ l) ∧ (∀ a, a ≠ 114 → D'.1 a = D.1 a) ∧ D'.2 = D.2 := fun best' a0 a1 a2 => by
      obtain ⟨l, D', k1, k2, k3, k4, k5⟩ := q113_40 hN hk hH r (S + 1) best' m D1 (by omega) (by omega) (by omega) hT1 a0 a1 a2 (fun j hj => by rw [o6 113 (by omega)]; exact h113 j hj) (by intro t ht; rw [o6 109 (by omega), o6 110 (by omega)]; exact hB t ht)
      exact ⟨l, D', k1, k2, k3, fun a ha => by rw [k4 a ha, o6 a ha], by rw [k5, g7]; rfl⟩
    rw [m113_L40, (q_bb6 k (by omega)).2.2.2, if_neg (q_nle (by omega) (by omega)), if_pos i128, q_tn (show S < 2147483648 by omega)]
    simp only [am_lt]
    rw [g1', Option.bind_some, if_pos i128, g2, show Int32.ofNat S + 1 = Int32.ofNat (S + 1) from q_add S 1]
    by_cases c0 : cur = 0
    · subst c0
      have no : ∀ u, u < 7 → ¬ q_mem H S u := fun u hu q => by
        have := (g4 u hu).mpr q
        rw [Nat.zero_testBit] at this
        exact absurd this (by decide)
      rw [if_pos (show Int32.ofNat 0 = 0 from rfl)]
      refine go best hb7 ?_ (fun A u a1 a2 a3 a4 => ?_)
      · rcases hx with hx | ⟨A, u, a1, a2, a3⟩
        · exact Or.inl hx
        · exact Or.inr ⟨A, u, a1, by omega, a3⟩
      · by_cases c : A = S
        · subst c; exact absurd a4 (no u a3)
        · exact hb A u a1 (by omega) a3 a4
    · obtain ⟨u, hu, hm'⟩ : ∃ u, u < 7 ∧ q_mem H S u := by
        by_cases c : ∃ u, u < 7 ∧ cur.testBit u = true
        · obtain ⟨u, hu, q⟩ := c
          exact ⟨u, hu, (g4 u hu).mp q⟩
        · exact absurd (q_bext g3 (by omega) (fun j hj => by
            rw [Nat.zero_testBit]
            by_cases cj : cur.testBit j = true
            · exact absurd ⟨j, hj, cj⟩ c
            · simpa using cj)) c0
      rw [if_neg (show ¬ Int32.ofNat cur = 0 by rw [q_l0, q_eq (by omega) (by omega)]; exact c0)]
      by_cases c1 : q_bc S ≤ best
      · rw [if_pos (q_yle (by omega) c1)]
        refine go best hb7 ?_ (fun A u a1 a2 a3 a4 => ?_)
        · rcases hx with hx | ⟨A, u, a1, a2, a3⟩
          · exact Or.inl hx
          · exact Or.inr ⟨A, u, a1, by omega, a3⟩
        · by_cases c : A = S
          · subst c; exact c1
          · exact hb A u a1 (by omega) a3 a4
      · rw [if_neg (q_nle (by omega) (by omega))]
        refine go (q_bc S) hbc (Or.inr ⟨S, u, h1, by omega, hu, hm', rfl⟩) (fun A u a1 a2 a3 a4 => ?_)
        by_cases c : A = S
        · subst c; exact Nat.le_refl _
        · have := hb A u a1 (by omega) a3 a4
          omega
  | _, _, _, 0, _, _, hm, _, _, _, _, _, _, _ => by omega
end NC
