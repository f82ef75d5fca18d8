/-! begin, gather -/
section MD
variable {D : am_D}
theorem q_rf_at (D : am_D) (a n : Nat) (x : Int32) (b i : Nat) : (am_rfill D a n x).1 b i = if b = a then (if i < n then x else D.1 b i) else D.1 b i := by
  unfold am_rfill am_uR
  by_cases h : b = a
  · subst h; simp only [if_true]
  · simp only [h, if_false]
theorem q_rf_ne (D : am_D) {a n : Nat} {x : Int32} {b : Nat} (h : b ≠ a) : (am_rfill D a n x).1 b = D.1 b := by
  funext i
  rw [q_rf_at, if_neg h]
/-- all places together -/
theorem q_part {f : Nat → Int32} (h : ∀ t, t < 28 → ∃ w, w < 6 ∧ f t = Int32.ofNat w) : q_all (q_cnt f) + q_cnt f (Int32.ofNat 4) + q_cnt f (Int32.ofNat 5) = 28 := by
  have e : q_all (q_cnt f) = q_cnt f (Int32.ofNat 0) + (q_cnt f (Int32.ofNat 1) + (q_cnt f (Int32.ofNat 2) + (q_cnt f (Int32.ofNat 3) + 0))) := rfl
  rw [e]
  simp only [q_cnt_def]
  have k := q_S_const 1 28 0
  have g : q_S (fun _ => 1) 0 28 = q_S (fun t => ((((((if f t = Int32.ofNat 0 then 1 else 0) + (if f t = Int32.ofNat 1 then 1 else 0)) + (if f t = Int32.ofNat 2 then 1 else 0)) + (if f t = Int32.ofNat 3 then 1 else 0)) + (if f t = Int32.ofNat 4 then 1 else 0)) + (if f t = Int32.ofNat 5 then 1 else 0))) 0 28 := q_S_congr 28 0 (fun t _ ht => by
    obtain ⟨w, hw, e⟩ := h t (by omega)
    rw [e]
    obtain rfl | rfl | rfl | rfl | rfl | rfl : w = 0 ∨ w = 1 ∨ w = 2 ∨ w = 3 ∨ w = 4 ∨ w = 5 := by omega
    all_goals rfl)
  rw [q_S_add, q_S_add, q_S_add, q_S_add, q_S_add] at g
  omega
theorem q_cnt_0 {f : Nat → Int32} {v : Int32} : q_cnt f v = 0 ↔ ∀ t, t < 28 → f t ≠ v := by
  simp only [q_cnt_def]
  rw [q_S_zero]
  constructor
  · intro h t ht e
    have := h t (by omega) (by omega)
    rw [if_pos e] at this
    omega
  · intro h t _ ht
    rw [if_neg (h t (by omega))]
/-- a round is begun -/
theorem c_beg {c c' : Nat → Nat → Int32} {s s' : Nat → Int32} {n : Nat} {T V : Nat → Nat} (h : q_C4 c s n 0 T V) (h5 : ∀ t, t < 28 → s (25 + t) ≠ Int32.ofNat 5) {u : Nat} (hu : u < 4)
    (c1 : ∀ i j, 1 ≤ i → i ≤ 6 → c' i j = c i j) (c7 : ∀ j, j < 4 → c' 7 j = c 0 10) (c8 : ∀ j, j < 4 → c' 8 j = 0) (c9 : ∀ j, j < 4 → c' 9 j = 0) (c10 : ∀ j, c' 10 j = c 10 j)
    (k6 : c' 0 6 = 1) (k7 : c' 0 7 = Int32.ofNat u) (k8 : c' 0 8 = Int32.ofNat ((u + 1) % 4)) (k9 : c' 0 9 = q_nn) (k10 : c' 0 10 = c 0 10) (k11 : c' 0 11 = 0) (k12 : c' 0 12 = c 0 12 + 1) (k13 : c' 0 13 = c 0 13) (k14 : c' 0 14 = c 0 14) (k15 : c' 0 15 = c 0 15)
    (s0 : s' 0 = 1) (s1 : s' 1 = Int32.ofNat u) (s2 : s' 2 = Int32.ofNat ((u + 1) % 4)) (s3 : s' 3 = s 3) (s4 : s' 4 = 0) (s5 : s' 5 = q_nn) (s8 : s' 8 = s 8 + 1) (sx : ∀ k, k = 6 ∨ k = 7 ∨ (9 ≤ k ∧ k < 13) ∨ (25 ≤ k ∧ k < 165) → s' k = s k)
    (s13 : ∀ j, j < 4 → s' (13 + j) = s 3) (s17 : ∀ j, j < 4 → s' (17 + j) = 0) (s21 : ∀ j, j < 4 → s' (21 + j) = 0) : q_C4 c' s' n 1 T V := by
  obtain ⟨⟨e1, e2, e3, e4, e5⟩, ⟨v, f1, f2, f3⟩, g1, g2, g3, g4, g5, g6, g7, g8, g9, g10, g11, g12, g13, g14⟩ := h.2.2.2
  obtain ⟨w, w1, w2, w3⟩ := g6
  refine ⟨q_ch_w (fun i j h1 h2 _ => c1 i j h1 (by omega)) (fun k hk => sx k (by omega)) h.1, q_pl_w (fun j _ => c1 6 j (by omega) (by omega)) (fun k h1 h2 => sx k (by omega)) h.2.1, fun x hx => ?_, ⟨⟨by omega, s0, k6, fun q => by omega, fun _ t ht => ?_⟩, ⟨u, hu, s1, by rw [k7, if_pos rfl]⟩, Or.inr ⟨(u + 1) % 4, by omega, s2⟩, by rw [k8, s2], by rw [k9, s5], Or.inl s5, by rw [k10, s3]; exact g5, ⟨w, w1, w2, by rw [s3]; exact w3⟩, by rw [k11, s4], ⟨0, by omega, fun _ => by omega, s4⟩, by rw [k12, s8, g9], by rw [k13, sx 9 (by omega)]; exact g10, by rw [k14, sx 10 (by omega)]; exact g11, by rw [k15, sx 11 (by omega)]; exact g12, by rw [c10, sx 6 (by omega)]; exact g13, by rw [c10, sx 7 (by omega)]; exact g14⟩⟩
  · refine ⟨by rw [c7 x hx, s13 x hx]; exact g5, by rw [c8 x hx, s17 x hx], by rw [c9 x hx, s21 x hx], ⟨w, w2, by rw [s13 x hx]; exact w3⟩, ⟨0, by omega, s17 x hx⟩, ?_⟩
    rw [q_cnt_congr (g := fun t => s (25 + t)) (fun t ht => sx _ (by omega))]
    exact (h.2.2.1 x hx).2.2.2.2.2
  · rw [sx _ (by omega)]; exact h5 t ht
/-- the tiles are gathered -/
theorem c_gat {c c' : Nat → Nat → Int32} {s s' : Nat → Int32} {n p : Nat} {T V : Nat → Nat} (h : q_C4 c s n p T V) (hp : p ≠ 1)
    (c14 : c' 1 4 = 0) (c15 : c' 1 5 = q_nn) (c16 : c' 1 6 = q_nn) (c6 : ∀ j, j < 28 → c' 6 j = 5) (c7 : ∀ j, c' 7 j = c 7 j) (c8 : ∀ j, j < 4 → c' 8 j = 0) (c9 : ∀ j, c' 9 j = c 9 j) (c10 : ∀ j, c' 10 j = c 10 j)
    (k6 : c' 0 6 = 0) (k9 : c' 0 9 = q_nn) (kx : ∀ j, j = 7 ∨ j = 8 ∨ (10 ≤ j ∧ j < 16) → c' 0 j = c 0 j)
    (s0 : s' 0 = 0) (s5 : s' 5 = q_nn) (s12 : s' 12 = 0) (s17 : ∀ j, j < 4 → s' (17 + j) = 0) (s25 : ∀ j, j < 28 → s' (25 + j) = 5) (sx : ∀ k, (1 ≤ k ∧ k ≤ 4) ∨ (6 ≤ k ∧ k ≤ 11) ∨ (13 ≤ k ∧ k < 17) ∨ (21 ≤ k ∧ k < 25) → s' k = s k) : q_C4 c' s' 0 0 T V := by
  obtain ⟨⟨e1, e2, e3, e4, e5⟩, ⟨v, f1, f2, f3⟩, g1, g2, g3, g4, g5, ⟨w, w1, w2, w3⟩, g7, ⟨r, r1, r2, r3⟩, g9, g10, g11, g12, g13, g14⟩ := h.2.2.2
  refine ⟨⟨by omega, s12, c14, fun k hk => by omega, fun j k hj => by omega, fun t ht => ?_, by rw [c15, if_pos rfl], by rw [c16, if_pos rfl]⟩, fun t ht => ⟨by rw [c6 t ht, s25 t ht], 5, by omega, s25 t ht⟩, fun x hx => ?_, ⟨⟨by omega, s0, k6, fun _ => rfl, fun q => absurd rfl q⟩, ⟨v, f1, by rw [sx 1 (by omega)]; exact f2, by rw [kx 7 (by omega), f3, if_neg hp, if_neg (by omega)]⟩, ?_, by rw [kx 8 (by omega), sx 2 (by omega)]; exact g2, by rw [k9, s5], Or.inl s5, by rw [kx 10 (by omega), sx 3 (by omega)]; exact g5, ⟨w, w1, w2, by rw [sx 3 (by omega)]; exact w3⟩, by rw [kx 11 (by omega), sx 4 (by omega)]; exact g7, ⟨r, r1, fun q => by omega, by rw [sx 4 (by omega)]; exact r3⟩, by rw [kx 12 (by omega), sx 8 (by omega)]; exact g9, by rw [kx 13 (by omega), sx 9 (by omega)]; exact g10, by rw [kx 14 (by omega), sx 10 (by omega)]; exact g11, by rw [kx 15 (by omega), sx 11 (by omega)]; exact g12, by rw [c10, sx 6 (by omega)]; exact g13, by rw [c10, sx 7 (by omega)]; exact g14⟩⟩
  · rw [s25 t ht]
    exact ⟨fun q => absurd q (by decide), fun ⟨k, hk, _⟩ => by omega⟩
  · obtain ⟨d1, d2, d3, d4, d5, d6⟩ := h.2.2.1 x hx
    refine ⟨by rw [c7, sx _ (by omega)]; exact d1, by rw [c8 x hx, s17 x hx], by rw [c9, sx _ (by omega)]; exact d3, by rw [sx _ (by omega)]; exact d4, ⟨0, by omega, s17 x hx⟩, ?_⟩
    rw [q_cnt_0.mpr (fun t ht => by rw [s25 t ht, q_l5]; intro q; have := q_ofN (by omega) (by omega) q; omega)]
    omega
  · rw [sx 2 (by omega)]
    rcases g1 with ⟨g, -⟩ | g
    · exact Or.inl ⟨g, by omega⟩
    · exact Or.inr g
theorem q82_L {N : Nat} {v : Int32} : ∀ (k i m : Nat) (E : am_D), i + k = 4 → k < m → ∃ E', m82_L108 N v m E (Int32.ofNat i) = some E' ∧ (∀ a, a ≠ 107 → E'.1 a = E.1 a) ∧ E'.2 = E.2 ∧ ∀ j, E'.1 107 j = if 13 + i ≤ j ∧ j < 17 then E.1 107 3 else if (17 + i ≤ j ∧ j < 21) ∨ (21 + i ≤ j ∧ j < 25) then 0 else E.1 107 j
  | 0, i, m + 1, E, hi, hm => by
    obtain rfl : i = 4 := by omega
    rw [m82_L108]
    simp (disch := omega) only [q_l0, q_l1, q_l2, q_l3, q_l4, q_l5, q_l6, q_l7, q_l8, q_l9, q_l10, q_l13, q_l15, q_l17, q_l18, q_l19, q_l21, q_l22, q_l23, q_l25, q_l27, q_l28, q_l31, q_l33, q_l41, q_l43, q_l44, q_l45, q_l48, q_l49, q_l51, q_l52, q_l53, q_l54, q_l56, q_l57, q_l58, q_l59, q_l60, q_l62, q_l63, q_l64, q_l73, q_l81, q_l99, q_l108, q_l109, q_l112, q_l116, q_l126, q_l127, q_l128, q_l137, q_l165, q_l484, q_l1023, q_l1320, q_l4095, q_l4096, q_lm, am_lt, q_le, q_lt, q_tn, q_add, q_ite, Nat.zero_le, and_self, true_and, and_true, if_true, if_false, ite_self, Nat.le_refl]
    exact ⟨E, rfl, fun _ _ => rfl, rfl, fun j => by rw [if_neg (by omega), if_neg (by omega)]⟩
  | k + 1, i, m + 1, E, hi, hm => by
    have h1 : ¬ 4 ≤ i := by omega
    have h2 : 13 + i < 1320 := by omega
    have h3 : 17 + i < 1320 := by omega
    have h4 : 21 + i < 1320 := by omega
    rw [m82_L108]
    simp (disch := omega) only [q_l0, q_l1, q_l2, q_l3, q_l4, q_l5, q_l6, q_l7, q_l8, q_l9, q_l10, q_l13, q_l15, q_l17, q_l18, q_l19, q_l21, q_l22, q_l23, q_l25, q_l27, q_l28, q_l31, q_l33, q_l41, q_l43, q_l44, q_l45, q_l48, q_l49, q_l51, q_l52, q_l53, q_l54, q_l56, q_l57, q_l58, q_l59, q_l60, q_l62, q_l63, q_l64, q_l73, q_l81, q_l99, q_l108, q_l109, q_l112, q_l116, q_l126, q_l127, q_l128, q_l137, q_l165, q_l484, q_l1023, q_l1320, q_l4095, q_l4096, q_lm, am_lt, q_le, q_lt, q_tn, q_add, q_ite, Nat.zero_le, and_self, true_and, and_true, if_true, if_false, ite_self, h1, h2, h3, h4]
    obtain ⟨E', e1, e2, e3, e4⟩ := q82_L k (i + 1) m (am_uI (am_uI (am_uI E 107 (13 + i) (E.1 107 3)) 107 (17 + i) (Int32.ofNat 0)) 107 (21 + i) (Int32.ofNat 0)) (by omega) (by omega)
    refine ⟨E', e1, fun a ha => by rw [e2 a ha, q_uI_ne _ ha, q_uI_ne _ ha, q_uI_ne _ ha], e3, fun j => ?_⟩
    rw [e4 j]
    simp only [q_uI_at, true_and]
    have z : (Int32.ofNat 0) = 0 := rfl
    rw [z]
    by_cases c1 : j = 13 + i
    · subst c1
      rw [if_neg (by omega), if_neg (by omega), if_neg (by omega), if_neg (by omega), if_pos rfl, if_pos (by omega)]
    · by_cases c2 : j = 17 + i
      · subst c2
        rw [if_neg (by omega), if_neg (by omega), if_neg (by omega), if_pos rfl, if_neg (by omega), if_pos (by omega)]
      · by_cases c3 : j = 21 + i
        · subst c3
          rw [if_neg (by omega), if_neg (by omega), if_pos rfl, if_neg (by omega), if_pos (by omega)]
        · simp only [c1, c2, c3, if_false]
          rw [if_neg (show ¬ 3 = 21 + i by omega), if_neg (show ¬ 3 = 17 + i by omega), if_neg (show ¬ 3 = 13 + i by omega)]
          by_cases d1 : 13 + i ≤ j ∧ j < 17
          · rw [if_pos d1, if_pos (by omega)]
          · rw [if_neg d1, if_neg (by omega)]
            by_cases d2 : (17 + i ≤ j ∧ j < 21) ∨ (21 + i ≤ j ∧ j < 25)
            · rw [if_pos d2, if_pos (by omega)]
            · rw [if_neg d2, if_neg (by omega)]
  | _, _, 0, _, _, hm => by omega
end MD
