/-! what a copy leaves; saving and restoring -/
/-- the cells that a table's content is in -/
def q_w (i j : Nat) : Prop := (i = 0 ∧ 6 ≤ j ∧ j < 16) ∨ (i = 1 ∧ 4 ≤ j ∧ j < 7) ∨ (2 ≤ i ∧ i ≤ 6 ∧ j < 28) ∨ (7 ≤ i ∧ i ≤ 9 ∧ j < 4) ∨ (i = 10 ∧ j < 2)
theorem q_C4_w {c c' : Nat → Nat → Int32} {s s' : Nat → Int32} {n p : Nat} {T V : Nat → Nat} (hc : ∀ i j, q_w i j → c' i j = c i j) (hs : ∀ k, k < 165 → s' k = s k) (h : q_C4 c s n p T V) : q_C4 c' s' n p T V := by
  unfold q_w at hc
  obtain ⟨⟨a1, a2, a3, a4, a5, a6, a7, a8⟩, b, d, ⟨⟨e1, e2, e3, e4, e5⟩, ⟨u, f1, f2, f3⟩, g1, g2, g3, g4, g5, g6, g7, g8, g9, g10, g11, g12, g13, g14⟩⟩ := h
  refine ⟨⟨a1, ?_, ?_, ?_, a5, ?_, ?_, ?_⟩, ?_, ?_, ⟨⟨e1, ?_, ?_, e4, ?_⟩, ⟨u, f1, ?_, ?_⟩, ?_, ?_, ?_, ?_, ?_, ?_, ?_, ?_, ?_, ?_, ?_, ?_, ?_, ?_⟩⟩
  · rw [hs _ (by omega)]; exact a2
  · rw [hc _ _ (by omega)]; exact a3
  · intro k hk
    obtain ⟨k1, k2, k3, k4, k5, k6, k7, k8⟩ := a4 k hk
    refine ⟨k1, k2, ?_, ?_, ?_, ?_, ?_, ?_⟩
    · rw [hs _ (by omega)]; exact k3
    · rw [hs _ (by omega)]; exact k4
    · rw [hc _ _ (by omega)]; exact k5
    · rw [hc _ _ (by omega)]; exact k6
    · rw [hc _ _ (by omega), hs _ (by omega)]; exact k7
    · rw [hc _ _ (by omega), hs _ (by omega)]; exact k8
  · intro t ht
    rw [hs _ (by omega)]; exact a6 t ht
  · rw [hc _ _ (by omega)]; exact a7
  · rw [hc _ _ (by omega)]; exact a8
  · intro t ht
    rw [hc _ _ (by omega), hs _ (by omega)]; exact b t ht
  · intro x hx
    rw [hc _ _ (by omega), hc _ _ (by omega), hc _ _ (by omega), hs _ (by omega), hs _ (by omega), hs _ (by omega)]
    obtain ⟨d1, d2, d3, d4, d5, d6⟩ := d x hx
    refine ⟨d1, d2, d3, d4, d5, ?_⟩
    rw [q_cnt_congr (g := fun t => s (25 + t)) (fun t ht => hs _ (by omega))]
    exact d6
  · rw [hs _ (by omega)]; exact e2
  · rw [hc _ _ (by omega)]; exact e3
  · intro hp t ht
    rw [hs _ (by omega)]; exact e5 hp t ht
  · rw [hs _ (by omega)]; exact f2
  · rw [hc _ _ (by omega)]; exact f3
  · rw [hs _ (by omega)]; exact g1
  · rw [hc _ _ (by omega), hs _ (by omega)]; exact g2
  · rw [hc _ _ (by omega), hs _ (by omega)]; exact g3
  · rw [hs _ (by omega)]; exact g4
  · rw [hc _ _ (by omega), hs _ (by omega)]; exact g5
  · rw [hs _ (by omega)]; exact g6
  · rw [hc _ _ (by omega), hs _ (by omega)]; exact g7
  · rw [hs _ (by omega)]; exact g8
  · rw [hc _ _ (by omega), hs _ (by omega)]; exact g9
  · rw [hc _ _ (by omega), hs _ (by omega)]; exact g10
  · rw [hc _ _ (by omega), hs _ (by omega)]; exact g11
  · rw [hc _ _ (by omega), hs _ (by omega)]; exact g12
  · rw [hc _ _ (by omega), hs _ (by omega)]; exact g13
  · rw [hc _ _ (by omega), hs _ (by omega)]; exact g14
theorem q_C_w {c c' : Nat → Nat → Int32} {s s' : Nat → Int32} (hc : ∀ i j, q_w i j → c' i j = c i j) (hs : ∀ k, k < 165 → s' k = s k) (h : q_C c s) : q_C c' s' := by
  obtain ⟨n, p, T, V, h⟩ := h
  exact ⟨n, p, T, V, q_C4_w hc hs h⟩
theorem q_rc_at (D : am_D) (a b n c i : Nat) : (am_rcopy D a b n n).1 c i = if c = b then (if i < n then D.1 a i else D.1 b i) else D.1 c i := by
  unfold am_rcopy am_uR va_cpy
  rw [Nat.min_self]
  by_cases h : c = b
  · subst h
    simp only [if_true, Nat.zero_le, true_and, Nat.zero_add, Nat.sub_zero]
  · simp only [h, if_false]
def q_cs (b1 b0 : Nat) (S : Nat → Nat → Prop) (D E : am_D) : Prop := (∀ a, a < b1 ∨ b1 + 10 < a → E.1 a = D.1 a) ∧ (∀ i j, i ≤ 10 → S i j → E.1 (b1 + i) j = D.1 (b0 + i) j) ∧ E.2 = D.2
theorem q_cs_rc {b1 b0 : Nat} {S : Nat → Nat → Prop} {D E : am_D} (h : b0 + 11 ≤ b1 ∨ b1 + 11 ≤ b0) (k : q_cs b1 b0 S D E) (i0 n : Nat) (hi : i0 ≤ 10) : q_cs b1 b0 (fun i j => S i j ∨ (i = i0 ∧ j < n)) D (am_rcopy E (b0 + i0) (b1 + i0) n n) := by
  refine ⟨fun a ha => ?_, fun i j hij hS => ?_, k.2.2⟩
  · rw [← k.1 a ha]
    funext i
    rw [q_rc_at, if_neg (by omega)]
  · rw [q_rc_at]
    by_cases hc : i = i0
    · subst hc
      rw [if_pos rfl]
      by_cases hj : j < n
      · rw [if_pos hj, k.1 (b0 + i) (by omega)]
      · rw [if_neg hj]
        exact k.2.1 i j hij (hS.resolve_right (fun q => hj q.2))
    · rw [if_neg (by omega)]
      exact k.2.1 i j hij (hS.resolve_right (fun q => hc q.1))
theorem q_cs_uI {b1 b0 : Nat} {S : Nat → Nat → Prop} {D E : am_D} (h : b0 + 11 ≤ b1 ∨ b1 + 11 ≤ b0) (k : q_cs b1 b0 S D E) (i0 j0 : Nat) (hi : i0 ≤ 10) : q_cs b1 b0 (fun i j => S i j ∨ (i = i0 ∧ j = j0)) D (am_uI E (b1 + i0) j0 (E.1 (b0 + i0) j0)) := by
  refine ⟨fun a ha => ?_, fun i j hij hS => ?_, k.2.2⟩
  · rw [← k.1 a ha]
    funext i
    show (if a = b1 + i0 ∧ i = j0 then _ else E.1 a i) = _
    rw [if_neg (by omega)]
  · show (if b1 + i = b1 + i0 ∧ j = j0 then E.1 (b0 + i0) j0 else E.1 (b1 + i) j) = _
    by_cases hc : i = i0 ∧ j = j0
    · obtain ⟨rfl, rfl⟩ := hc
      rw [if_pos ⟨rfl, rfl⟩, k.1 (b0 + i) (by omega)]
    · rw [if_neg (by omega)]
      exact k.2.1 i j hij (hS.resolve_right hc)
theorem q_cs_lt {b1 b0 : Nat} {S S' : Nat → Nat → Prop} {D e : am_D} {f : am_D → am_D} (k : q_cs b1 b0 S' D e) (h : ∀ E, q_cs b1 b0 S' D E → q_cs b1 b0 S D (f E)) : q_cs b1 b0 S D (am_lt e f) := h e k
theorem q_cs_mono {b1 b0 : Nat} {S S' : Nat → Nat → Prop} {D E : am_D} (k : q_cs b1 b0 S' D E) (h : ∀ i j, S i j → S' i j) : q_cs b1 b0 S D E := ⟨k.1, fun i j hi hS => k.2.1 i j hi (h i j hS), k.2.2⟩
theorem q_cyc_cs {b1 b0 : Nat} (D : am_D) (h : b0 + 11 ≤ b1 ∨ b1 + 11 ≤ b0) : q_cs b1 b0 (fun i j => (i = 1 ∧ 4 ≤ j ∧ j < 7) ∨ (2 ≤ i ∧ i ≤ 5 ∧ j < 28)) D (q_cyc (b1 + 1) (b0 + 1) D) := by
  have k0 : q_cs b1 b0 (fun _ _ => False) D D := ⟨fun _ _ => rfl, fun _ _ _ q => q.elim, rfl⟩
  unfold q_cyc
  refine q_cs_lt (q_cs_rc h k0 2 28 (by omega)) (fun E0 k1 => ?_)
  refine q_cs_lt (q_cs_rc h k1 3 28 (by omega)) (fun E1 k2 => ?_)
  refine q_cs_lt (q_cs_rc h k2 4 28 (by omega)) (fun E2 k3 => ?_)
  refine q_cs_lt (q_cs_rc h k3 5 28 (by omega)) (fun E3 k4 => ?_)
  refine q_cs_lt (q_cs_uI h k4 1 4 (by omega)) (fun E4 k5 => ?_)
  refine q_cs_lt (q_cs_uI h k5 1 5 (by omega)) (fun E5 k6 => ?_)
  refine q_cs_lt (q_cs_uI h k6 1 6 (by omega)) (fun E6 k7 => ?_)
  refine q_cs_mono k7 (fun i j hw => ?_)
  rcases hw with ⟨rfl, h1, h2⟩ | ⟨h1, h2, h3⟩
  · have : j = 4 ∨ j = 5 ∨ j = 6 := by omega
    rcases this with rfl | rfl | rfl <;> simp
  · have : i = 2 ∨ i = 3 ∨ i = 4 ∨ i = 5 := by omega
    rcases this with rfl | rfl | rfl | rfl <;> simp [h3]
theorem q_cy_cs {b1 b0 : Nat} (D : am_D) (h : b0 + 11 ≤ b1 ∨ b1 + 11 ≤ b0) : q_cs b1 b0 q_w D (q_cy b1 b0 D) := by
  unfold q_cy
  refine q_cs_lt (q_cyc_cs D h) (fun E k0 => ?_)
  refine q_cs_lt (q_cs_rc h k0 6 28 (by omega)) (fun E0 k1 => ?_)
  refine q_cs_lt (q_cs_rc h k1 7 4 (by omega)) (fun E1 k2 => ?_)
  refine q_cs_lt (q_cs_rc h k2 8 4 (by omega)) (fun E2 k3 => ?_)
  refine q_cs_lt (q_cs_rc h k3 9 4 (by omega)) (fun E3 k4 => ?_)
  refine q_cs_lt (q_cs_rc h k4 10 2 (by omega)) (fun E4 k5 => ?_)
  refine q_cs_lt (q_cs_uI h k5 0 6 (by omega)) (fun E5 k6 => ?_)
  refine q_cs_lt (q_cs_uI h k6 0 7 (by omega)) (fun E6 k7 => ?_)
  refine q_cs_lt (q_cs_uI h k7 0 8 (by omega)) (fun E7 k8 => ?_)
  refine q_cs_lt (q_cs_uI h k8 0 9 (by omega)) (fun E8 k9 => ?_)
  refine q_cs_lt (q_cs_uI h k9 0 10 (by omega)) (fun E9 k10 => ?_)
  refine q_cs_lt (q_cs_uI h k10 0 11 (by omega)) (fun E10 k11 => ?_)
  refine q_cs_lt (q_cs_uI h k11 0 12 (by omega)) (fun E11 k12 => ?_)
  refine q_cs_lt (q_cs_uI h k12 0 13 (by omega)) (fun E12 k13 => ?_)
  refine q_cs_lt (q_cs_uI h k13 0 14 (by omega)) (fun E13 k14 => ?_)
  refine q_cs_lt (q_cs_uI h k14 0 15 (by omega)) (fun E14 k15 => ?_)
  refine q_cs_mono k15 (fun i j hw => ?_)
  unfold q_w at hw
  rcases hw with ⟨rfl, h1, h2⟩ | ⟨rfl, h1, h2⟩ | ⟨h1, h2, h3⟩ | ⟨h1, h2, h3⟩ | ⟨rfl, h1⟩
  · have : j = 6 ∨ j = 7 ∨ j = 8 ∨ j = 9 ∨ j = 10 ∨ j = 11 ∨ j = 12 ∨ j = 13 ∨ j = 14 ∨ j = 15 := by omega
    rcases this with rfl | rfl | rfl | rfl | rfl | rfl | rfl | rfl | rfl | rfl <;> simp
  · simp [h1, h2]
  · have : i = 2 ∨ i = 3 ∨ i = 4 ∨ i = 5 ∨ i = 6 := by omega
    rcases this with rfl | rfl | rfl | rfl | rfl <;> simp [h3]
  · have : i = 7 ∨ i = 8 ∨ i = 9 := by omega
    rcases this with rfl | rfl | rfl <;> simp [h3]
  · simp [h1]
/-- what the class's saving does -/
def q_svC (D D1 : am_D) : Prop := ∃ o m o' m' pl, o < 6 ∧ m ≤ 6 ∧ D.1 23 1 = Int32.ofNat o ∧ D.1 23 2 = Int32.ofNat m ∧ o' = (if m < 6 then o else (o + 1) % 6) ∧ m' = (if m < 6 then m + 1 else 6) ∧ pl = (o' + (m' - 1)) % 6 ∧ D1.1 23 1 = Int32.ofNat o' ∧ D1.1 23 2 = Int32.ofNat m' ∧ (∀ i j, i ≤ 10 → q_w i j → D1.1 (25 + 11 * pl + i) j = D.1 (1 + i) j) ∧ (∀ a, a ≠ 23 → (a < 25 + 11 * pl ∨ 25 + 11 * pl + 10 < a) → D1.1 a = D.1 a) ∧ D1.2 = D.2
theorem q170 {D : am_D} {o k : Nat} (ho : o < 6) (hk : k < 6) (h : D.1 23 1 = Int32.ofNat o) : m170 D (Int32.ofNat k) = some ((o + k) % 6) := by
  have e : (o + k) % 6 < 6 := by omega
  unfold m170
  rw [h]
  simp (disch := omega) only [q_l0, q_l1, q_l2, q_l3, q_l4, q_l5, q_l6, q_l7, q_l8, q_l9, q_l10, q_l13, q_l15, q_l17, q_l18, q_l19, q_l21, q_l22, q_l23, q_l25, q_l27, q_l28, q_l31, q_l33, q_l41, q_l43, q_l44, q_l45, q_l48, q_l49, q_l51, q_l52, q_l53, q_l54, q_l56, q_l57, q_l58, q_l59, q_l60, q_l62, q_l63, q_l64, q_l73, q_l81, q_l99, q_l108, q_l109, q_l112, q_l116, q_l126, q_l127, q_l128, q_l137, q_l165, q_l484, q_l1023, q_l1320, q_l4095, q_l4096, q_lm, am_lt, q_le, q_lt, q_tn, q_add, q_ite, Nat.zero_le, and_self, true_and, and_true, if_true, if_false, ite_self, q_mod, e]
theorem q_uI_at (D : am_D) (a j : Nat) (x : Int32) (b i : Nat) : (am_uI D a j x).1 b i = if b = a ∧ i = j then x else D.1 b i := rfl
theorem q_uI_ne (D : am_D) {a j : Nat} {x : Int32} {b : Nat} (h : b ≠ a) : (am_uI D a j x).1 b = D.1 b := by
  funext i
  rw [q_uI_at, if_neg (fun q => h q.1)]
theorem q168_fin {E : am_D} {o' k : Nat} (ho : o' < 6) (hk : k < 6) (h1 : E.1 23 1 = Int32.ofNat o') (h2 : E.1 23 2 = Int32.ofNat k) : ∃ D1, ((m170 E (E.1 23 2)).bind fun q9 => (if q9 = 0 then (am_lt (m202_25_1 E) fun q12 => (am_lt (am_uI q12 23 2 ((q12.1 23 2) + (1 : Int32))) fun D14 => (some D14))) else (if q9 = 1 then (am_lt (m202_36_1 E) fun q17 => (am_lt (am_uI q17 23 2 ((q17.1 23 2) + (1 : Int32))) fun D19 => (some D19))) else (if q9 = 2 then (am_lt (m202_47_1 E) fun q22 => (am_lt (am_uI q22 23 2 ((q22.1 23 2) + (1 : Int32))) fun D24 => (some D24))) else (if q9 = 3 then (am_lt (m202_58_1 E) fun q27 => (am_lt (am_uI q27 23 2 ((q27.1 23 2) + (1 : Int32))) fun D29 => (some D29))) else (if q9 = 4 then (am_lt (m202_69_1 E) fun q32 => (am_lt (am_uI q32 23 2 ((q32.1 23 2) + (1 : Int32))) fun D34 => (some D34))) else (if q9 = 5 then (am_lt (m202_80_1 E) fun q37 => (am_lt (am_uI q37 23 2 ((q37.1 23 2) + (1 : Int32))) fun D39 => (some D39))) else none))))))) = some D1 ∧ D1.1 23 1 = Int32.ofNat o' ∧ D1.1 23 2 = Int32.ofNat (k + 1) ∧ (∀ i j, i ≤ 10 → q_w i j → D1.1 (25 + 11 * ((o' + k) % 6) + i) j = E.1 (1 + i) j) ∧ (∀ a, a ≠ 23 → (a < 25 + 11 * ((o' + k) % 6) ∨ 25 + 11 * ((o' + k) % 6) + 10 < a) → D1.1 a = E.1 a) ∧ D1.2 = E.2 := by
  have fin : ∀ b, 25 ≤ b → ∀ F, q_cs b 1 q_w E F → (am_uI F 23 2 (F.1 23 2 + 1)).1 23 1 = Int32.ofNat o' ∧ (am_uI F 23 2 (F.1 23 2 + 1)).1 23 2 = Int32.ofNat (k + 1) ∧ (∀ i j, i ≤ 10 → q_w i j → (am_uI F 23 2 (F.1 23 2 + 1)).1 (b + i) j = E.1 (1 + i) j) ∧ (∀ a, a ≠ 23 → (a < b ∨ b + 10 < a) → (am_uI F 23 2 (F.1 23 2 + 1)).1 a = E.1 a) ∧ (am_uI F 23 2 (F.1 23 2 + 1)).2 = E.2 := by
    intro b hb F hF
    refine ⟨?_, ?_, fun i j hi hw => ?_, fun a ha hb' => ?_, hF.2.2⟩
    · rw [q_uI_at, if_neg (by omega), hF.1 23 (by omega)]; exact h1
    · rw [q_uI_at, if_pos ⟨rfl, rfl⟩, hF.1 23 (by omega), h2]; exact q_add k 1
    · rw [q_uI_ne _ (by omega)]; exact hF.2.1 i j hi hw
    · rw [q_uI_ne _ ha]; exact hF.1 a hb'
  rw [h2, q170 ho hk h1, Option.bind_some, q202_25_1, q202_36_1, q202_47_1, q202_58_1, q202_69_1, q202_80_1]
  have c : (o' + k) % 6 = 0 ∨ (o' + k) % 6 = 1 ∨ (o' + k) % 6 = 2 ∨ (o' + k) % 6 = 3 ∨ (o' + k) % 6 = 4 ∨ (o' + k) % 6 = 5 := by omega
  rcases c with c | c | c | c | c | c <;> rw [c]
  · exact ⟨_, rfl, fin 25 (by omega) _ (q_cy_cs E (by omega))⟩
  · exact ⟨_, rfl, fin 36 (by omega) _ (q_cy_cs E (by omega))⟩
  · exact ⟨_, rfl, fin 47 (by omega) _ (q_cy_cs E (by omega))⟩
  · exact ⟨_, rfl, fin 58 (by omega) _ (q_cy_cs E (by omega))⟩
  · exact ⟨_, rfl, fin 69 (by omega) _ (q_cy_cs E (by omega))⟩
  · exact ⟨_, rfl, fin 80 (by omega) _ (q_cy_cs E (by omega))⟩
theorem q168 {D : am_D} {o m : Nat} (ho : o < 6) (hm : m ≤ 6) (h1 : D.1 23 1 = Int32.ofNat o) (h2 : D.1 23 2 = Int32.ofNat m) : ∃ D1, m168 D = some D1 ∧ q_svC D D1 := by
  unfold m168
  by_cases hc : m < 6
  · have e : D.1 23 2 < 6 := by rw [h2]; exact q_ylt (b := 6) (by omega) hc
    obtain ⟨D1, k1, k2, k3, k4, k5, k6⟩ := q168_fin (E := D) ho hc h1 h2
    refine ⟨D1, ?_, o, m, o, m + 1, (o + m) % 6, ho, hm, h1, h2, by rw [if_pos hc], by rw [if_pos hc], by simp, k2, k3, k4, k5, k6⟩
    rw [if_pos e]
    exact k1
  · obtain rfl : m = 6 := by omega
    have e : ¬ D.1 23 2 < 6 := by rw [h2]; decide
    have g1 : (am_uI (am_uI D 23 1 (((D.1 23 1) + (1 : Int32)) - ((D.1 23 1) + (1 : Int32)) / (6 : Int32) * (6 : Int32))) 23 2 (((am_uI D 23 1 (((D.1 23 1) + (1 : Int32)) - ((D.1 23 1) + (1 : Int32)) / (6 : Int32) * (6 : Int32))).1 23 2) - (1 : Int32))).1 23 1 = Int32.ofNat ((o + 1) % 6) := by
      rw [q_uI_at, if_neg (by omega), q_uI_at, if_pos ⟨rfl, rfl⟩, h1]
      simp (disch := omega) only [q_l0, q_l1, q_l2, q_l3, q_l4, q_l5, q_l6, q_l7, q_l8, q_l9, q_l10, q_l13, q_l15, q_l17, q_l18, q_l19, q_l21, q_l22, q_l23, q_l25, q_l27, q_l28, q_l31, q_l33, q_l41, q_l43, q_l44, q_l45, q_l48, q_l49, q_l51, q_l52, q_l53, q_l54, q_l56, q_l57, q_l58, q_l59, q_l60, q_l62, q_l63, q_l64, q_l73, q_l81, q_l99, q_l108, q_l109, q_l112, q_l116, q_l126, q_l127, q_l128, q_l137, q_l165, q_l484, q_l1023, q_l1320, q_l4095, q_l4096, q_lm, am_lt, q_le, q_lt, q_tn, q_add, q_ite, Nat.zero_le, and_self, true_and, and_true, if_true, if_false, ite_self, q_mod]
    have g2 : (am_uI (am_uI D 23 1 (((D.1 23 1) + (1 : Int32)) - ((D.1 23 1) + (1 : Int32)) / (6 : Int32) * (6 : Int32))) 23 2 (((am_uI D 23 1 (((D.1 23 1) + (1 : Int32)) - ((D.1 23 1) + (1 : Int32)) / (6 : Int32) * (6 : Int32))).1 23 2) - (1 : Int32))).1 23 2 = Int32.ofNat 5 := by
      rw [q_uI_at, if_pos ⟨rfl, rfl⟩, q_uI_at, if_neg (by omega), h2]
      rfl
    obtain ⟨D1, k1, k2, k3, k4, k5, k6⟩ := q168_fin (k := 5) (by omega) (by omega) g1 g2
    refine ⟨D1, ?_, o, 6, (o + 1) % 6, 6, ((o + 1) % 6 + 5) % 6, ho, hm, h1, h2, by rw [if_neg hc], by rw [if_neg hc], by simp, k2, k3, fun i j hi hw => ?_, fun a ha hb => ?_, k6⟩
    · rw [if_neg e]
      exact k1
    · rw [k4 i j hi hw, q_uI_ne _ (by omega), q_uI_ne _ (by omega)]
    · rw [k5 a ha hb, q_uI_ne _ ha, q_uI_ne _ ha]
