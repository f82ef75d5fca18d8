/-! set, clock, tick, give -/
section MA
variable {D : am_D}
/-- a place of two rows is written -/
def q_up (c : Nat → Nat → Int32) (a b : Nat) (x : Int32) : Nat → Nat → Int32 := fun i j => if i = a ∧ j = b then x else c i j
theorem q_up_ne {c : Nat → Nat → Int32} {a b i j : Nat} {x : Int32} (h : i ≠ a ∨ j ≠ b) : q_up c a b x i j = c i j := if_neg (by omega)
theorem q_up_s {c : Nat → Nat → Int32} {a b : Nat} {x : Int32} : q_up c a b x a b = x := if_pos ⟨rfl, rfl⟩
theorem q_ud_ne {s : Nat → Int32} {a i : Nat} {x : Int32} (h : i ≠ a) : upd s a x i = s i := if_neg h
theorem q_ud_s {s : Nat → Int32} {a : Nat} {x : Int32} : upd s a x a = x := if_pos rfl
variable {c c' : Nat → Nat → Int32} {s s' : Nat → Int32} {n p : Nat} {T V : Nat → Nat}
theorem q_ch_w (hc : ∀ i j, 1 ≤ i → i ≤ 5 → q_w i j → c' i j = c i j) (hs : ∀ k, k = 12 ∨ (25 ≤ k ∧ k < 165) → s' k = s k) (h : q_ch c s n T V) : q_ch c' s' n T V := by
  unfold q_w at hc
  obtain ⟨a1, a2, a3, a4, a5, a6, a7, a8⟩ := h
  refine ⟨a1, ?_, ?_, ?_, a5, ?_, ?_, ?_⟩
  · rw [hs _ (by omega)]; exact a2
  · rw [hc _ _ (by omega) (by omega) (by omega)]; exact a3
  · intro k hk
    obtain ⟨k1, k2, k3, k4, k5, k6, k7, k8⟩ := a4 k hk
    refine ⟨k1, k2, ?_, ?_, ?_, ?_, ?_, ?_⟩
    · rw [hs _ (by omega)]; exact k3
    · rw [hs _ (by omega)]; exact k4
    · rw [hc _ _ (by omega) (by omega) (by omega)]; exact k5
    · rw [hc _ _ (by omega) (by omega) (by omega)]; exact k6
    · rw [hc _ _ (by omega) (by omega) (by omega), hs _ (by omega)]; exact k7
    · rw [hc _ _ (by omega) (by omega) (by omega), hs _ (by omega)]; exact k8
  · intro t ht
    rw [hs _ (by omega)]; exact a6 t ht
  · rw [hc _ _ (by omega) (by omega) (by omega)]; exact a7
  · rw [hc _ _ (by omega) (by omega) (by omega)]; exact a8
theorem q_pl_w (hc : ∀ j, j < 28 → c' 6 j = c 6 j) (hs : ∀ k, 25 ≤ k → k < 53 → s' k = s k) (h : q_pl c s) : q_pl c' s' := by
  intro t ht
  rw [hc _ ht, hs _ (by omega) (by omega)]; exact h t ht
theorem q_hd_w (hc : ∀ i j, 7 ≤ i → i ≤ 9 → j < 4 → c' i j = c i j) (hs : ∀ k, 13 ≤ k → k < 53 → s' k = s k) (h : q_hd c s) : q_hd c' s' := by
  intro x hx
  rw [hc _ _ (by omega) (by omega) hx, hc _ _ (by omega) (by omega) hx, hc _ _ (by omega) (by omega) hx, hs _ (by omega) (by omega), hs _ (by omega) (by omega), hs _ (by omega) (by omega)]
  obtain ⟨d1, d2, d3, d4, d5, d6⟩ := h x hx
  refine ⟨d1, d2, d3, d4, d5, ?_⟩
  rw [q_cnt_congr (g := fun t => s (25 + t)) (fun t ht => hs _ (by omega) (by omega))]
  exact d6
theorem q_gl_w (hc : ∀ i j, i = 0 ∨ i = 10 → q_w i j → c' i j = c i j) (hs : ∀ k, k < 12 ∨ (25 ≤ k ∧ k < 53) → s' k = s k) (h : q_gl c s n p) : q_gl c' s' n p := by
  unfold q_w at hc
  obtain ⟨⟨e1, e2, e3, e4, e5⟩, ⟨u, f1, f2, f3⟩, g1, g2, g3, g4, g5, g6, g7, g8, g9, g10, g11, g12, g13, g14⟩ := h
  refine ⟨⟨e1, ?_, ?_, e4, ?_⟩, ⟨u, f1, ?_, ?_⟩, ?_, ?_, ?_, ?_, ?_, ?_, ?_, ?_, ?_, ?_, ?_, ?_, ?_, ?_⟩
  · rw [hs _ (by omega)]; exact e2
  · rw [hc _ _ (by omega) (by omega)]; exact e3
  · intro hp t ht
    rw [hs _ (by omega)]; exact e5 hp t ht
  · rw [hs _ (by omega)]; exact f2
  · rw [hc _ _ (by omega) (by omega)]; exact f3
  · rw [hs _ (by omega)]; exact g1
  · rw [hc _ _ (by omega) (by omega), hs _ (by omega)]; exact g2
  · rw [hc _ _ (by omega) (by omega), hs _ (by omega)]; exact g3
  · rw [hs _ (by omega)]; exact g4
  · rw [hc _ _ (by omega) (by omega), hs _ (by omega)]; exact g5
  · rw [hs _ (by omega)]; exact g6
  · rw [hc _ _ (by omega) (by omega), hs _ (by omega)]; exact g7
  · rw [hs _ (by omega)]; exact g8
  · rw [hc _ _ (by omega) (by omega), hs _ (by omega)]; exact g9
  · rw [hc _ _ (by omega) (by omega), hs _ (by omega)]; exact g10
  · rw [hc _ _ (by omega) (by omega), hs _ (by omega)]; exact g11
  · rw [hc _ _ (by omega) (by omega), hs _ (by omega)]; exact g12
  · rw [hc _ _ (by omega) (by omega), hs _ (by omega)]; exact g13
  · rw [hc _ _ (by omega) (by omega), hs _ (by omega)]; exact g14
/-- setting -/
theorem c_set (h : q_C4 c s n p T V) {w : Nat} (h1 : 1 ≤ w) (h2 : w ≤ 60) : q_C4 (q_up c 0 10 (Int32.ofNat w)) (upd s 3 (Int32.ofNat w)) n p T V := by
  refine ⟨q_ch_w (fun i j h1 h2 _ => q_up_ne (by omega)) (fun k hk => q_ud_ne (by omega)) h.1, q_pl_w (fun j _ => q_up_ne (by omega)) (fun k hk _ => q_ud_ne (by omega)) h.2.1, q_hd_w (fun i j h1 h2 _ => q_up_ne (by omega)) (fun k hk _ => q_ud_ne (by omega)) h.2.2.1, ?_⟩
  obtain ⟨⟨e1, e2, e3, e4, e5⟩, ⟨u, f1, f2, f3⟩, g1, g2, g3, g4, g5, g6, g7, g8, g9, g10, g11, g12, g13, g14⟩ := h.2.2.2
  exact ⟨⟨e1, e2, e3, e4, fun hp t ht => by rw [q_ud_ne (by omega)]; exact e5 hp t ht⟩, ⟨u, f1, f2, f3⟩, g1, g2, g3, g4, rfl, ⟨w, h1, h2, rfl⟩, g7, g8, g9, g10, g11, g12, g13, g14⟩
/-- the clock is handed on -/
theorem c_clk (h : q_C4 c s n p T V) {u : Nat} (h1 : u < 4) : q_C4 (q_up (q_up c 0 8 (Int32.ofNat u)) 0 15 (c 0 15 + 1)) (upd (upd s 2 (Int32.ofNat u)) 11 (s 11 + 1)) n p T V := by
  refine ⟨q_ch_w (fun i j h1 h2 _ => by rw [q_up_ne (by omega), q_up_ne (by omega)]) (fun k hk => by rw [q_ud_ne (by omega), q_ud_ne (by omega)]) h.1, q_pl_w (fun j _ => by rw [q_up_ne (by omega), q_up_ne (by omega)]) (fun k hk _ => by rw [q_ud_ne (by omega), q_ud_ne (by omega)]) h.2.1, q_hd_w (fun i j h1 h2 _ => by rw [q_up_ne (by omega), q_up_ne (by omega)]) (fun k hk _ => by rw [q_ud_ne (by omega), q_ud_ne (by omega)]) h.2.2.1, ?_⟩
  obtain ⟨⟨e1, e2, e3, e4, e5⟩, ⟨v, f1, f2, f3⟩, g1, g2, g3, g4, g5, g6, g7, g8, g9, g10, g11, g12, g13, g14⟩ := h.2.2.2
  exact ⟨⟨e1, e2, e3, e4, fun hp t ht => by rw [q_ud_ne (by omega), q_ud_ne (by omega)]; exact e5 hp t ht⟩, ⟨v, f1, f2, f3⟩, Or.inr ⟨u, h1, rfl⟩, rfl, g3, g4, g5, g6, g7, g8, g9, g10, g11, by show c 0 15 + 1 = s 11 + 1; rw [g12], g13, g14⟩
/-- time is spent -/
theorem c_tck (h : q_C4 c s n p T V) {x w : Nat} (hx : x < 4) (h1 : w ≤ 60) : q_C4 (q_up c 7 x (Int32.ofNat w)) (upd s (13 + x) (Int32.ofNat w)) n p T V := by
  refine ⟨q_ch_w (fun i j h1 h2 _ => q_up_ne (by omega)) (fun k hk => q_ud_ne (by omega)) h.1, q_pl_w (fun j _ => q_up_ne (by omega)) (fun k hk _ => q_ud_ne (by omega)) h.2.1, ?_, q_gl_w (fun i j h1 _ => q_up_ne (by omega)) (fun k hk => q_ud_ne (by omega)) h.2.2.2⟩
  intro y hy
  obtain ⟨d1, d2, d3, d4, d5, d6⟩ := h.2.2.1 y hy
  have dc : q_cnt (fun t => upd s (13 + x) (Int32.ofNat w) (25 + t)) (Int32.ofNat y) = q_cnt (fun t => s (25 + t)) (Int32.ofNat y) := q_cnt_congr (fun t ht => q_ud_ne (by omega))
  rw [dc]
  by_cases hc : y = x
  · subst hc
    refine ⟨by rw [q_up_s, q_ud_s], ?_, ?_, ⟨w, h1, q_ud_s⟩, ?_, d6⟩
    · rw [q_up_ne (by omega), q_ud_ne (by omega)]; exact d2
    · rw [q_up_ne (by omega), q_ud_ne (by omega)]; exact d3
    · rw [q_ud_ne (by omega)]; exact d5
  · refine ⟨?_, ?_, ?_, ?_, ?_, d6⟩
    · rw [q_up_ne (by omega), q_ud_ne (by omega)]; exact d1
    · rw [q_up_ne (by omega), q_ud_ne (by omega)]; exact d2
    · rw [q_up_ne (by omega), q_ud_ne (by omega)]; exact d3
    · rw [q_ud_ne (by omega)]; exact d4
    · rw [q_ud_ne (by omega)]; exact d5
/-- counting when one tile goes elsewhere -/
theorem q_cnt_upd {f g : Nat → Int32} {t : Nat} (ht : t < 28) (h : ∀ j, j < 28 → j ≠ t → g j = f j) (v : Int32) : q_cnt g v + (if f t = v then 1 else 0) = q_cnt f v + (if g t = v then 1 else 0) := by
  rw [q_cnt_def, q_cnt_def]
  exact q_S_upd (f := fun t => if f t = v then 1 else 0) (g := fun t => if g t = v then 1 else 0) (p := t) 28 0 (by omega) (by omega) (fun j _ h2 h3 => by rw [h j (by omega) h3])
/-- a tile out of the box is given -/
theorem c_giv (h : q_C4 c s n 0 T V) {x t : Nat} (hx : x < 4) (ht : t < 28) (hb : s (25 + t) = Int32.ofNat 5) (h7 : q_cnt (fun t => s (25 + t)) (Int32.ofNat x) < 7) : q_C4 (q_up c 6 t (Int32.ofNat x)) (upd s (25 + t) (Int32.ofNat x)) n 0 T V := by
  obtain ⟨⟨a1, a2, a3, a4, a5, a6, a7, a8⟩, b, d, ⟨⟨e1, e2, e3, e4, e5⟩, ⟨u, f1, f2, f3⟩, g1, g2, g3, g4, g5, g6, g7, g8, g9, g10, g11, g12, g13, g14⟩⟩ := h
  obtain rfl := e4 rfl
  refine ⟨⟨a1, by rw [q_ud_ne (by omega)]; exact a2, by rw [q_up_ne (by omega)]; exact a3, fun k hk => by omega, a5, fun t' ht' => ?_, by rw [q_up_ne (by omega)]; exact a7, by rw [q_up_ne (by omega)]; exact a8⟩, fun t' ht' => ?_, fun y hy => ?_, ⟨⟨e1, by rw [q_ud_ne (by omega)]; exact e2, by rw [q_up_ne (by omega)]; exact e3, fun _ => rfl, fun q => absurd rfl q⟩, ⟨u, f1, by rw [q_ud_ne (by omega)]; exact f2, by rw [q_up_ne (by omega)]; exact f3⟩, ?_⟩⟩
  · by_cases hc : t' = t
    · subst hc
      rw [q_ud_s, q_eq (by omega) (by omega)]
      exact ⟨fun q => by omega, fun ⟨k, hk, _⟩ => by omega⟩
    · rw [q_ud_ne (by omega)]; exact a6 t' ht'
  · by_cases hc : t' = t
    · subst hc
      exact ⟨by rw [q_up_s, q_ud_s], x, by omega, q_ud_s⟩
    · rw [q_up_ne (by omega), q_ud_ne (by omega)]; exact b t' ht'
  · obtain ⟨d1, d2, d3, d4, d5, d6⟩ := d y hy
    refine ⟨?_, ?_, ?_, ?_, ?_, ?_⟩
    · rw [q_up_ne (by omega), q_ud_ne (by omega)]; exact d1
    · rw [q_up_ne (by omega), q_ud_ne (by omega)]; exact d2
    · rw [q_up_ne (by omega), q_ud_ne (by omega)]; exact d3
    · rw [q_ud_ne (by omega)]; exact d4
    · rw [q_ud_ne (by omega)]; exact d5
    · have q := q_cnt_upd (f := fun t => s (25 + t)) (g := fun j => upd s (25 + t) (Int32.ofNat x) (25 + j)) ht (fun j _ hj => q_ud_ne (by omega)) (Int32.ofNat y)
      rw [hb, q_ud_s] at q
      simp (disch := omega) only [q_eq] at q
      rw [if_neg (show ¬ 5 = y by omega)] at q
      by_cases hc : x = y
      · subst hc
        rw [if_pos rfl] at q
        omega
      · rw [if_neg hc] at q
        omega
  · refine ⟨?_, ?_, ?_, ?_, ?_, ?_, ?_, ?_, ?_, ?_, ?_, ?_, ?_, ?_⟩
    · rw [q_ud_ne (by omega)]; exact g1
    · rw [q_up_ne (by omega), q_ud_ne (by omega)]; exact g2
    · rw [q_up_ne (by omega), q_ud_ne (by omega)]; exact g3
    · rw [q_ud_ne (by omega)]; exact g4
    · rw [q_up_ne (by omega), q_ud_ne (by omega)]; exact g5
    · rw [q_ud_ne (by omega)]; exact g6
    · rw [q_up_ne (by omega), q_ud_ne (by omega)]; exact g7
    · rw [q_ud_ne (by omega)]; exact g8
    · rw [q_up_ne (by omega), q_ud_ne (by omega)]; exact g9
    · rw [q_up_ne (by omega), q_ud_ne (by omega)]; exact g10
    · rw [q_up_ne (by omega), q_ud_ne (by omega)]; exact g11
    · rw [q_up_ne (by omega), q_ud_ne (by omega)]; exact g12
    · rw [q_up_ne (by omega), q_ud_ne (by omega)]; exact g13
    · rw [q_up_ne (by omega), q_ud_ne (by omega)]; exact g14
end MA
