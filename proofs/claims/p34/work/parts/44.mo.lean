/-! pass: the call -/
section MO
variable {D : am_D} {n p : Nat} {T V : Nat → Nat}
theorem q_M62 {D F : am_D} (h1 : F.1 107 = D.1 107) (h2 : F.1 109 = D.1 109) (h3 : F.1 110 = D.1 110) (t v : Int32) : m62 F t v = m62 D t v := by
  unfold m62 m53
  rw [q_M61 h1 h2 h3, q_M59 h1, h1, h2, h3]
theorem q_M68_L {N : Nat} {D F : am_D} (h1 : F.1 107 = D.1 107) (h2 : F.1 109 = D.1 109) (h3 : F.1 110 = D.1 110) (v : Int32) : ∀ (k : Nat) (a b : Int32), m68_L4 N F v k a b = m68_L4 N D v k a b
  | 0, a, b => rfl
  | k + 1, a, b => by
    rw [m68_L4, m68_L4]
    unfold m56 m63
    simp only [q_M62 h1 h2 h3, h1, q_M68_L h1 h2 h3 v k]
theorem q_M69 {N : Nat} {D F : am_D} (h1 : F.1 107 = D.1 107) (h2 : F.1 109 = D.1 109) (h3 : F.1 110 = D.1 110) (v : Int32) : m69 N F v = m69 N D v := by
  unfold m69 m68
  rw [q_M68_L h1 h2 h3, h1]
theorem q_lk_le (hK : q_K D n p T V) {x : Nat} (hx : x < 4) (hn : ¬ D.1 107 (13 + x) ≤ 0 → 0 < n) : ∃ w, w < 128 ∧ q_lk D (V 0) (q_pip (T (n - 1)) - V (n - 1)) x = Int32.ofNat w := by
  obtain ⟨w, hw, hw'⟩ := k_lw hK x hx
  unfold q_lk
  by_cases c : D.1 107 (13 + x) ≤ 0
  · rw [if_pos c]; exact ⟨w, hw, hw'⟩
  · have h0 := hn c
    obtain ⟨a1, a2, -⟩ := k_k hK 0 h0
    obtain ⟨a3, a4, -⟩ := k_k hK (n - 1) (by omega)
    rw [if_neg c, hw', q_or, q_or]
    exact ⟨_, Nat.or_lt_two_pow (n := 7) hw (Nat.or_lt_two_pow (n := 7) (q_pow7 _ (q_v7 a1 a2).1) (q_pow7 _ (q_v7 a3 a4).2)), rfl⟩
theorem c_pas {D1 D' E D2 : am_D} (hK : q_K D1 n 1 T V) (hs : ∀ k, k < 165 → E.1 107 k = D1.1 107 k) {x r : Nat} (hx : x < 4) (hr : r ≤ 3) (hn : ¬ D1.1 107 (13 + x) ≤ 0 → 0 < n)
    (a1 : ∀ b, D'.1 1 b = if b = 7 then (if r = 3 then q_nn else Int32.ofNat ((x + 1) % 4)) else if b = 6 then (if r = 3 then Int32.ofNat 2 else Int32.ofNat 1) else if b = 11 then Int32.ofNat (r + 1) else if b = 14 then D1.1 1 14 + 1 else D1.1 1 b)
    (a2 : ∀ b, D'.1 9 b = if b = x then q_lk D1 (V 0) (q_pip (T (n - 1)) - V (n - 1)) x else D1.1 9 b) (a3 : ∀ b, D'.1 10 b = if b = x then D1.1 10 x + 1 else D1.1 10 b)
    (a4 : ∀ b, D'.1 11 b = if r = 3 then (if b = 0 then D1.1 11 0 + Int32.ofNat (q_y0 (q_P D1)) else if b = 1 then D1.1 11 1 + Int32.ofNat (q_y1 (q_P D1)) else D1.1 11 b) else D1.1 11 b)
    (a5 : ∀ a, a = 0 ∨ (2 ≤ a ∧ a ≤ 8) ∨ 12 ≤ a → D'.1 a = D1.1 a)
    (b1 : ∀ j, D2.1 107 j = if j = 7 then (if r = 3 then E.1 107 7 + Int32.ofNat (q_y1 (q_P D1)) else E.1 107 7) else if j = 6 then (if r = 3 then E.1 107 6 + Int32.ofNat (q_y0 (q_P D1)) else E.1 107 6) else if j = 0 then (if r = 3 then Int32.ofNat 2 else Int32.ofNat 1) else if j = 1 then Int32.ofNat ((x + 1) % 4) else if j = 4 then Int32.ofNat (r + 1) else if j = 10 then E.1 107 10 + 1 else if j = 21 + x then E.1 107 (21 + x) + 1 else if j = 17 + x then q_lk D1 (V 0) (q_pip (T (n - 1)) - V (n - 1)) x else E.1 107 j) : q_C (q_c D' 1) (q_s D2 0) := by
  have sx : ∀ k, k < 165 → k ≠ 7 → k ≠ 6 → k ≠ 0 → k ≠ 1 → k ≠ 4 → k ≠ 10 → k ≠ 21 + x → k ≠ 17 + x → D2.1 107 k = D1.1 107 k := fun k h1 h2 h3 h4 h5 h6 h7 h8 h9 => by
    rw [b1, if_neg h2, if_neg h3, if_neg h4, if_neg h5, if_neg h6, if_neg h7, if_neg h8, if_neg h9, hs k h1]
  obtain ⟨c8, c9, c10, c11, c12, c13⟩ := k_c hK
  obtain ⟨w3, w31, w32, w33⟩ := k_sew hK
  have hc : ∀ a, 2 ≤ a → a ≤ 8 → D'.1 a = D1.1 a := fun a h1 h2 => a5 a (by omega)
  have hch : q_ch (q_c D' 1) (q_s D2 0) n T V := q_ch_w (c := q_c D1 1) (s := q_s D1 0) (fun i j h1 h2 _ => by
    show D'.1 (1 + i) j = D1.1 (1 + i) j
    rw [hc _ (by omega) (by omega)]) (fun k hk => sx k (by omega) (by omega) (by omega) (by omega) (by omega) (by omega) (by omega) (by omega) (by omega)) hK.1
  have hpl : q_pl (q_c D' 1) (q_s D2 0) := q_pl_w (c := q_c D1 1) (s := q_s D1 0) (fun j hj => by
    show D'.1 (1 + 6) j = D1.1 (1 + 6) j
    rw [hc _ (by omega) (by omega)]) (fun k h1 h2 => sx k (by omega) (by omega) (by omega) (by omega) (by omega) (by omega) (by omega) (by omega) (by omega)) hK.2.1
  refine ⟨n, (if r = 3 then 2 else 1), T, V, hch, hpl, fun y hy => ?_, ⟨⟨?_, ?_, ?_, ?_, ?_⟩, ⟨(x + 1) % 4, by omega, ?_, ?_⟩, ?_, ?_, ?_, ?_, ?_, ⟨w3, w31, w32, ?_⟩, ?_, ⟨r + 1, by omega, fun q => ?_, ?_⟩, ?_, ?_, ?_, ?_, ?_, ?_⟩⟩
  · show D'.1 8 y = D2.1 107 (13 + y) ∧ D'.1 9 y = D2.1 107 (17 + y) ∧ D'.1 10 y = D2.1 107 (21 + y) ∧ (∃ w, w ≤ 60 ∧ D2.1 107 (13 + y) = Int32.ofNat w) ∧ (∃ w, w < 128 ∧ D2.1 107 (17 + y) = Int32.ofNat w) ∧ q_cnt (fun t => D2.1 107 (25 + t)) (Int32.ofNat y) ≤ 7
    have hc7 : q_cnt (fun t => D2.1 107 (25 + t)) (Int32.ofNat y) = q_cnt (q_P D1) (Int32.ofNat y) := q_cnt_congr (fun t ht => sx _ (by omega) (by omega) (by omega) (by omega) (by omega) (by omega) (by omega) (by omega) (by omega))
    have s17 : D2.1 107 (17 + y) = if y = x then q_lk D1 (V 0) (q_pip (T (n - 1)) - V (n - 1)) x else D1.1 107 (17 + y) := by
      by_cases c : y = x
      · subst c
        rw [b1, if_neg (by omega), if_neg (by omega), if_neg (by omega), if_neg (by omega), if_neg (by omega), if_neg (by omega), if_neg (by omega), if_pos rfl, if_pos rfl]
      · rw [if_neg c, sx _ (by omega) (by omega) (by omega) (by omega) (by omega) (by omega) (by omega) (by omega) (by omega)]
    have s21 : D2.1 107 (21 + y) = if y = x then D1.1 107 (21 + x) + 1 else D1.1 107 (21 + y) := by
      by_cases c : y = x
      · subst c
        rw [b1, if_neg (by omega), if_neg (by omega), if_neg (by omega), if_neg (by omega), if_neg (by omega), if_neg (by omega), if_pos rfl, if_pos rfl, hs _ (by omega)]
      · rw [if_neg c, sx _ (by omega) (by omega) (by omega) (by omega) (by omega) (by omega) (by omega) (by omega) (by omega)]
    have s13 : D2.1 107 (13 + y) = D1.1 107 (13 + y) := sx _ (by omega) (by omega) (by omega) (by omega) (by omega) (by omega) (by omega) (by omega) (by omega)
    rw [hc7, s17, s21, s13, hc 8 (by omega) (by omega), a2, a3]
    refine ⟨k_ti hK y hy, ?_, ?_, k_tw hK y hy, ?_, k_h7 hK y hy⟩
    · by_cases c : y = x
      · rw [if_pos c, if_pos c]
      · rw [if_neg c, if_neg c]; exact k_la hK y hy
    · by_cases c : y = x
      · rw [if_pos c, if_pos c, k_pa hK x hx]
      · rw [if_neg c, if_neg c]; exact k_pa hK y hy
    · by_cases c : y = x
      · rw [if_pos c]; exact q_lk_le hK hx hn
      · rw [if_neg c]; exact k_lw hK y hy
  · split <;> omega
  · show D2.1 107 0 = _
    rw [b1, if_neg (by omega), if_neg (by omega), if_pos rfl]
    split <;> rfl
  · show D'.1 1 6 = _
    rw [a1, if_neg (by omega), if_pos rfl]
    split <;> rfl
  · intro q
    split at q <;> omega
  · intro _ j hj
    show D2.1 107 (25 + j) ≠ _
    rw [sx _ (by omega) (by omega) (by omega) (by omega) (by omega) (by omega) (by omega) (by omega) (by omega)]
    exact k_nob hK (by omega) j hj
  · show D2.1 107 1 = _
    rw [b1, if_neg (by omega), if_neg (by omega), if_neg (by omega), if_pos rfl]
  · show D'.1 1 7 = _
    rw [a1, if_pos rfl]
    by_cases c : r = 3
    · rw [if_pos c, if_pos c, if_neg (by omega)]
    · rw [if_neg c, if_neg c, if_pos rfl]
  · right
    obtain ⟨u, hu, hu'⟩ := (k_hw hK).resolve_left (fun q => q.2 rfl)
    exact ⟨u, hu, by
      show D2.1 107 2 = _
      rw [sx 2 (by omega) (by omega) (by omega) (by omega) (by omega) (by omega) (by omega) (by omega) (by omega)]; exact hu'⟩
  · show D'.1 1 8 = D2.1 107 2
    rw [a1, if_neg (by omega), if_neg (by omega), if_neg (by omega), if_neg (by omega), sx 2 (by omega) (by omega) (by omega) (by omega) (by omega) (by omega) (by omega) (by omega) (by omega)]; exact k_ho hK
  · show D'.1 1 9 = D2.1 107 5
    rw [a1, if_neg (by omega), if_neg (by omega), if_neg (by omega), if_neg (by omega), sx 5 (by omega) (by omega) (by omega) (by omega) (by omega) (by omega) (by omega) (by omega) (by omega)]; exact k_lt hK
  · show D2.1 107 5 = _ ∨ ∃ u, u < 4 ∧ D2.1 107 5 = Int32.ofNat u
    rw [sx 5 (by omega) (by omega) (by omega) (by omega) (by omega) (by omega) (by omega) (by omega) (by omega)]; exact k_ltw hK
  · show D'.1 1 10 = D2.1 107 3
    rw [a1, if_neg (by omega), if_neg (by omega), if_neg (by omega), if_neg (by omega), sx 3 (by omega) (by omega) (by omega) (by omega) (by omega) (by omega) (by omega) (by omega) (by omega)]; exact k_se hK
  · show D2.1 107 3 = _
    rw [sx 3 (by omega) (by omega) (by omega) (by omega) (by omega) (by omega) (by omega) (by omega) (by omega)]; exact w33
  · show D'.1 1 11 = D2.1 107 4
    rw [a1, if_neg (by omega), if_neg (by omega), if_pos rfl, b1, if_neg (by omega), if_neg (by omega), if_neg (by omega), if_neg (by omega), if_pos rfl]
  · split at q <;> omega
  · show D2.1 107 4 = _
    rw [b1, if_neg (by omega), if_neg (by omega), if_neg (by omega), if_neg (by omega), if_pos rfl]
  · show D'.1 1 12 = D2.1 107 8
    rw [a1, if_neg (by omega), if_neg (by omega), if_neg (by omega), if_neg (by omega), sx 8 (by omega) (by omega) (by omega) (by omega) (by omega) (by omega) (by omega) (by omega) (by omega)]; exact c8
  · show D'.1 1 13 = D2.1 107 9
    rw [a1, if_neg (by omega), if_neg (by omega), if_neg (by omega), if_neg (by omega), sx 9 (by omega) (by omega) (by omega) (by omega) (by omega) (by omega) (by omega) (by omega) (by omega)]; exact c9
  · show D'.1 1 14 = D2.1 107 10
    rw [a1, if_neg (by omega), if_neg (by omega), if_neg (by omega), if_pos rfl, b1, if_neg (by omega), if_neg (by omega), if_neg (by omega), if_neg (by omega), if_neg (by omega), if_pos rfl, hs 10 (by omega), c10]
  · show D'.1 1 15 = D2.1 107 11
    rw [a1, if_neg (by omega), if_neg (by omega), if_neg (by omega), if_neg (by omega), sx 11 (by omega) (by omega) (by omega) (by omega) (by omega) (by omega) (by omega) (by omega) (by omega)]; exact c11
  · show D'.1 11 0 = D2.1 107 6
    rw [a4, b1, if_neg (show ¬ 6 = 7 by omega), if_pos (show 6 = 6 from rfl), hs 6 (by omega), c12]
    rfl
  · show D'.1 11 1 = D2.1 107 7
    rw [a4, b1, if_pos (show 7 = 7 from rfl), hs 7 (by omega), c13]
    rfl
theorem g_pass {N : Nat} (hN : 2000 ≤ N) (hI : q_I D) (v1 : Int32) : q_G (fun D => m265 N D v1) (fun D => m85 N D v1) D := by
  obtain ⟨n, p, T, V, hK⟩ := q_I_K hI
  have hB := hI.1
  rcases q40 v1 with ⟨x, hx, rfl, e1, e2⟩ | ⟨e1, e2⟩
  · have hnp : q_np D p x = 0 ∨ (1 ≤ q_np D p x ∧ q_np D p x < 4) := by
      unfold q_np
      split
      · split
        · split
          · exact Or.inl rfl
          · split
            · exact Or.inl rfl
            · exact Or.inr ⟨by omega, by omega⟩
        · exact Or.inr ⟨by omega, by omega⟩
      · exact Or.inr ⟨by omega, by omega⟩
    rcases hnp with hr | ⟨y1, y2⟩
    · obtain ⟨rfl, hu, hf⟩ := q_np0 hK hr
      obtain ⟨r, hr4, hr3, h4⟩ := k_row hK
      have hr3' := hr3 rfl
      have hn : ¬ D.1 107 (13 + x) ≤ 0 → 0 < n := fun c => by
        rcases hf with hf | hf
        · exact absurd hf c
        · by_cases c0 : n = 0
          · have := q_first hK hx c0
            omega
          · omega
      obtain ⟨D1, d1, d2⟩ := q_sav hI
      have p1 := (q_pre_1 d2).1
      have hK1 := q_K_D1 d2 hK
      have h41 : D1.1 107 4 = Int32.ofNat r := by rw [p1 107 (by omega)]; exact h4
      have hn1 : ¬ D1.1 107 (13 + x) ≤ 0 → 0 < n := by rw [p1 107 (by omega)]; exact hn
      obtain ⟨D', c1, c2, c3, c4, c5, c6, c7⟩ := q224 hN hK1 hx hr3' h41 hn1
      have hfr : q_fr D1 D' := ⟨fun a ha => c6 a (by omega), by rw [c7]⟩
      obtain ⟨E1, f1, f2⟩ := q_pre_of hN hI d2 hfr (Int32.ofNat (r + 1)).toInt64
      obtain ⟨s1, s2, s3, s4, s5, s6⟩ := q_pre_s f2
      have hsE : ∀ k, k < 165 → E1.1 107 k = D1.1 107 k := fun k hk => by
        rw [p1 107 (by omega)]; exact s1 k hk
      have hBE : q_B E1 := by intro t ht; rw [s2 109 (by omega), s2 110 (by omega)]; exact hB t ht
      obtain ⟨D2, b1, b3, b4, b5⟩ := q72 hN hK1 hBE hsE hx hr3' h41 hn1
      have hfm : q_fm E1 D2 := ⟨fun a ha => b4 a (by omega), ⟨by rw [b4 106 (by omega)], by rw [b4 106 (by omega)], by rw [b4 106 (by omega)]⟩, fun o h5 h6 k hk => by
        show D2.1 107 _ = E1.1 107 _
        rw [b3, if_neg (by omega), if_neg (by omega), if_neg (by omega), if_neg (by omega), if_neg (by omega), if_neg (by omega), if_neg (by omega), if_neg (by omega)], b5⟩
      refine q_G_mu _ hI f2 hfm (c_pas hK1 hsE hx hr3' hn1 c2 c3 c4 c5 c6 b3) (q_tx_same hI f2 hfm (c6 91 (by omega)) (by rw [b4 106 (by omega)])) ?_ ?_
      · show m265 N D _ = _
        unfold m265 m6
        rw [if_neg (by rw [e1]; decide), q221 hN hK hx, Option.bind_some, hr, if_pos (show Int32.ofNat 0 = 0 from rfl), d1, Option.bind_some, c1]
        rfl
      · show m85 N _ _ = _
        have z : ∀ F : am_D, F.1 107 = D.1 107 → F.1 109 = D.1 109 → F.1 110 = D.1 110 → m69 N F (Int32.ofNat x) = some 0 := fun F h1 h2 h3 => by
          rw [q_M69 h1 h2 h3, q69 hN hB hK hx, hr]; rfl
        have zz := z (am_uJ D' 124 0 (Int32.ofNat (r + 1)).toInt64) (by show D'.1 107 = _; rw [c6 107 (by omega), p1 107 (by omega)]) (by show D'.1 109 = _; rw [c6 109 (by omega), p1 109 (by omega)]) (by show D'.1 110 = _; rw [c6 110 (by omega), p1 110 (by omega)])
        unfold m85
        simp only [am_lt, e2, q_10, if_false, zz, Option.bind_some, show ((0 : Int32) ≤ 0) = True from by decide, if_true, q47a, f1, b1]
    · have hk : ¬ Int32.ofNat (q_np D p x) = 0 := by rw [q_l0, q_eq (by omega) (by omega)]; omega
      refine q_G_ex hI 2 (by omega) ?_ ?_
      · show m265 N D _ = _
        unfold m265 m6
        rw [if_neg (by rw [e1]; decide), q221 hN hK hx, Option.bind_some, if_neg hk]
        rfl
      · show m85 N D _ = _
        have z := q69 hN hB hK hx
        have z2 : ¬ Int32.ofNat (q_np D p x) ≤ 0 := q_nle (a := 0) (by omega) (by omega)
        unfold m85
        simp only [am_lt, e2, q_10, if_false, z, Option.bind_some, z2, q47c]
        rfl
  · refine q_G_ex hI 1 (by omega) ?_ ?_
    · show m265 N D _ = _
      unfold m265 m6
      rw [if_pos e1]
      rfl
    · show m85 N D _ = _
      unfold m85
      simp only [am_lt, e2, if_true, Option.bind_some, q47b]
      rfl
end MO
