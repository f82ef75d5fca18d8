/-! pass: the model's side, the call -/
section MN
variable {D : am_D} {n p : Nat} {T V : Nat → Nat}
theorem q_ssub (a p1 p3 : Nat) : Int32.ofNat a - Int32.ofNat p1 - Int32.ofNat p3 = Int32.ofNat a - Int32.ofNat (p1 + p3) := by
  obtain ⟨X, hX⟩ : ∃ X, X = Int32.ofNat a - Int32.ofNat p1 - Int32.ofNat p3 := ⟨_, rfl⟩
  have h1 : X + Int32.ofNat p3 + Int32.ofNat p1 = Int32.ofNat a := by
    rw [hX, Int32.sub_add_cancel, Int32.sub_add_cancel]
  rw [← hX, ← h1, Int32.add_assoc, q_add, Nat.add_comm p3 p1, Int32.add_sub_cancel]
theorem q_payA {p0 p1 p2 p3 : Nat} (h : p0 + p2 < 100000) (h' : p1 + p3 < 100000) : (if 0 ≤ Int32.ofNat p0 + Int32.ofNat p2 - Int32.ofNat p1 - Int32.ofNat p3 then (0 : Int32) else -(Int32.ofNat p0 + Int32.ofNat p2 - Int32.ofNat p1 - Int32.ofNat p3) / 5) = Int32.ofNat ((p1 + p3 - (p0 + p2)) / 5) := by
  rw [q_add, q_ssub]
  by_cases c : p1 + p3 ≤ p0 + p2
  · rw [q_sub c, if_pos (show (0 : Int32) ≤ Int32.ofNat (p0 + p2 - (p1 + p3)) from q_yle (a := 0) (by omega) (by omega)), show (p1 + p3 - (p0 + p2)) / 5 = 0 by omega]
    rfl
  · rw [q_sneg (by omega), Int32.neg_neg, q_l5, q_div (by omega) (by omega), if_neg]
    rw [Int32.le_iff_toInt_le, q_neg (by omega)]
    show ¬ (0 : Int) ≤ _
    omega
theorem q_payB {p0 p1 p2 p3 : Nat} (h : p0 + p2 < 100000) (h' : p1 + p3 < 100000) : (if Int32.ofNat p0 + Int32.ofNat p2 - Int32.ofNat p1 - Int32.ofNat p3 ≤ 0 then (0 : Int32) else (Int32.ofNat p0 + Int32.ofNat p2 - Int32.ofNat p1 - Int32.ofNat p3) / 5) = Int32.ofNat ((p0 + p2 - (p1 + p3)) / 5) := by
  rw [q_add, q_ssub]
  by_cases c : p0 + p2 ≤ p1 + p3
  · rw [q_sneg c, if_pos, show (p0 + p2 - (p1 + p3)) / 5 = 0 by omega]
    · rfl
    · rw [Int32.le_iff_toInt_le, q_neg (by omega)]
      show _ ≤ (0 : Int)
      omega
  · rw [q_sub (by omega), if_neg (show ¬ Int32.ofNat (p0 + p2 - (p1 + p3)) ≤ 0 from q_nle (a := 0) (by omega) (by omega)), q_l5, q_div (by omega) (by omega)]
theorem q72 {N : Nat} (hN : 2000 ≤ N) (hK : q_K D n 1 T V) {E : am_D} (hB : q_B E) (hs : ∀ k, k < 165 → E.1 107 k = D.1 107 k) {x r : Nat} (hx : x < 4) (hr : r ≤ 3) (h4 : D.1 107 4 = Int32.ofNat r) (hn : ¬ D.1 107 (13 + x) ≤ 0 → 0 < n) :
    ∃ D2, m72 N E (Int32.ofNat x) = some (Int32.ofNat (r + 1), D2) ∧
      (∀ j, D2.1 107 j = if j = 7 then (if r = 3 then E.1 107 7 + Int32.ofNat (q_y1 (q_P D)) else E.1 107 7) else if j = 6 then (if r = 3 then E.1 107 6 + Int32.ofNat (q_y0 (q_P D)) else E.1 107 6) else if j = 0 then (if r = 3 then Int32.ofNat 2 else Int32.ofNat 1) else if j = 1 then Int32.ofNat ((x + 1) % 4) else if j = 4 then Int32.ofNat (r + 1) else if j = 10 then E.1 107 10 + 1 else if j = 21 + x then E.1 107 (21 + x) + 1 else if j = 17 + x then q_lk D (V 0) (q_pip (T (n - 1)) - V (n - 1)) x else E.1 107 j) ∧
      (∀ a, a ≠ 107 → D2.1 a = E.1 a) ∧ D2.2 = E.2 := by
  have hchE : q_ch (q_c D 1) (q_s E 0) n T V := q_ch_w (fun _ _ _ _ _ => rfl) (fun k hk => hs k (by omega)) hK.1
  have hH1 := q_hy_KC hchE
  have r1 : (q_hy D E).1 107 = E.1 107 := q_hy_m (by omega)
  have r2 : (q_hy D E).1 109 = E.1 109 := q_hy_m (by omega)
  have r3 : (q_hy D E).1 110 = E.1 110 := q_hy_m (by omega)
  have hBH : q_B (q_hy D E) := by intro t ht; rw [r2, r3]; exact hB t ht
  have i1 : ∀ a, a < 1320 → 0 ≤ Int32.ofNat a ∧ Int32.ofNat a < 1320 := fun a ha => q_in (n := 1320) (by omega) ha
  have b13 : (13 : Int32) + Int32.ofNat x = Int32.ofNat (13 + x) := by rw [q_l13, q_add]
  have b17 : (17 : Int32) + Int32.ofNat x = Int32.ofNat (17 + x) := by rw [q_l17, q_add]
  have b21 : (21 : Int32) + Int32.ofNat x = Int32.ofNat (21 + x) := by rw [q_l21, q_add]
  have b5 : ((Int32.ofNat x + (1 : Int32)) - (Int32.ofNat x + (1 : Int32)) / (4 : Int32) * (4 : Int32)) = Int32.ofNat ((x + 1) % 4) := q_md4' x hx 1 (by omega)
  -- what is lacked
  obtain ⟨F, f0, f1, f2, f3⟩ : ∃ F, (if (E.1 107 (13 + x)) ≤ 0 then (some E) else ((m61 E).bind fun q7 => (some (am_uI E 107 (17 + x) ((E.1 107 (17 + x)) ||| (((1 : Int32) <<< ((m59 E) &&& 31)) ||| ((1 : Int32) <<< (q7 &&& 31)))))))) = some F ∧ (∀ a, a ≠ 107 → F.1 a = E.1 a) ∧ (∀ b, F.1 107 b = if b = 17 + x then q_lk D (V 0) (q_pip (T (n - 1)) - V (n - 1)) x else E.1 107 b) ∧ F.2 = E.2 := by
    unfold q_lk
    rw [hs (13 + x) (by omega), hs (17 + x) (by omega)]
    by_cases c : D.1 107 (13 + x) ≤ 0
    · rw [if_pos c, if_pos c]
      refine ⟨E, rfl, fun _ _ => rfl, fun b => ?_, rfl⟩
      by_cases hb : b = 17 + x
      · rw [if_pos hb, hb, hs _ (by omega)]
      · rw [if_neg hb]
    · have h0 := hn c
      obtain ⟨a1, a2, -⟩ := k_k hK 0 h0
      obtain ⟨a3, a4, -⟩ := k_k hK (n - 1) (by omega)
      have z0 : m59 E = Int32.ofNat (V 0) := by
        rw [← q_M59 r1, q59C hH1, kc_e0 hH1, if_neg (by omega)]
      have z1 : m61 E = some (Int32.ofNat (q_pip (T (n - 1)) - V (n - 1))) := by
        rw [← q_M61 r1 r2 r3, q61C hBH hH1, kc_e1 hH1, if_neg (by omega)]
      rw [if_neg c, if_neg c, z0, z1, Option.bind_some, (q_bit _ (q_v7 a1 a2).1).2, (q_bit _ (q_v7 a3 a4).2).2]
      refine ⟨_, rfl, fun a ha => q_uI_ne _ ha, fun b => ?_, rfl⟩
      rw [q_uI_at]
      simp only [true_and]
  obtain ⟨G, hG⟩ : ∃ G, G = am_uI (am_uI (am_uI (am_uI F 107 (21 + x) (E.1 107 (21 + x) + 1)) 107 10 (E.1 107 10 + 1)) 107 4 (Int32.ofNat (r + 1))) 107 1 (Int32.ofNat ((x + 1) % 4)) := ⟨_, rfl⟩
  have g1 : ∀ j, G.1 107 j = if j = 1 then Int32.ofNat ((x + 1) % 4) else if j = 4 then Int32.ofNat (r + 1) else if j = 10 then E.1 107 10 + 1 else if j = 21 + x then E.1 107 (21 + x) + 1 else if j = 17 + x then q_lk D (V 0) (q_pip (T (n - 1)) - V (n - 1)) x else E.1 107 j := fun j => by
    rw [hG]
    simp only [q_uI_at, true_and, f2]
  have go : ∀ a, a ≠ 107 → G.1 a = E.1 a := fun a ha => by
    rw [hG, q_uI_ne _ ha, q_uI_ne _ ha, q_uI_ne _ ha, q_uI_ne _ ha, f1 a ha]
  have g2 : G.2 = E.2 := by rw [hG]; exact f3
  have em : m72 N E (Int32.ofNat x) = (((if (G.1 107 4) = (4 : Int32) then ((m58 N G (0 : Int32)).bind fun q26 => ((m58 N G (2 : Int32)).bind fun q28 => ((m58 N G (1 : Int32)).bind fun q30 => ((m58 N G (3 : Int32)).bind fun q32 => (am_lt (((q26 + q28) - q30) - q32) fun x34 => (am_lt (am_uI G 107 0 (2 : Int32)) fun D36 => (am_lt (if 0 ≤ x34 then (0 : Int32) else ((-x34) / (5 : Int32))) fun q38 => (am_lt (am_uI D36 107 6 ((D36.1 107 6) + q38)) fun D42 => (am_lt (if x34 ≤ 0 then (0 : Int32) else (x34 / (5 : Int32))) fun q44 => (am_lt (am_uI D42 107 7 ((D42.1 107 7) + q44)) fun D48 => (some D48))))))))))) else (some G))).bind fun q22 => (some ((q22.1 107 4), q22))) := by
    unfold m72
    rw [b13, b17, b21, b5, q_tn (show 13 + x < 2147483648 by omega), q_tn (show 17 + x < 2147483648 by omega), q_tn (show 21 + x < 2147483648 by omega)]
    simp only [if_pos (i1 (13 + x) (by omega)), if_pos (i1 (17 + x) (by omega)), if_pos (i1 (21 + x) (by omega))]
    simp only [am_lt]
    rw [f0, Option.bind_some]
    have w1 : F.1 107 (21 + x) = E.1 107 (21 + x) := by rw [f2, if_neg (by omega)]
    rw [w1]
    have w2 : (am_uI F 107 (21 + x) (E.1 107 (21 + x) + 1)).1 107 10 = E.1 107 10 := by rw [q_uI_at, if_neg (by omega), f2, if_neg (by omega)]
    rw [w2]
    have w3 : (am_uI (am_uI F 107 (21 + x) (E.1 107 (21 + x) + 1)) 107 10 (E.1 107 10 + 1)).1 107 4 = Int32.ofNat r := by rw [q_uI_at, if_neg (by omega), q_uI_at, if_neg (by omega), f2, if_neg (by omega), hs 4 (by omega)]; exact h4
    rw [w3, show Int32.ofNat r + 1 = Int32.ofNat (r + 1) from q_add r 1, ← hG]
  have g4 : G.1 107 4 = Int32.ofNat (r + 1) := by rw [g1, if_neg (by omega), if_pos rfl]
  have gP : q_pips (q_P G) = q_pips (q_P D) := by
    funext v
    refine q_pips_congr (fun t ht => ?_)
    show G.1 107 (25 + t) = D.1 107 (25 + t)
    rw [g1, if_neg (by omega), if_neg (by omega), if_neg (by omega), if_neg (by omega), if_neg (by omega), hs _ (by omega)]
  have hBG : q_B G := by intro t ht; rw [go 109 (by omega), go 110 (by omega)]; exact hB t ht
  rw [em, g4]
  by_cases c : r = 3
  · subst c
    have p0 := q_pips_le (q_P D) (Int32.ofNat 0)
    have p1 := q_pips_le (q_P D) (Int32.ofNat 1)
    have p2 := q_pips_le (q_P D) (Int32.ofNat 2)
    have p3 := q_pips_le (q_P D) (Int32.ofNat 3)
    have w6 : (am_uI G 107 0 2).1 107 6 = E.1 107 6 := by rw [q_uI_at, if_neg (by omega), g1, if_neg (by omega), if_neg (by omega), if_neg (by omega), if_neg (by omega), if_neg (by omega)]
    have w7 : (am_uI (am_uI G 107 0 2) 107 6 (E.1 107 6 + Int32.ofNat (q_y0 (q_P D)))).1 107 7 = E.1 107 7 := by rw [q_uI_at, if_neg (by omega), q_uI_at, if_neg (by omega), g1, if_neg (by omega), if_neg (by omega), if_neg (by omega), if_neg (by omega), if_neg (by omega)]
    have hA : (if 0 ≤ Int32.ofNat (q_pips (q_P D) (Int32.ofNat 0)) + Int32.ofNat (q_pips (q_P D) (Int32.ofNat 2)) - Int32.ofNat (q_pips (q_P D) (Int32.ofNat 1)) - Int32.ofNat (q_pips (q_P D) (Int32.ofNat 3)) then (0 : Int32) else -(Int32.ofNat (q_pips (q_P D) (Int32.ofNat 0)) + Int32.ofNat (q_pips (q_P D) (Int32.ofNat 2)) - Int32.ofNat (q_pips (q_P D) (Int32.ofNat 1)) - Int32.ofNat (q_pips (q_P D) (Int32.ofNat 3))) / 5) = Int32.ofNat (q_y0 (q_P D)) := q_payA (by omega) (by omega)
    have hBb : (if Int32.ofNat (q_pips (q_P D) (Int32.ofNat 0)) + Int32.ofNat (q_pips (q_P D) (Int32.ofNat 2)) - Int32.ofNat (q_pips (q_P D) (Int32.ofNat 1)) - Int32.ofNat (q_pips (q_P D) (Int32.ofNat 3)) ≤ 0 then (0 : Int32) else (Int32.ofNat (q_pips (q_P D) (Int32.ofNat 0)) + Int32.ofNat (q_pips (q_P D) (Int32.ofNat 2)) - Int32.ofNat (q_pips (q_P D) (Int32.ofNat 1)) - Int32.ofNat (q_pips (q_P D) (Int32.ofNat 3))) / 5) = Int32.ofNat (q_y1 (q_P D)) := q_payB (by omega) (by omega)
    rw [if_pos (show Int32.ofNat (3 + 1) = 4 from rfl)]
    simp only [am_lt, q58 hN hBG, gP, Option.bind_some]
    rw [show (0 : Int32) = Int32.ofNat 0 from rfl, show (1 : Int32) = Int32.ofNat 1 from rfl, show (2 : Int32) = Int32.ofNat 2 from rfl, show (3 : Int32) = Int32.ofNat 3 from rfl]
    have hA' : (if Int32.ofNat 0 ≤ Int32.ofNat (q_pips (q_P D) (Int32.ofNat 0)) + Int32.ofNat (q_pips (q_P D) (Int32.ofNat 2)) - Int32.ofNat (q_pips (q_P D) (Int32.ofNat 1)) - Int32.ofNat (q_pips (q_P D) (Int32.ofNat 3)) then Int32.ofNat 0 else -(Int32.ofNat (q_pips (q_P D) (Int32.ofNat 0)) + Int32.ofNat (q_pips (q_P D) (Int32.ofNat 2)) - Int32.ofNat (q_pips (q_P D) (Int32.ofNat 1)) - Int32.ofNat (q_pips (q_P D) (Int32.ofNat 3))) / 5) = Int32.ofNat (q_y0 (q_P D)) := hA
    have hB' : (if Int32.ofNat (q_pips (q_P D) (Int32.ofNat 0)) + Int32.ofNat (q_pips (q_P D) (Int32.ofNat 2)) - Int32.ofNat (q_pips (q_P D) (Int32.ofNat 1)) - Int32.ofNat (q_pips (q_P D) (Int32.ofNat 3)) ≤ Int32.ofNat 0 then Int32.ofNat 0 else (Int32.ofNat (q_pips (q_P D) (Int32.ofNat 0)) + Int32.ofNat (q_pips (q_P D) (Int32.ofNat 2)) - Int32.ofNat (q_pips (q_P D) (Int32.ofNat 1)) - Int32.ofNat (q_pips (q_P D) (Int32.ofNat 3))) / 5) = Int32.ofNat (q_y1 (q_P D)) := hBb
    have w6' : (am_uI G 107 0 (Int32.ofNat 2)).1 107 6 = E.1 107 6 := w6
    have w7' : (am_uI (am_uI G 107 0 (Int32.ofNat 2)) 107 6 (E.1 107 6 + Int32.ofNat (q_y0 (q_P D)))).1 107 7 = E.1 107 7 := w7
    rw [hA', hB', w6', w7']
    obtain ⟨H, hH⟩ : ∃ H, H = am_uI (am_uI (am_uI G 107 0 (Int32.ofNat 2)) 107 6 (E.1 107 6 + Int32.ofNat (q_y0 (q_P D)))) 107 7 (E.1 107 7 + Int32.ofNat (q_y1 (q_P D))) := ⟨_, rfl⟩
    rw [← hH]
    have h1 : ∀ j, H.1 107 j = if j = 7 then E.1 107 7 + Int32.ofNat (q_y1 (q_P D)) else if j = 6 then E.1 107 6 + Int32.ofNat (q_y0 (q_P D)) else if j = 0 then Int32.ofNat 2 else G.1 107 j := fun j => by
      rw [hH]
      simp only [q_uI_at, true_and]
    refine ⟨H, ?_, fun j => ?_, fun a ha => ?_, ?_⟩
    · rw [h1, if_neg (by omega), if_neg (by omega), if_neg (by omega), g4]
    · rw [h1, g1 j, if_pos trivial, if_pos trivial, if_pos trivial]; rfl
    · rw [hH, q_uI_ne _ ha, q_uI_ne _ ha, q_uI_ne _ ha, go a ha]
    · rw [hH]; exact g2
  · have c0 : ¬ Int32.ofNat (r + 1) = 4 := by rw [q_l4, q_eq (by omega) (by omega)]; omega
    rw [if_neg c0, Option.bind_some, g4]
    refine ⟨G, rfl, fun j => ?_, go, g2⟩
    rw [if_neg c, if_neg c, if_neg c, g1 j]
    by_cases j7 : j = 7
    · subst j7
      rw [if_neg (by omega), if_neg (by omega), if_neg (by omega), if_neg (by omega), if_neg (by omega), if_pos rfl]
    · by_cases j6 : j = 6
      · subst j6
        rw [if_neg (by omega), if_neg (by omega), if_neg (by omega), if_neg (by omega), if_neg (by omega), if_neg (by omega), if_pos rfl]
      · by_cases j0 : j = 0
        · subst j0
          rw [if_neg (by omega), if_neg (by omega), if_neg (by omega), if_neg (by omega), if_neg (by omega), if_neg (by omega), if_neg (by omega), if_pos rfl, hs 0 (by omega)]
          exact k_p hK
        · rw [if_neg j7, if_neg j6, if_neg j0]
end MN
