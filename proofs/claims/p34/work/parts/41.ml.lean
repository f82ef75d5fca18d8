/-! pass -/
section ML
variable {D : am_D} {n p : Nat} {T V : Nat → Nat}
theorem q_neg {k : Nat} (h : k < 2147483648) : (-Int32.ofNat k).toInt = -(k : Int) := by
  rw [Int32.neg_ofNat, Int32.toInt_ofInt_of_le (by omega) (by omega)]
theorem q_sneg {a b : Nat} (h : a ≤ b) : Int32.ofNat a - Int32.ofNat b = -Int32.ofNat (b - a) := by
  rw [← q_sub h, Int32.neg_sub]
theorem q_bit : ∀ v, v < 7 → m225 (Int32.ofNat v) = Int32.ofNat (2 ^ v) ∧ (1 : Int32) <<< (Int32.ofNat v &&& 31) = Int32.ofNat (2 ^ v) := by decide +kernel
theorem q_or {a b : Nat} : Int32.ofNat a ||| Int32.ofNat b = Int32.ofNat (a ||| b) := by
  apply Int32.toBitVec.inj
  show BitVec.ofNat 32 a ||| BitVec.ofNat 32 b = BitVec.ofNat 32 (a ||| b)
  rw [BitVec.ofNat_or]
theorem q_pow7 : ∀ v, v < 7 → 2 ^ v < 128 := by decide
/-- what is lacked -/
noncomputable def q_lk (D : am_D) (V0 V1 x : Nat) : Int32 := if D.1 107 (13 + x) ≤ 0 then D.1 107 (17 + x) else D.1 107 (17 + x) ||| (Int32.ofNat (2 ^ V0) ||| Int32.ofNat (2 ^ V1))
/-- what a block brings: to team 0, to team 1 -/
noncomputable def q_y0 (f : Nat → Int32) : Nat := (q_pips f (Int32.ofNat 1) + q_pips f (Int32.ofNat 3) - (q_pips f (Int32.ofNat 0) + q_pips f (Int32.ofNat 2))) / 5
noncomputable def q_y1 (f : Nat → Int32) : Nat := (q_pips f (Int32.ofNat 0) + q_pips f (Int32.ofNat 2) - (q_pips f (Int32.ofNat 1) + q_pips f (Int32.ofNat 3))) / 5
theorem q226 {N : Nat} (hN : 2000 ≤ N) (D : am_D) : m226 N D = some (if q_pips (D.1 7) (Int32.ofNat 1) + q_pips (D.1 7) (Int32.ofNat 3) ≤ q_pips (D.1 7) (Int32.ofNat 0) + q_pips (D.1 7) (Int32.ofNat 2) then am_uI D 11 1 (D.1 11 1 + Int32.ofNat (q_y1 (D.1 7))) else am_uI D 11 0 (D.1 11 0 + Int32.ofNat (q_y0 (D.1 7)))) := by
  have h0 := q_pips_le (D.1 7) (Int32.ofNat 0)
  have h1 := q_pips_le (D.1 7) (Int32.ofNat 1)
  have h2 := q_pips_le (D.1 7) (Int32.ofNat 2)
  have h3 := q_pips_le (D.1 7) (Int32.ofNat 3)
  unfold m226
  rw [q_l0, q_l1, q_l2, q_l3, q205 hN, q205 hN, q205 hN, q205 hN]
  simp only [am_lt, Option.bind_some, q_add]
  by_cases c : q_pips (D.1 7) (Int32.ofNat 1) + q_pips (D.1 7) (Int32.ofNat 3) ≤ q_pips (D.1 7) (Int32.ofNat 0) + q_pips (D.1 7) (Int32.ofNat 2)
  · rw [if_pos (q_yle (by omega) c), if_pos c, q_sub c, q_l5, q_div (by omega) (by omega), q_ra_at _ _ _ _ (by omega) (by omega)]
    rfl
  · rw [if_neg (q_nle (by omega) (by omega)), if_neg c, q_sub (by omega), q_l5, q_div (by omega) (by omega), q_ra_at _ _ _ _ (by omega) (by omega)]
    rfl
/-- with all tiles in the hands each can lay -/
theorem q_first (hK : q_K D n 1 T V) {x : Nat} (hx : x < 4) (hn : n = 0) : 0 < q_fit D (Int32.ofNat x) := by
  have e1 := q_part (k_pw hK)
  have e5 : q_cnt (q_P D) (Int32.ofNat 5) = 0 := q_cnt_0.mpr (k_nob hK (by omega))
  have e4 : q_cnt (q_P D) (Int32.ofNat 4) = 0 := q_cnt_0.mpr (fun t ht e => by
    obtain ⟨k, hk, -⟩ := (k_in hK t ht).mp e
    omega)
  rw [q_all_eq] at e1
  have b0 := k_h7 hK 0 (by omega)
  have b1 := k_h7 hK 1 (by omega)
  have b2 := k_h7 hK 2 (by omega)
  have b3 := k_h7 hK 3 (by omega)
  have hc : q_cnt (q_P D) (Int32.ofNat x) = 7 := by
    obtain rfl | rfl | rfl | rfl : x = 0 ∨ x = 1 ∨ x = 2 ∨ x = 3 := by omega
    all_goals omega
  have : q_fit D (Int32.ofNat x) = q_cnt (q_P D) (Int32.ofNat x) := by
    rw [q_fit_def, q_cnt_def]
    refine q_S_congr 28 0 (fun t _ ht => ?_)
    rw [k_pl hK t (by omega), q159 hK (by omega), if_pos (Or.inl hn)]
    by_cases c : q_P D t = Int32.ofNat x
    · rw [if_pos ⟨c, by decide⟩, if_pos c]
    · rw [if_neg (fun q => c q.1), if_neg c]
  omega
theorem q_nn2 (x : Int32) : ¬ x ≤ 0 ↔ 0 < x := Int32.not_le
/-- who passes: it is a hand's turn, and with time nothing fits -/
theorem q_np0 (hK : q_K D n p T V) {x : Nat} (h : q_np D p x = 0) : p = 1 ∧ D.1 107 1 = Int32.ofNat x ∧ (D.1 107 (13 + x) ≤ 0 ∨ q_fit D (Int32.ofNat x) = 0) := by
  unfold q_np at h
  by_cases hp : p = 1
  · rw [if_pos hp] at h
    by_cases h1 : D.1 107 1 = Int32.ofNat x
    · rw [if_pos h1] at h
      by_cases h2 : D.1 107 (13 + x) ≤ Int32.ofNat 0
      · exact ⟨hp, h1, Or.inl h2⟩
      · rw [if_neg h2] at h
        by_cases h3 : q_fit D (Int32.ofNat x) = 0
        · exact ⟨hp, h1, Or.inr h3⟩
        · rw [if_neg h3] at h; omega
    · rw [if_neg h1] at h; omega
  · rw [if_neg hp] at h; omega
/-- the class passes -/
theorem q224 {N : Nat} (hN : 2000 ≤ N) (hK : q_K D n 1 T V) {x r : Nat} (hx : x < 4) (hr : r ≤ 3) (h4 : D.1 107 4 = Int32.ofNat r) (hn : ¬ D.1 107 (13 + x) ≤ 0 → 0 < n) :
    ∃ D', m224 N D (Int32.ofNat x) = some (Int32.ofNat (r + 1), D') ∧
      (∀ b, D'.1 1 b = if b = 7 then (if r = 3 then q_nn else Int32.ofNat ((x + 1) % 4)) else if b = 6 then (if r = 3 then Int32.ofNat 2 else Int32.ofNat 1) else if b = 11 then Int32.ofNat (r + 1) else if b = 14 then D.1 1 14 + 1 else D.1 1 b) ∧
      (∀ b, D'.1 9 b = if b = x then q_lk D (V 0) (q_pip (T (n - 1)) - V (n - 1)) x else D.1 9 b) ∧ (∀ b, D'.1 10 b = if b = x then D.1 10 x + 1 else D.1 10 b) ∧
      (∀ b, D'.1 11 b = if r = 3 then (if b = 0 then D.1 11 0 + Int32.ofNat (q_y0 (q_P D)) else if b = 1 then D.1 11 1 + Int32.ofNat (q_y1 (q_P D)) else D.1 11 b) else D.1 11 b) ∧
      (∀ a, a = 0 ∨ (2 ≤ a ∧ a ≤ 8) ∨ 12 ≤ a → D'.1 a = D.1 a) ∧ D'.2 = D.2 := by
  -- the lacking
  obtain ⟨F, f0, f1, f2, f3⟩ : ∃ F, (if (am_rat (D.1 8) 4 (Int32.ofNat x)) ≤ 0 then D else (am_lt ((m225 (m156 D (0 : Int32))) ||| (m225 (m156 D (1 : Int32)))) fun x5 => (am_lt (am_rput D 9 4 (Int32.ofNat x) ((am_rat (D.1 9) 4 (Int32.ofNat x)) ||| x5)) fun D7 => D7))) = F ∧ (∀ a, a ≠ 9 → F.1 a = D.1 a) ∧ (∀ b, F.1 9 b = if b = x then q_lk D (V 0) (q_pip (T (n - 1)) - V (n - 1)) x else D.1 9 b) ∧ F.2 = D.2 := by
    refine ⟨_, rfl, ?_⟩
    rw [q_rt4 _ hx, k_ti hK x hx]
    unfold q_lk
    by_cases c : D.1 107 (13 + x) ≤ 0
    · rw [if_pos c, if_pos c]
      refine ⟨fun _ _ => rfl, fun b => ?_, rfl⟩
      by_cases hb : b = x
      · rw [if_pos hb, hb, k_la hK x hx]
      · rw [if_neg hb]
    · have h0 := hn c
      obtain ⟨a1, a2, -⟩ := k_k hK 0 h0
      obtain ⟨a3, a4, -⟩ := k_k hK (n - 1) (by omega)
      have e0 : m156 D 0 = Int32.ofNat (V 0) := by
        show D.1 2 5 = _
        rw [k_e0 hK, if_neg (by omega)]
      have e1 : m156 D 1 = Int32.ofNat (q_pip (T (n - 1)) - V (n - 1)) := by
        show D.1 2 6 = _
        rw [k_e1 hK, if_neg (by omega)]
      rw [if_neg c, if_neg c, e0, e1, (q_bit _ (q_v7 a1 a2).1).1, (q_bit _ (q_v7 a3 a4).2).1, q_rt4 _ hx, k_la hK x hx]
      simp only [am_lt]
      rw [q_rp_at _ _ _ _ (by omega) hx]
      refine ⟨fun a ha => q_uI_ne _ ha, fun b => ?_, rfl⟩
      rw [q_uI_at]
      simp only [true_and]
  have h4' : D.1 1 11 = Int32.ofNat r := by rw [k_ro hK]; exact h4
  obtain ⟨G, hG⟩ : ∃ G, G = am_uI (am_uI (am_uI F 10 x (F.1 10 x + 1)) 1 14 (D.1 1 14 + 1)) 1 11 (Int32.ofNat (r + 1)) := ⟨_, rfl⟩
  have g1 : ∀ b, G.1 1 b = if b = 11 then Int32.ofNat (r + 1) else if b = 14 then D.1 1 14 + 1 else D.1 1 b := fun b => by
    rw [hG]
    simp only [q_uI_at, true_and]
    simp (decide := true) only [false_and, if_false]
    rw [f1 1 (by omega)]
  have go : ∀ a, a ≠ 1 → a ≠ 10 → G.1 a = F.1 a := fun a h1 h2 => by rw [hG, q_uI_ne _ h1, q_uI_ne _ h1, q_uI_ne _ h2]
  have g10 : ∀ b, G.1 10 b = if b = x then D.1 10 x + 1 else D.1 10 b := fun b => by
    rw [hG, q_uI_ne _ (by omega), q_uI_ne _ (by omega), q_uI_at, f1 10 (by omega)]
    simp only [true_and]
  have g2 : G.2 = D.2 := by rw [hG]; exact f3
  have em : m224 N D (Int32.ofNat x) = (if (G.1 1 11) < (4 : Int32) then (am_lt (am_uI G 1 7 (m185 (Int32.ofNat x))) fun D16 => (some ((D16.1 1 11), D16))) else ((m226 N G).bind fun q18 => (am_lt (m227 q18) fun q20 => (some ((q20.1 1 11), q20))))) := by
    unfold m224
    rw [f0]
    simp only [am_lt]
    rw [q_ra_at _ _ _ _ (by omega) hx]
    have z1 : (am_uI F 10 x (F.1 10 x + 1)).1 1 14 = D.1 1 14 := by rw [q_uI_ne _ (by omega), f1 1 (by omega)]
    rw [z1]
    have z2 : (am_uI (am_uI F 10 x (F.1 10 x + 1)) 1 14 (D.1 1 14 + 1)).1 1 11 = Int32.ofNat r := by rw [q_uI_at, if_neg (by omega), q_uI_ne _ (by omega), f1 1 (by omega)]; exact h4'
    rw [z2]
    have z3 : Int32.ofNat r + 1 = Int32.ofNat (r + 1) := q_add r 1
    rw [z3, ← hG]
  have g11 : G.1 1 11 = Int32.ofNat (r + 1) := by rw [g1, if_pos rfl]
  rw [em, g11]
  by_cases c : r = 3
  · subst c
    rw [if_neg (by decide), q226 hN, Option.bind_some]
    have hp : q_pips (G.1 7) = q_pips (q_P D) := by
      funext v
      rw [go 7 (by omega) (by omega), f1 7 (by omega)]
      exact q_pips_congr (k_pl hK)
    have hb0 : q_y0 (G.1 7) = q_y0 (q_P D) := by unfold q_y0; rw [hp]
    have hb1 : q_y1 (G.1 7) = q_y1 (q_P D) := by unfold q_y1; rw [hp]
    rw [hp, hb0, hb1]
    have w11 : ∀ b, G.1 11 b = D.1 11 b := fun b => by rw [go 11 (by omega) (by omega), f1 11 (by omega)]
    obtain ⟨H, hH0, hH1, hH2, hH3⟩ : ∃ H, (if q_pips (q_P D) (Int32.ofNat 1) + q_pips (q_P D) (Int32.ofNat 3) ≤ q_pips (q_P D) (Int32.ofNat 0) + q_pips (q_P D) (Int32.ofNat 2) then am_uI G 11 1 (G.1 11 1 + Int32.ofNat (q_y1 (q_P D))) else am_uI G 11 0 (G.1 11 0 + Int32.ofNat (q_y0 (q_P D)))) = H ∧ (∀ a, a ≠ 11 → H.1 a = G.1 a) ∧ (∀ b, H.1 11 b = if b = 0 then D.1 11 0 + Int32.ofNat (q_y0 (q_P D)) else if b = 1 then D.1 11 1 + Int32.ofNat (q_y1 (q_P D)) else D.1 11 b) ∧ H.2 = D.2 := by
      refine ⟨_, rfl, ?_⟩
      by_cases cc : q_pips (q_P D) (Int32.ofNat 1) + q_pips (q_P D) (Int32.ofNat 3) ≤ q_pips (q_P D) (Int32.ofNat 0) + q_pips (q_P D) (Int32.ofNat 2)
      · rw [if_pos cc]
        refine ⟨fun a ha => q_uI_ne _ ha, fun b => ?_, g2⟩
        have z : q_y0 (q_P D) = 0 := by unfold q_y0; omega
        rw [z, q_uI_at, w11, w11]
        by_cases b0 : b = 0
        · subst b0
          rw [if_neg (by omega), if_pos rfl]
          exact (Int32.add_zero _).symm
        · rw [if_neg b0]
          by_cases b1 : b = 1
          · rw [if_pos ⟨rfl, b1⟩, if_pos b1]
          · rw [if_neg (fun q => b1 q.2), if_neg b1]
      · rw [if_neg cc]
        refine ⟨fun a ha => q_uI_ne _ ha, fun b => ?_, g2⟩
        have z : q_y1 (q_P D) = 0 := by unfold q_y1; omega
        rw [z, q_uI_at, w11, w11]
        by_cases b0 : b = 0
        · rw [if_pos ⟨rfl, b0⟩, if_pos b0]
        · rw [if_neg (fun q => b0 q.2), if_neg b0]
          by_cases b1 : b = 1
          · rw [if_pos b1, b1]
            exact (Int32.add_zero _).symm
          · rw [if_neg b1]
    rw [hH0]
    refine ⟨m227 H, ?_, fun b => ?_, fun b => ?_, fun b => ?_, fun b => ?_, fun a ha => ?_, hH3⟩
    · simp only [am_lt]
      have : (m227 H).1 1 11 = Int32.ofNat (3 + 1) := by
        show (am_uI (am_uI H 1 6 2) 1 7 (-1)).1 1 11 = _
        rw [q_uI_at, if_neg (by omega), q_uI_at, if_neg (by omega), hH1 1 (by omega)]; exact g11
      rw [this]
    · show (am_uI (am_uI H 1 6 2) 1 7 (-1)).1 1 b = _
      rw [q_uI_at, q_uI_at, hH1 1 (by omega), g1 b, if_pos rfl, if_pos rfl]
      simp only [true_and]
      rfl
    · show (am_uI (am_uI H 1 6 2) 1 7 (-1)).1 9 b = _
      rw [q_uI_ne _ (by omega), q_uI_ne _ (by omega), hH1 9 (by omega), go 9 (by omega) (by omega)]; exact f2 b
    · show (am_uI (am_uI H 1 6 2) 1 7 (-1)).1 10 b = _
      rw [q_uI_ne _ (by omega), q_uI_ne _ (by omega), hH1 10 (by omega)]; exact g10 b
    · show (am_uI (am_uI H 1 6 2) 1 7 (-1)).1 11 b = _
      rw [q_uI_ne _ (by omega), q_uI_ne _ (by omega), if_pos rfl]; exact hH2 b
    · show (am_uI (am_uI H 1 6 2) 1 7 (-1)).1 a = _
      rw [q_uI_ne _ (by omega), q_uI_ne _ (by omega), hH1 a (by omega), go a (by omega) (by omega), f1 a (by omega)]
  · rw [if_pos (show Int32.ofNat (r + 1) < 4 from q_ylt (b := 4) (by omega) (by omega))]
    refine ⟨am_uI G 1 7 (m185 (Int32.ofNat x)), ?_, fun b => ?_, fun b => ?_, fun b => ?_, fun b => ?_, fun a ha => ?_, g2⟩
    · simp only [am_lt]
      rw [q_uI_at, if_neg (by omega), g11]
    · rw [q_uI_at, g1 b, if_neg c, if_neg c, (q_md4 x hx).1]
      simp only [true_and]
      by_cases b7 : b = 7
      · rw [if_pos b7, if_pos b7]
      · rw [if_neg b7, if_neg b7]
        by_cases b6 : b = 6
        · subst b6
          rw [if_neg (by omega), if_neg (by omega), if_pos rfl]
          exact k_p' hK
        · rw [if_neg b6]
    · rw [q_uI_ne _ (by omega), go 9 (by omega) (by omega)]; exact f2 b
    · rw [q_uI_ne _ (by omega)]; exact g10 b
    · rw [q_uI_ne _ (by omega), if_neg c, go 11 (by omega) (by omega), f1 11 (by omega)]
    · rw [q_uI_ne _ (by omega), go a (by omega) (by omega), f1 a (by omega)]
end ML
