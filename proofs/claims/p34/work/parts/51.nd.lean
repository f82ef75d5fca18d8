/-! hand: the call -/
section ND
variable {D : am_D} {n p : Nat} {T V : Nat → Nat}
theorem q113_4 {N : Nat} {v : Int32} {f : Nat → Int32} : ∀ (r i a m : Nat) (D : am_D), i + r = 28 → r < m → (∀ t, t < 28 → q_P D t = f t) → a + (q_hl f v i r).length ≤ 7 →
    ∃ D', m113_L4 N v m D (Int32.ofNat a) (Int32.ofNat i) = some (Int32.ofNat (a + (q_hl f v i r).length), D') ∧ (∀ j, j < (q_hl f v i r).length → D'.1 113 (a + j) = Int32.ofNat ((q_hl f v i r).getD j 0)) ∧ (∀ j, j < a → D'.1 113 j = D.1 113 j) ∧ (∀ b, b ≠ 113 → D'.1 b = D.1 b) ∧ D'.2 = D.2
  | 0, i, a, m + 1, D, hi, hm, hf, h7 => by
    obtain rfl : i = 28 := by omega
    refine ⟨D, ?_, fun j hj => absurd hj (Nat.not_lt_zero _), fun _ _ => rfl, fun _ _ => rfl, rfl⟩
    rw [m113_L4, if_pos (by decide)]
    rfl
  | r + 1, i, a, m + 1, D, hi, hm, hf, h7 => by
    have hi28 : i < 28 := by omega
    rw [m113_L4, if_neg (show ¬ (28 : Int32) ≤ Int32.ofNat i from q_nle (b := 28) (by omega) hi28), q56 D hi28, hf i hi28, Option.bind_some]
    simp only [am_lt]
    rw [show Int32.ofNat i + 1 = Int32.ofNat (i + 1) from q_add i 1]
    by_cases c : f i = v
    · have e : q_hl f v i (r + 1) = i :: q_hl f v (i + 1) r := if_pos c
      rw [e, List.length_cons] at h7
      have i7 : 0 ≤ Int32.ofNat a ∧ Int32.ofNat a < 7 := q_in (n := 7) (by omega) (by omega)
      rw [if_pos c, if_neg (show ¬ (1 : Int32) = 0 by decide), if_pos i7, q_tn (show a < 2147483648 by omega), Option.bind_some, show Int32.ofNat a + 1 = Int32.ofNat (a + 1) from q_add a 1]
      obtain ⟨D', g1, g3, g4, g5, g6⟩ := q113_4 (N := N) (v := v) (f := f) r (i + 1) (a + 1) m (am_uI D 113 a (Int32.ofNat i)) (by omega) (by omega) (fun t ht => by
        show (am_uI D 113 a (Int32.ofNat i)).1 107 (25 + t) = _
        rw [q_uI_ne _ (by omega)]; exact hf t ht) (by omega)
      refine ⟨D', ?_, fun j hj => ?_, fun j hj => ?_, fun b h1 => ?_, g6⟩
      · rw [g1, e, List.length_cons, show a + 1 + (q_hl f v (i + 1) r).length = a + ((q_hl f v (i + 1) r).length + 1) by omega]
      · rw [e]
        cases j with
        | zero =>
          rw [Nat.add_zero, g4 a (by omega), q_uIs]; rfl
        | succ j =>
          have := g3 j (by rw [e, List.length_cons] at hj; omega)
          rw [show a + (j + 1) = a + 1 + j by omega, this]; rfl
      · rw [g4 j (by omega), q_uI_at, if_neg (by omega)]
      · rw [g5 b h1, q_uI_ne _ h1]
    · have e : q_hl f v i (r + 1) = q_hl f v (i + 1) r := if_neg c
      rw [if_neg c, if_pos rfl, Option.bind_some]
      obtain ⟨D', g1, g3, g4, g5, g6⟩ := q113_4 (N := N) (v := v) (f := f) r (i + 1) a m D (by omega) (by omega) hf (by rw [e] at h7; exact h7)
      exact ⟨D', by rw [e]; exact g1, by rw [e]; exact g3, g4, g5, g6⟩
  | _, _, _, 0, _, _, hm, _, _ => by omega
theorem q_top_un {H : Nat → Nat} {k a b : Nat} (h1 : q_top H k a) (h2 : q_top H k b) : a = b := by
  obtain ⟨⟨v, L, z, g1, g2, g3⟩, g4⟩ := h1
  obtain ⟨⟨v', L', z', k1, k2, k3⟩, k4⟩ := h2
  have := g4 v' L' z' k1 k2
  have := k4 v L z g1 g2
  omega
theorem q113 {N : Nat} (hN : 2000 ≤ N) (hB : q_B D) {f : Nat → Int32} {v : Int32} (hf : ∀ t, t < 28 → q_P D t = f t) (h7 : q_cnt f v ≤ 7) : ∃ l D', m113 N D v = some (Int32.ofNat l, D') ∧ q_top (fun j => (q_hl f v 0 28).getD j 0) (q_cnt f v) l ∧ (∀ b, b ≠ 113 → b ≠ 114 → D'.1 b = D.1 b) ∧ D'.2 = D.2 := by
  have hlen : (q_hl f v 0 28).length = q_cnt f v := by rw [q_cnt_def]; exact q_hl_len 28 0
  obtain ⟨D1, g1, g3, g4, g5, g6⟩ := q113_4 (N := N) (v := v) (f := f) 28 0 0 N D (by omega) (by omega) hf (by omega)
  rw [Nat.zero_add, hlen] at g1
  have hH : ∀ j, (fun j => (q_hl f v 0 28).getD j 0) j < 28 := fun j => by
    show (q_hl f v 0 28).getD j 0 < 28
    by_cases c : j < (q_hl f v 0 28).length
    · have := q_hl_lt (f := f) (v := v) 28 0 j c
      omega
    · rw [List.getD_eq_getElem?_getD, List.getElem?_eq_none (by omega)]
      show 0 < 28
      omega
  have hp := Nat.one_le_two_pow (n := q_cnt f v)
  have hp7 : 2 ^ q_cnt f v ≤ 2 ^ 7 := Nat.pow_le_pow_right (by omega) h7
  obtain ⟨l, D', e1, e2, e3, e4, e5⟩ := q113_40 (N := N) hN h7 hH (2 ^ q_cnt f v - 1) 1 0 N D1 (by omega) (by omega) (by omega) (fun A a1 a2 => by omega) (by omega) (Or.inl rfl) (fun A u a1 a2 => by omega) (fun j hj => by
    have := g3 j (by omega)
    rw [Nat.zero_add] at this
    exact this) (by intro t ht; rw [g5 109 (by omega), g5 110 (by omega)]; exact hB t ht)
  refine ⟨l, D', ?_, ⟨?_, fun v' L z hv h => ?_⟩, fun b h1 h2 => by rw [e4 b h2, g5 b h1], by rw [e5, g6]⟩
  · unfold m113
    have g1' : m113_L4 N v N D 0 0 = some (Int32.ofNat (q_cnt f v), D1) := g1
    have e1' : m113_L40 N (Int32.ofNat (q_cnt f v)) N D1 0 1 = some (Int32.ofNat l, D') := e1
    rw [g1', Option.bind_some]
    show (m113_L40 N (Int32.ofNat (q_cnt f v)) N D1 0 1).bind _ = _
    rw [e1']; rfl
  · rcases e2 with rfl | ⟨A, u, a1, a2, a3, ⟨v', L, hv, h⟩, a5⟩
    · exact ⟨0, [], _, by omega, rfl, rfl⟩
    · obtain ⟨f1, f2⟩ := q_full h7 a2
      obtain ⟨p1, p2, p3, p4⟩ := q_bb6 (q_cnt f v) (by omega)
      have hl := (q_run_len L f1 h).2.1
      obtain ⟨z', hz⟩ := q_run_mono L f1 p1 (fun j hj q => by
        rw [p3 j hj]
        simpa using f2 j hj q) h
      have : q_bc 0 = 0 := by decide
      exact ⟨v', L, z', hv, hz, by omega⟩
  · obtain ⟨p1, p2, p3, p4⟩ := q_bb6 (q_cnt f v) (by omega)
    obtain ⟨A, a1, a2, a3, a4⟩ := q_run_just L p1 h
    by_cases c : A = 0
    · subst c
      have : q_bc 0 = 0 := by decide
      omega
    · have := e3 A z.1 (by omega) (q_bb4 A a1 _ (by omega) a4) (q_run_lt hH L hv h) ⟨v', L, hv, a2⟩
      omega
theorem g_hand {N : Nat} (hN : 2000 ≤ N) (hI : q_I D) (v1 v2 : Int32) : q_G (fun D => m278 N D v1 v2) (fun D => m116 N D v1 v2) D := by
  obtain ⟨n, p, T, V, hK⟩ := q_I_K hI
  have hB := hI.1
  rcases q40 v1 with ⟨x, hx, rfl, e1, e2⟩ | ⟨e1, e2⟩
  · have ne1 : ¬ m40 (Int32.ofNat x) = 0 := by rw [e1]; decide
    rcases q46 (v := v2) (a := 0) (b := 9) (by omega) (by omega) with ⟨w, -, hw, rfl, e3⟩ | ⟨e3, e4⟩
    · simp only [← q_l0, ← q_l9] at e3
      have i1320 : ∀ a, a < 1320 → 0 ≤ Int32.ofNat a ∧ Int32.ofNat a < 1320 := fun a ha => q_in (n := 1320) (by omega) ha
      -- the model's beginning
      have ma : ∀ (F F' : am_D) (z : Int32), m115 N (am_uI F 106 0 0) (Int32.ofNat x) (Int32.ofNat w) = some (z, F') → m116 N F (Int32.ofNat x) (Int32.ofNat w) = some (z, F') := fun F F' z h => by
        unfold m116
        simp only [am_lt, e2, e3, q_10, if_false, q47a, h, Option.bind_some]
      have ca : ∀ (X : Int32), m21 N D (Int32.ofNat x) (Int32.ofNat w) = some (Sum.inl X, D) → m278 N D (Int32.ofNat x) (Int32.ofNat w) = some (0, am_uJ D 124 0 X.toInt64) := fun X h => by
        unfold m278
        rw [h]
        rfl
      have hrow : ∀ (y : Int32) (k : Nat), (am_uI (am_uJ D 124 0 y.toInt64) 106 0 0).1 107 k = D.1 107 k := fun y k => by rw [q_uI_ne _ (by omega)]; rfl
      have fcnt : q_cnt (D.1 7) = q_cnt (q_P D) := funext fun v => q_cnt_congr (k_pl hK)
      have fpip : q_pips (D.1 7) = q_pips (q_P D) := funext fun v => q_pips_congr (k_pl hK)
      have fdbl : q_dbl (D.1 7) = q_dbl (q_P D) := funext fun v => q_dbl_congr (k_pl hK)
      have ffst : q_fst (D.1 7) (Int32.ofNat x) 0 28 = q_fst (q_P D) (Int32.ofNat x) 0 28 := q_fst_congr 28 0 (fun t _ ht => k_pl hK t (by omega))
      have a13 : (13 : Int32) + Int32.ofNat x = Int32.ofNat (13 + x) := by rw [q_l13, q_add]
      have a17 : (17 : Int32) + Int32.ofNat x = Int32.ofNat (17 + x) := by rw [q_l17, q_add]
      have a21 : (21 : Int32) + Int32.ofNat x = Int32.ofNat (21 + x) := by rw [q_l21, q_add]
      obtain rfl | rfl | rfl | rfl | rfl | rfl | rfl | rfl | rfl | rfl : w = 0 ∨ w = 1 ∨ w = 2 ∨ w = 3 ∨ w = 4 ∨ w = 5 ∨ w = 6 ∨ w = 7 ∨ w = 8 ∨ w = 9 := by omega
      · refine q_G_rd hI (Int32.ofNat (q_cnt (q_P D) (Int32.ofNat x))) (ca _ ?_) (ma _ _ _ ?_)
        · unfold m21
          rw [if_neg ne1, if_pos rfl, q204 hN, fcnt]; rfl
        · unfold m115
          rw [if_pos rfl, q57 hN, q_E_P (q_mE _ _ _)]; rfl
      · refine q_G_rd hI (Int32.ofNat (q_pips (q_P D) (Int32.ofNat x))) (ca _ ?_) (ma _ _ _ ?_)
        · unfold m21
          rw [if_neg ne1, if_neg (by decide), if_pos rfl, q205 hN, fpip]; rfl
        · unfold m115
          rw [if_neg (by decide), if_pos rfl, q58 hN (q_m_B hB _ _), q_E_P (q_mE _ _ _)]; rfl
      · refine q_G_rd hI (D.1 107 (13 + x)) (ca _ ?_) (ma _ _ _ ?_)
        · unfold m21
          rw [if_neg ne1, if_neg (by decide), if_neg (by decide), if_pos rfl, q_rt4 _ hx, k_ti hK x hx]
        · unfold m115
          rw [if_neg (by decide), if_neg (by decide), if_pos rfl, a13, if_pos (i1320 _ (by omega)), q_tn (by omega), hrow]
      · refine q_G_rd hI (D.1 107 (17 + x)) (ca _ ?_) (ma _ _ _ ?_)
        · unfold m21
          rw [if_neg ne1, if_neg (by decide), if_neg (by decide), if_neg (by decide), if_pos rfl, q_rt4 _ hx, k_la hK x hx]
        · unfold m115
          rw [if_neg (by decide), if_neg (by decide), if_neg (by decide), if_pos rfl, a17, if_pos (i1320 _ (by omega)), q_tn (by omega), hrow]
      · refine q_G_rd hI (Int32.ofNat (q_fit D (Int32.ofNat x))) (ca _ ?_) (ma _ _ _ ?_)
        · unfold m21
          rw [if_neg ne1, if_neg (by decide), if_neg (by decide), if_neg (by decide), if_neg (by decide), if_pos rfl, q208 hN]; rfl
        · unfold m115
          rw [if_neg (by decide), if_neg (by decide), if_neg (by decide), if_neg (by decide), if_pos rfl, q68 hN (q_m_B hB _ _) (q_m_K hK _ _), q_E_fit (q_mE _ _ _)]; rfl
      · refine q_G_rd hI (D.1 107 (21 + x)) (ca _ ?_) (ma _ _ _ ?_)
        · unfold m21
          rw [if_neg ne1, if_neg (by decide), if_neg (by decide), if_neg (by decide), if_neg (by decide), if_neg (by decide), if_pos rfl, q_rt4 _ hx, k_pa hK x hx]
        · unfold m115
          rw [if_neg (by decide), if_neg (by decide), if_neg (by decide), if_neg (by decide), if_neg (by decide), if_pos rfl, a21, if_pos (i1320 _ (by omega)), q_tn (by omega), hrow]
      · refine q_G_rd hI (Int32.ofNat (q_dbl (q_P D) (Int32.ofNat x))) (ca _ ?_) (ma _ _ _ ?_)
        · unfold m21
          rw [if_neg ne1, if_neg (by decide), if_neg (by decide), if_neg (by decide), if_neg (by decide), if_neg (by decide), if_neg (by decide), if_pos rfl, q206 hN, fdbl]; rfl
        · unfold m115
          rw [if_neg (by decide), if_neg (by decide), if_neg (by decide), if_neg (by decide), if_neg (by decide), if_neg (by decide), if_pos rfl, q81 hN (q_m_B hB _ _), q_E_P (q_mE _ _ _)]; rfl
      · refine q_G_rd hI (q_fst (q_P D) (Int32.ofNat x) 0 28) (ca _ ?_) (ma _ _ _ ?_)
        · unfold m21
          rw [if_neg ne1, if_neg (by decide), if_neg (by decide), if_neg (by decide), if_neg (by decide), if_neg (by decide), if_neg (by decide), if_neg (by decide), if_pos rfl, q207 hN, ffst]; rfl
        · unfold m115
          rw [if_neg (by decide), if_neg (by decide), if_neg (by decide), if_neg (by decide), if_neg (by decide), if_neg (by decide), if_neg (by decide), if_pos rfl, q114 hN, q_E_P (q_mE _ _ _)]; rfl
      · refine q_G_rd hI (Int32.ofNat (q_np D p x)) (ca _ ?_) (ma _ _ _ ?_)
        · unfold m21
          rw [if_neg ne1, if_neg (by decide), if_neg (by decide), if_neg (by decide), if_neg (by decide), if_neg (by decide), if_neg (by decide), if_neg (by decide), if_neg (by decide), if_pos rfl, q221 hN hK hx]; rfl
        · unfold m115
          rw [if_neg (by decide), if_neg (by decide), if_neg (by decide), if_neg (by decide), if_neg (by decide), if_neg (by decide), if_neg (by decide), if_neg (by decide), if_pos rfl, q69 hN (q_m_B hB _ _) (q_m_K hK _ _) hx, q_E_np (q_mE _ _ _)]; rfl
      · obtain ⟨l, D', g1, g2, g3, g4⟩ := q258 (N := N) hN (f := q_P D) (v := Int32.ofNat x) (k_pl hK) (k_h7 hK x hx)
        have hE : q_E D D' := ⟨fun a ha => g3 a (by omega) (by omega), ⟨by rw [g3 106 (by omega) (by omega)], by rw [g3 106 (by omega) (by omega)], by rw [g3 106 (by omega) (by omega)]⟩, by rw [g4]⟩
        have hE2 := hE.tr (q_mE D' (Int32.ofNat l).toInt64 0)
        obtain ⟨l', D2, k1, k2, k3, k4⟩ := q113 (N := N) (D := am_uI (am_uJ D' 124 0 (Int32.ofNat l).toInt64) 106 0 0) hN (q_E_B hE2 hB) (f := q_P D) (v := Int32.ofNat x) (fun t _ => by rw [q_E_P hE2]) (k_h7 hK x hx)
        obtain rfl := q_top_un g2 k2
        have hE3 : q_E (am_uI (am_uJ D' 124 0 (Int32.ofNat l).toInt64) 106 0 0) D2 := ⟨fun a ha => k3 a (by omega) (by omega), ⟨by rw [k3 106 (by omega) (by omega)], by rw [k3 106 (by omega) (by omega)], by rw [k3 106 (by omega) (by omega)]⟩, by rw [k4]⟩
        refine q_G_ok (D' := D') (D2 := D2) (Int32.ofNat l) ?_ (ma _ _ _ ?_) ?_ ?_ (q_E_I (hE2.tr hE3) hI)
        · show m278 N D _ _ = _
          unfold m278 m21
          rw [if_neg ne1, if_neg (by decide), if_neg (by decide), if_neg (by decide), if_neg (by decide), if_neg (by decide), if_neg (by decide), if_neg (by decide), if_neg (by decide), if_neg (by decide), if_pos rfl, g1]
          rfl
        · unfold m115
          rw [if_neg (by decide), if_neg (by decide), if_neg (by decide), if_neg (by decide), if_neg (by decide), if_neg (by decide), if_neg (by decide), if_neg (by decide), if_neg (by decide), k1]; rfl
        · rw [k3 106 (by omega) (by omega)]; exact q_uIs _ _ _ _
        · rw [k4]; rfl
    · refine q_G_ex hI 2 (by omega) ?_ ?_
      · show m278 N D _ _ = _
        unfold m278 m21
        have e5 := q_n4 v2 (b := 9) (by omega) e4
        simp only [ne1, if_false, e5 0 (by omega), e5 1 (by omega), e5 2 (by omega), e5 3 (by omega), e5 4 (by omega), e5 5 (by omega), e5 6 (by omega), e5 7 (by omega), e5 8 (by omega), e5 9 (by omega), Option.bind_some]
        rfl
      · show m116 N D _ _ = _
        unfold m116
        simp only [← q_l0, ← q_l9] at e3
        simp only [am_lt, e2, e3, q_10, if_false, if_true, q47c]
        rfl
  · refine q_G_ex hI 1 (by omega) ?_ ?_
    · show m278 N D _ _ = _
      unfold m278 m21
      rw [if_pos e1]
      rfl
    · show m116 N D _ _ = _
      unfold m116
      simp only [am_lt, e2, if_true, q47b]
      rfl
end ND
