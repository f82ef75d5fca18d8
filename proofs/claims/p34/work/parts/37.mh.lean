/-! a tile is laid: the model's chain -/
section MH
variable {D : am_D} {n : Nat} {T V : Nat → Nat}
theorem q70_L {N : Nat} {v1 v3 v4 : Int32} (hn : n ≤ 27) : ∀ (i m : Nat) (E : am_D), i ≤ n → i < m → (∀ j, E.1 107 j = if 109 + i < j ∧ j ≤ 109 + n then D.1 107 (j - 1) else if 137 + i < j ∧ j ≤ 137 + n then D.1 107 (j - 1) else D.1 107 j) → (∀ a, a ≠ 107 → E.1 a = D.1 a) → E.2 = D.2 → ∃ E', m70_L46 N v1 (Int32.ofNat 0) v3 v4 m E (Int32.ofNat i) = some E' ∧ (∀ j, E'.1 107 j = if 109 < j ∧ j ≤ 109 + n then D.1 107 (j - 1) else if 137 < j ∧ j ≤ 137 + n then D.1 107 (j - 1) else D.1 107 j) ∧ (∀ a, a ≠ 107 → E'.1 a = D.1 a) ∧ E'.2 = D.2
  | 0, m + 1, E, hi, hm, h1, h2, h3 => by
    rw [m70_L46, if_pos (show Int32.ofNat 0 ≤ 0 by decide)]
    exact ⟨E, rfl, h1, h2, h3⟩
  | i + 1, m + 1, E, hi, hm, h1, h2, h3 => by
    have e1 : 109 + i < 1320 := by omega
    have e2 : 109 + (i + 1) < 1320 := by omega
    have e3 : 137 + i < 1320 := by omega
    have e4 : 137 + (i + 1) < 1320 := by omega
    have z1 : Int32.ofNat (109 + (i + 1)) - 1 = Int32.ofNat (109 + i) := by rw [q_l1, q_sub (by omega)]; rfl
    have z3 : Int32.ofNat (137 + (i + 1)) - 1 = Int32.ofNat (137 + i) := by rw [q_l1, q_sub (by omega)]; rfl
    have z2 : (109 : Int32) + Int32.ofNat (i + 1) = Int32.ofNat (109 + (i + 1)) := by rw [q_l109, q_add]
    have z4 : (137 : Int32) + Int32.ofNat (i + 1) = Int32.ofNat (137 + (i + 1)) := by rw [q_l137, q_add]
    have i1 : ∀ a, a < 1320 → 0 ≤ Int32.ofNat a ∧ Int32.ofNat a < 1320 := fun a ha => q_in (n := 1320) (by omega) ha
    rw [m70_L46, if_neg (show ¬ Int32.ofNat (i + 1) ≤ 0 from q_nle (a := 0) (b := i + 1) (by omega) (by omega)), if_pos (show Int32.ofNat 0 = 0 from rfl)]
    simp only [am_lt, z1, z2, z3, z4]
    rw [if_pos (i1 _ e1), if_pos (i1 _ e2), if_pos (i1 _ e3), if_pos (i1 _ e4), q_tn (by omega), q_tn (by omega), q_tn (by omega), q_tn (by omega), show Int32.ofNat (i + 1) + (-1 : Int32) = Int32.ofNat i from q_dec i]
    refine q70_L hn i m _ (by omega) (by omega) (fun j => ?_) (fun a ha => by rw [q_uI_ne _ ha, q_uI_ne _ ha, h2 a ha]) h3
    have f1 := h1 (109 + i)
    rw [if_neg (by omega), if_neg (by omega)] at f1
    have f3 := h1 (137 + i)
    rw [if_neg (by omega), if_neg (by omega)] at f3
    simp only [q_uI_at, true_and]
    rw [if_neg (show ¬ 137 + i = 109 + (i + 1) by omega), f1, f3, h1 j]
    by_cases c1 : j = 137 + (i + 1)
    · subst c1
      rw [if_pos rfl, if_neg (by omega), if_pos (by omega)]
      rfl
    · rw [if_neg c1]
      by_cases c2 : j = 109 + (i + 1)
      · subst c2
        rw [if_pos rfl, if_pos (by omega)]
        rfl
      · rw [if_neg c2]
        by_cases d1 : 109 + (i + 1) < j ∧ j ≤ 109 + n
        · rw [if_pos d1, if_pos (by omega)]
        · rw [if_neg d1]
          by_cases d2 : 137 + (i + 1) < j ∧ j ≤ 137 + n
          · rw [if_pos d2, if_neg (by omega), if_pos (by omega)]
          · rw [if_neg d2, if_neg (by omega), if_neg (by omega)]
  | _, 0, _, _, hm, _, _, _ => by omega
/-- the model's chain with the tile -/
theorem q70 {N : Nat} (hN : 2000 ≤ N) (hB : q_B D) {t e : Nat} (ht : t < 28) (he : e < 2) (hn : n ≤ 27) (hs : D.1 107 12 = Int32.ofNat n) {w : Nat}
    (hw : (if n = 0 then some (Int32.ofNat (q_lo t)) else if e = 0 then m54 D (Int32.ofNat t) (m59 D) else m61 D) = some (Int32.ofNat w)) :
    ∃ E, m70 N D (Int32.ofNat t) (Int32.ofNat e) = some E ∧ E.1 107 12 = Int32.ofNat (n + 1) ∧
      (∀ k, k < n + 1 → E.1 107 (109 + k) = (if k = (if e = 0 then 0 else n) then Int32.ofNat t else D.1 107 (109 + (if e = 0 then k - 1 else k))) ∧ E.1 107 (137 + k) = (if k = (if e = 0 then 0 else n) then Int32.ofNat w else D.1 107 (137 + (if e = 0 then k - 1 else k)))) ∧
      (∀ j, j ≠ 12 → (j < 109 ∨ 165 ≤ j) → E.1 107 j = D.1 107 j) ∧ (∀ a, a ≠ 107 → E.1 a = D.1 a) ∧ E.2 = D.2 := by
  obtain ⟨pl, hpl⟩ : ∃ pl, pl = if e = 0 then 0 else n := ⟨_, rfl⟩
  have hpl27 : pl ≤ n := by rw [hpl]; split <;> omega
  have hq27 : (if Int32.ofNat e = 0 then (0 : Int32) else Int32.ofNat n) = Int32.ofNat pl := by
    rw [hpl]
    obtain rfl | rfl : e = 0 ∨ e = 1 := by omega
    · rfl
    · rw [if_neg (by decide), if_neg (by omega)]
  obtain ⟨E, hE, hE1, hE2, hE3⟩ : ∃ E, m70_L46 N (Int32.ofNat t) (Int32.ofNat e) (Int32.ofNat n) (Int32.ofNat w) N D (Int32.ofNat n) = some E ∧ (∀ j, E.1 107 j = if e = 0 ∧ 109 < j ∧ j ≤ 109 + n then D.1 107 (j - 1) else if e = 0 ∧ 137 < j ∧ j ≤ 137 + n then D.1 107 (j - 1) else D.1 107 j) ∧ (∀ a, a ≠ 107 → E.1 a = D.1 a) ∧ E.2 = D.2 := by
    obtain rfl | rfl : e = 0 ∨ e = 1 := by omega
    · obtain ⟨E, h0, h1, h2, h3⟩ := q70_L (N := N) (D := D) (v1 := Int32.ofNat t) (v3 := Int32.ofNat n) (v4 := Int32.ofNat w) hn n N D (Nat.le_refl _) (by omega) (fun j => by rw [if_neg (by omega), if_neg (by omega)]) (fun _ _ => rfl) rfl
      refine ⟨E, h0, fun j => ?_, h2, h3⟩
      rw [h1]
      simp only [true_and]
    · refine ⟨D, ?_, fun j => by rw [if_neg (by omega), if_neg (by omega)], fun _ _ => rfl, rfl⟩
      obtain ⟨m, rfl⟩ : ∃ m, N = m + 1 := ⟨N - 1, by omega⟩
      rw [m70_L46]
      by_cases c : Int32.ofNat n ≤ 0
      · rw [if_pos c]
      · rw [if_neg c, if_neg (by decide)]
  have hq3 : (if Int32.ofNat n = 0 then (if 0 ≤ Int32.ofNat t ∧ Int32.ofNat t < 28 then some (D.1 109 (Int32.ofNat t).toNatClampNeg) else none) else (if Int32.ofNat e = 0 then ((m54 D (Int32.ofNat t) (m59 D)).bind fun q9 => some q9) else ((m61 D).bind fun q11 => some q11))) = some (Int32.ofNat w) := by
    rw [← hw]
    have b : ∀ x : Option Int32, (x.bind fun q => some q) = x := fun x => by cases x <;> rfl
    rw [b, b]
    by_cases h0 : n = 0
    · subst h0
      rw [if_pos (show Int32.ofNat 0 = 0 from rfl), if_pos rfl, if_pos (show 0 ≤ Int32.ofNat t ∧ Int32.ofNat t < 28 from q_in (n := 28) (by omega) ht), q_tn (by omega), (hB t ht).1]
    · rw [if_neg (by rw [q_l0, q_eq (by omega) (by omega)]; exact h0), if_neg h0]
      obtain rfl | rfl : e = 0 ∨ e = 1 := by omega
      · rfl
      · rw [if_neg (by decide), if_neg (by omega)]
  have z1 : (109 : Int32) + Int32.ofNat pl = Int32.ofNat (109 + pl) := by rw [q_l109, q_add]
  have z2 : (137 : Int32) + Int32.ofNat pl = Int32.ofNat (137 + pl) := by rw [q_l137, q_add]
  have i1 : ∀ a, a < 1320 → 0 ≤ Int32.ofNat a ∧ Int32.ofNat a < 1320 := fun a ha => q_in (n := 1320) (by omega) ha
  have hF12 : (am_uI (am_uI E 107 (109 + pl) (Int32.ofNat t)) 107 (137 + pl) (Int32.ofNat w)).1 107 12 = Int32.ofNat n := by
    rw [q_uI_at, if_neg (by omega), q_uI_at, if_neg (by omega), hE1, if_neg (by omega), if_neg (by omega)]; exact hs
  refine ⟨am_uI (am_uI (am_uI E 107 (109 + pl) (Int32.ofNat t)) 107 (137 + pl) (Int32.ofNat w)) 107 12 (Int32.ofNat (n + 1)), ?_, q_uIs _ _ _ _, fun k hk => ?_, fun j h1 h2 => ?_, fun a ha => by rw [q_uI_ne _ ha, q_uI_ne _ ha, q_uI_ne _ ha, hE2 a ha], hE3⟩
  · unfold m70
    simp only [am_lt, hs, hq3, Option.bind_some, hE, hq27, z1, z2]
    rw [if_pos (i1 _ (by omega)), if_pos (i1 _ (by omega)), q_tn (by omega), q_tn (by omega), hF12, q_l1, q_add]
  · rw [← hpl]
    constructor
    · rw [q_uI_at, if_neg (by omega), q_uI_at, if_neg (by omega), q_uI_at]
      by_cases c : k = pl
      · rw [if_pos (by omega), if_pos c]
      · rw [if_neg (by omega), if_neg c, hE1]
        by_cases he0 : e = 0
        · rw [if_pos he0] at hpl
          rw [if_pos (by omega), if_pos he0]
          exact congrArg (D.1 107) (by omega)
        · rw [if_neg (by omega), if_neg (by omega), if_neg he0]
    · rw [q_uI_at, if_neg (by omega), q_uI_at]
      by_cases c : k = pl
      · rw [if_pos (by omega), if_pos c]
      · rw [if_neg (by omega), if_neg c, q_uI_at, if_neg (by omega), hE1]
        by_cases he0 : e = 0
        · rw [if_pos he0] at hpl
          rw [if_neg (by omega), if_pos (by omega), if_pos he0]
          exact congrArg (D.1 107) (by omega)
        · rw [if_neg (by omega), if_neg (by omega), if_neg he0]
  · rw [q_uI_at, if_neg (by omega), q_uI_at, if_neg (by omega), q_uI_at, if_neg (by omega), hE1, if_neg (by omega), if_neg (by omega)]
end MH
