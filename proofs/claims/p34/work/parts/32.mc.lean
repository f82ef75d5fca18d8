/-! append, clearBuffer, keep, goBack, undo -/
section MC
variable {D : am_D}
theorem q_txl {v : Int32} (h : v < Int32.ofNat 33 ∨ Int32.ofNat 126 < v) : (v < 33 ∨ ¬ v ≤ 126) := h.imp id (fun h => Int32.not_le.mpr h)
theorem g_append (hI : q_I D) (v : Int32) : q_G (fun D => m269 D v) (fun D => m89 D v) D := by
  obtain ⟨l, b1, b2, b3, b4⟩ := q_I_tx hI
  rcases q46 (v := v) (a := 33) (b := 126) (by omega) (by omega) with ⟨w, h1, h2, rfl, e⟩ | ⟨e, h1⟩
  · have e3 : ¬ Int32.ofNat w < 33 := q_nlt (a := 33) (by omega) h1
    have e4 : Int32.ofNat w ≤ 126 := q_yle (b := 126) (by omega) h2
    by_cases hl : l < 60
    · have e5 : m231 D = 0 := by
        unfold m231
        rw [b2, if_pos (show Int32.ofNat l < 60 from q_ylt (b := 60) (by omega) hl)]
      have e6 : m232 D (Int32.ofNat w) = am_uI (am_uI D 92 l (Int32.ofNat w)) 91 1 (Int32.ofNat (l + 1)) := by
        unfold m232 am_rput
        rw [b2, if_neg (show ¬ (60 : Int32) ≤ Int32.ofNat l from q_nle (b := 60) (by omega) hl), if_pos (q_in (by omega) hl), q_tn (by omega)]
        simp only [am_lt]
        rw [q_uI_ne _ (by omega), b2, q_l1, q_add]
      have e7 : (am_uI (am_uI D 92 l (Int32.ofNat w)) 91 1 (Int32.ofNat (l + 1))).1 91 1 = Int32.ofNat (l + 1) := q_uIs _ _ _ _
      refine q_G_ok (D' := am_uI (am_uI D 92 l (Int32.ofNat w)) 91 1 (Int32.ofNat (l + 1))) (D2 := am_uI (am_uI (am_uI (am_uJ (am_uI (am_uI D 92 l (Int32.ofNat w)) 91 1 (Int32.ofNat (l + 1))) 124 0 (Int32.ofNat (l + 1)).toInt64) 106 0 0) 108 l (Int32.ofNat w)) 106 5 (Int32.ofNat (l + 1))) (Int32.ofNat (l + 1)) ?_ ?_ ?_ rfl ?_
      · show m269 D _ = _
        unfold m269 m10
        rw [if_neg e3, if_pos e4, if_pos e5, e6]
        simp only [am_lt, e7]
        rfl
      · show m89 _ _ = _
        have e8 : (am_uJ (am_uI (am_uI D 92 l (Int32.ofNat w)) 91 1 (Int32.ofNat (l + 1))) 124 0 (Int32.ofNat (l + 1)).toInt64).1 106 5 = Int32.ofNat l := by
          show (am_uI (am_uI D 92 l (Int32.ofNat w)) 91 1 (Int32.ofNat (l + 1))).1 106 5 = _
          rw [q_uI_ne _ (by omega), q_uI_ne _ (by omega)]; exact b3
        have e9 : ¬ Int32.ofNat l = 60 := by rw [q_l60, q_eq (by omega) (by omega)]; omega
        simp only [← q_l33, ← q_l126] at e
        unfold m89
        simp only [am_lt, e, q_10, if_false, e8, e9, q47a]
        have e10 : (am_uI (am_uJ (am_uI (am_uI D 92 l (Int32.ofNat w)) 91 1 (Int32.ofNat (l + 1))) 124 0 (Int32.ofNat (l + 1)).toInt64) 106 0 0).1 106 5 = Int32.ofNat l := by rw [q_uI_at, if_neg (by omega)]; exact e8
        have e11 : (am_uI (am_uI (am_uJ (am_uI (am_uI D 92 l (Int32.ofNat w)) 91 1 (Int32.ofNat (l + 1))) 124 0 (Int32.ofNat (l + 1)).toInt64) 106 0 0) 108 l (Int32.ofNat w)).1 106 5 = Int32.ofNat l := by rw [q_uI_ne _ (by omega)]; exact e10
        rw [e10, if_pos (show 0 ≤ Int32.ofNat l ∧ Int32.ofNat l < 60 from q_in (n := 60) (by omega) hl), q_tn (by omega), e11, q_l1, q_add, q_uIs]
      · rw [q_uI_at, if_neg (by omega), q_uI_ne _ (by omega)]; exact q_uIs _ _ _ _
      · have k1 : ∀ a, a ≠ 91 → a ≠ 92 → (am_uI (am_uI D 92 l (Int32.ofNat w)) 91 1 (Int32.ofNat (l + 1))).1 a = D.1 a := fun a h1 h2 => by rw [q_uI_ne _ h1, q_uI_ne _ h2]
        generalize hF : am_uI (am_uI D 92 l (Int32.ofNat w)) 91 1 (Int32.ofNat (l + 1)) = F at k1 e7
        have k2 : F.1 92 = upd (D.1 92) l (Int32.ofNat w) := by
          rw [← hF, q_uI_ne _ (by omega)]
          funext i
          rw [q_uI_at]
          by_cases hi : i = l
          · rw [if_pos ⟨rfl, hi⟩, hi, q_ud_s]
          · rw [if_neg (by omega), q_ud_ne hi]
        have k4 : F.2.1 98 = D.2.1 98 := by rw [← hF]; rfl
        have k3 : ∀ a, a ≠ 106 → a ≠ 108 → (am_uI (am_uI (am_uI (am_uJ F 124 0 (Int32.ofNat (l + 1)).toInt64) 106 0 0) 108 l (Int32.ofNat w)) 106 5 (Int32.ofNat (l + 1))).1 a = F.1 a := fun a h1 h2 => by rw [q_uI_ne _ h1, q_uI_ne _ h2, q_uI_ne _ h1]; rfl
        have k5 : ∀ j, j ≠ 0 → j ≠ 5 → (am_uI (am_uI (am_uI (am_uJ F 124 0 (Int32.ofNat (l + 1)).toInt64) 106 0 0) 108 l (Int32.ofNat w)) 106 5 (Int32.ofNat (l + 1))).1 106 j = D.1 106 j := fun j h1 h2 => by
          rw [q_uI_at, if_neg (by omega), q_uI_ne _ (by omega), q_uI_at, if_neg (by omega)]
          show F.1 106 j = _
          rw [k1 106 (by omega) (by omega)]
        have k6 : (am_uI (am_uI (am_uI (am_uJ F 124 0 (Int32.ofNat (l + 1)).toInt64) 106 0 0) 108 l (Int32.ofNat w)) 106 5 (Int32.ofNat (l + 1))).1 106 5 = Int32.ofNat (l + 1) := q_uIs _ _ _ _
        have k7 : (am_uI (am_uI (am_uI (am_uJ F 124 0 (Int32.ofNat (l + 1)).toInt64) 106 0 0) 108 l (Int32.ofNat w)) 106 5 (Int32.ofNat (l + 1))).1 108 = upd (D.1 108) l (Int32.ofNat w) := by
          rw [q_uI_ne _ (by omega)]
          funext i
          rw [q_uI_at, q_uI_ne _ (by omega)]
          show (if 108 = 108 ∧ i = l then Int32.ofNat w else F.1 108 i) = _
          rw [k1 108 (by omega) (by omega)]
          by_cases hi : i = l
          · rw [if_pos ⟨rfl, hi⟩, hi, q_ud_s]
          · rw [if_neg (by omega), q_ud_ne hi]
        have k8 : (am_uI (am_uI (am_uI (am_uJ F 124 0 (Int32.ofNat (l + 1)).toInt64) 106 0 0) 108 l (Int32.ofNat w)) 106 5 (Int32.ofNat (l + 1))).2.1 98 = D.2.1 98 := by
          show (am_uJ F 124 0 (Int32.ofNat (l + 1)).toInt64).2.1 98 = _
          rw [← k4]
          funext i
          exact if_neg (c := 98 = 124 ∧ i = 0) (t := (Int32.ofNat (l + 1)).toInt64) (by omega)
        generalize am_uI (am_uI (am_uI (am_uJ F 124 0 (Int32.ofNat (l + 1)).toInt64) 106 0 0) 108 l (Int32.ofNat w)) 106 5 (Int32.ofNat (l + 1)) = G at k3 k5 k6 k7 k8
        have k9 : ∀ o, q_s G o = q_s D o := fun o => by unfold q_s; rw [k3 107 (by omega) (by omega), k1 107 (by omega) (by omega)]
        have k10 : ∀ b, b ≤ 80 → ∀ i, i ≤ 10 → q_c F b i = q_c D b i := fun b hb i hi => k1 (b + i) (by omega) (by omega)
        refine q_I_of (D' := F) (fun a ha => k3 a (by omega) (by omega)) (k8.trans k4.symm) ?_ ?_ ?_ ?_ ?_ ?_
        · intro t ht
          rw [k3 109 (by omega) (by omega), k3 110 (by omega) (by omega), k1 109 (by omega) (by omega), k1 110 (by omega) (by omega)]
          exact hI.1 t ht
        · exact q_C_eq (k10 1 (by omega)) (k9 0) hI.2.1
        · obtain ⟨a1, a2, a3⟩ := q_I_kp hI
          refine ⟨?_, ?_, ?_⟩
          · rw [k1 0 (by omega) (by omega), k5 3 (by omega) (by omega)]; exact a1
          · rw [k5 3 (by omega) (by omega)]; exact a2
          · rw [k5 3 (by omega) (by omega)]; exact fun q => q_C_eq (k10 12 (by omega)) (k9 7) (a3 q)
        · obtain ⟨o, m, a1, a2, a3, a4, a5, a6⟩ := q_I_hs hI
          refine ⟨o, m, a1, a2, ?_, ?_, ?_, fun j hj => q_C_eq (k10 _ (by omega)) (k9 _) (a6 j hj)⟩
          · rw [k1 23 (by omega) (by omega)]; exact a3
          · rw [k1 23 (by omega) (by omega)]; exact a4
          · rw [k5 2 (by omega) (by omega)]; exact a5
        · refine ⟨l + 1, by omega, e7, k6, fun k hk => ?_⟩
          rw [k2, k7]
          by_cases hkl : k = l
          · subst hkl
            rw [q_ud_s, q_ud_s]
            exact ⟨rfl, w, h1, h2, rfl⟩
          · rw [q_ud_ne hkl, q_ud_ne hkl]
            exact b4 k (by omega)
        · intro f hf t ht
          rw [k4]; exact q_I_bi hI f hf t ht
    · obtain rfl : l = 60 := by omega
      refine q_G_ex hI 2 (by omega) ?_ ?_
      · show m269 D _ = _
        have e5 : ¬ m231 D = 0 := by
          unfold m231
          rw [b2]; decide
        unfold m269 m10
        rw [if_neg e3, if_pos e4, if_neg e5]
        rfl
      · show m89 D _ = _
        have e6 : D.1 106 5 = 60 := b3
        simp only [← q_l33, ← q_l126] at e
        unfold m89
        simp only [am_lt, e, q_10, if_false, e6, if_true, q47c]
        rfl
  · refine q_G_ex hI 1 (by omega) ?_ ?_
    · show m269 D _ = _
      unfold m269 m10
      rcases h1 with h1 | h1
      · rw [if_pos (show v < 33 from h1)]; rfl
      · rw [if_neg (c := v ≤ 126) (Int32.not_le.mpr h1), ite_self]; rfl
    · show m89 D _ = _
      simp only [← q_l33, ← q_l126] at e
      unfold m89
      simp only [am_lt, e, if_true, q47b]
      rfl
/-- two calls that throw nothing -/
def q_H (A : am_D → Int32 × am_D) (M : am_D → Option (Int32 × am_D)) (D : am_D) : Prop := ∃ b D2, M (A D).2 = some (b, D2) ∧ b = (A D).1 ∧ q_I D2
theorem g_clear (hI : q_I D) : q_H m11 (fun D => some (m90 D)) D := by
  obtain ⟨l, b1, b2, b3, b4⟩ := q_I_tx hI
  have e1 : m11 D = (Int32.ofNat l, am_uI D 91 1 0) := by
    unfold m11 m233
    rw [b2]; rfl
  have e2 : m90 (am_uI D 91 1 0) = (Int32.ofNat l, am_uI (am_uI (am_uI D 91 1 0) 106 0 0) 106 5 0) := by
    unfold m90
    simp only [am_lt]
    rw [q_uI_at, if_neg (by omega), q_uI_ne _ (by omega), b3]
  unfold q_H
  rw [e1]
  refine ⟨_, _, congrArg some e2, rfl, ?_⟩
  have k3 : ∀ a, a ≠ 106 → a ≠ 91 → (am_uI (am_uI (am_uI D 91 1 0) 106 0 0) 106 5 0).1 a = D.1 a := fun a h1 h2 => by rw [q_uI_ne _ h1, q_uI_ne _ h1, q_uI_ne _ h2]
  have k5 : ∀ j, j ≠ 0 → j ≠ 5 → (am_uI (am_uI (am_uI D 91 1 0) 106 0 0) 106 5 0).1 106 j = D.1 106 j := fun j h1 h2 => by rw [q_uI_at, if_neg (by omega), q_uI_at, if_neg (by omega), q_uI_ne _ (by omega)]
  have k6 : (am_uI (am_uI (am_uI D 91 1 0) 106 0 0) 106 5 0).1 106 5 = 0 := q_uIs _ _ _ _
  have k7 : (am_uI (am_uI (am_uI D 91 1 0) 106 0 0) 106 5 0).1 91 1 = 0 := by rw [q_uI_ne _ (by omega), q_uI_ne _ (by omega)]; exact q_uIs _ _ _ _
  have k8 : (am_uI (am_uI (am_uI D 91 1 0) 106 0 0) 106 5 0).2 = D.2 := rfl
  generalize am_uI (am_uI (am_uI D 91 1 0) 106 0 0) 106 5 0 = G at k3 k5 k6 k7 k8
  have k9 : ∀ o, q_s G o = q_s D o := fun o => by unfold q_s; rw [k3 107 (by omega) (by omega)]
  have k10 : ∀ b, b ≤ 80 → ∀ i, i ≤ 10 → q_c G b i = q_c D b i := fun b hb i hi => k3 (b + i) (by omega) (by omega)
  refine q_I_of (D' := G) (fun a ha => rfl) rfl ?_ ?_ ?_ ?_ ?_ ?_
  · intro t ht
    rw [k3 109 (by omega) (by omega), k3 110 (by omega) (by omega)]
    exact hI.1 t ht
  · exact q_C_eq (k10 1 (by omega)) (k9 0) hI.2.1
  · obtain ⟨a1, a2, a3⟩ := q_I_kp hI
    refine ⟨?_, ?_, ?_⟩
    · rw [k3 0 (by omega) (by omega), k5 3 (by omega) (by omega)]; exact a1
    · rw [k5 3 (by omega) (by omega)]; exact a2
    · rw [k5 3 (by omega) (by omega)]; exact fun q => q_C_eq (k10 12 (by omega)) (k9 7) (a3 q)
  · obtain ⟨o, m, a1, a2, a3, a4, a5, a6⟩ := q_I_hs hI
    refine ⟨o, m, a1, a2, ?_, ?_, ?_, fun j hj => q_C_eq (k10 _ (by omega)) (k9 _) (a6 j hj)⟩
    · rw [k3 23 (by omega) (by omega)]; exact a3
    · rw [k3 23 (by omega) (by omega)]; exact a4
    · rw [k5 2 (by omega) (by omega)]; exact a5
  · exact ⟨0, by omega, k7, k6, fun k hk => by omega⟩
  · intro f hf t ht
    rw [k8]; exact q_I_bi hI f hf t ht
theorem g_keep {N : Nat} (hN : 2000 ≤ N) (hI : q_I D) : q_H m15 (fun D => m103 N D) D := by
  obtain ⟨n, p, T, V, hK⟩ := q_I_K hI
  have e1 : m15 D = ((am_uI (q_cy 12 1 D) 0 7 1).1 2 4, am_uI (q_cy 12 1 D) 0 7 1) := by
    unfold m15
    rw [q202_12_1]; rfl
  obtain ⟨g1, g2, g3⟩ := q_cy_cs (b1 := 12) (b0 := 1) D (by omega)
  have k1 : ∀ a, 0 < a → a < 12 ∨ 22 < a → (am_uI (q_cy 12 1 D) 0 7 1).1 a = D.1 a := fun a h1 h2 => by rw [q_uI_ne _ (by omega)]; exact g1 a h2
  have k2 : ∀ i j, i ≤ 10 → q_w i j → (am_uI (q_cy 12 1 D) 0 7 1).1 (12 + i) j = D.1 (1 + i) j := fun i j h1 h2 => by rw [q_uI_ne _ (by omega)]; exact g2 i j h1 h2
  have k3 : (am_uI (q_cy 12 1 D) 0 7 1).1 0 7 = 1 := q_uIs _ _ _ _
  have k4 : (am_uI (q_cy 12 1 D) 0 7 1).2 = D.2 := g3
  unfold q_H
  rw [e1]
  generalize am_uI (q_cy 12 1 D) 0 7 1 = F at k1 k2 k3 k4
  obtain ⟨E, h1, h2, h3, h4⟩ := q75 hN (D := am_uI F 106 0 0) (f := 0) (t := 7) (by omega) (by omega) (by omega)
  refine ⟨(am_uI E 106 3 1).1 107 12, am_uI E 106 3 1, ?_, ?_, ?_⟩
  · show m103 N F = _
    unfold m103
    show ((m75 N (am_uI F 106 0 0) (Int32.ofNat 0) (Int32.ofNat 7)).bind _) = _
    rw [h1]; rfl
  · show (am_uI E 106 3 1).1 107 12 = F.1 2 4
    rw [q_uI_ne _ (by omega), k1 2 (by omega) (by omega), k_n' hK, ← k_n hK]
    have := h3 0 (by omega) 12 (by omega)
    rw [if_neg (by omega)] at this
    refine this.trans ?_
    show (am_uI F 106 0 0).1 107 12 = _
    rw [q_uI_ne _ (by omega), k1 107 (by omega) (by omega)]
  · have s0 : ∀ o, o ≤ 6 → ∀ k, k < 165 → q_s (am_uI E 106 3 1) o k = q_s D o k := fun o ho k hk => by
      show (am_uI E 106 3 1).1 107 _ = _
      rw [q_uI_ne _ (by omega)]
      refine (h3 o (by omega) k hk).trans ?_
      rw [if_neg (by omega)]
      show (am_uI F 106 0 0).1 107 _ = _
      rw [q_uI_ne _ (by omega), k1 107 (by omega) (by omega)]; rfl
    have s7 : ∀ k, k < 165 → q_s (am_uI E 106 3 1) 7 k = q_s D 0 k := fun k hk => by
      show (am_uI E 106 3 1).1 107 _ = _
      rw [q_uI_ne _ (by omega)]
      refine (h3 7 (by omega) k hk).trans ?_
      rw [if_pos rfl]
      show (am_uI F 106 0 0).1 107 _ = _
      rw [q_uI_ne _ (by omega), k1 107 (by omega) (by omega)]; rfl
    have f1 : ∀ a, a ≠ 106 → a ≠ 107 → (am_uI E 106 3 1).1 a = F.1 a := fun a h5 h6 => by rw [q_uI_ne _ h5, h2 a h6, q_uI_ne _ h5]
    have f2 : ∀ j, j ≠ 0 → j ≠ 3 → (am_uI E 106 3 1).1 106 j = D.1 106 j := fun j h5 h6 => by rw [q_uI_at, if_neg (by omega), h2 106 (by omega), q_uI_at, if_neg (by omega), k1 106 (by omega) (by omega)]
    have f3 : (am_uI E 106 3 1).1 106 3 = 1 := q_uIs _ _ _ _
    have f4 : (am_uI E 106 3 1).2 = D.2 := h4.trans k4
    generalize am_uI E 106 3 1 = G at s0 s7 f1 f2 f3 f4
    refine q_I_of (D' := F) (fun a ha => f1 a (by omega) (by omega)) (by rw [f4, k4]) ?_ ?_ ?_ ?_ ?_ ?_
    · intro t ht
      rw [f1 109 (by omega) (by omega), f1 110 (by omega) (by omega), k1 109 (by omega) (by omega), k1 110 (by omega) (by omega)]
      exact hI.1 t ht
    · exact q_C_w (fun i j hw => by
        show F.1 (1 + i) j = D.1 (1 + i) j
        rw [k1 _ (by omega) (by unfold q_w at hw; omega)]) (s0 0 (by omega)) hI.2.1
    · refine ⟨by rw [k3, f3], Or.inr f3, fun _ => q_C_w (fun i j hw => k2 i j (by unfold q_w at hw; omega) hw) s7 hI.2.1⟩
    · obtain ⟨o, m, a1, a2, a3, a4, a5, a6⟩ := q_I_hs hI
      refine ⟨o, m, a1, a2, ?_, ?_, ?_, fun j hj => q_C_w (fun i k hw => ?_) (s0 (j + 1) (by omega)) (a6 j hj)⟩
      · rw [k1 23 (by omega) (by omega)]; exact a3
      · rw [k1 23 (by omega) (by omega)]; exact a4
      · rw [f2 2 (by omega) (by omega)]; exact a5
      · show F.1 (25 + 11 * ((o + j) % 6) + i) k = D.1 (25 + 11 * ((o + j) % 6) + i) k
        rw [k1 _ (by omega) (by omega)]
    · obtain ⟨l, b1, b2, b3, b4⟩ := q_I_tx hI
      refine ⟨l, b1, ?_, ?_, ?_⟩
      · rw [k1 91 (by omega) (by omega)]; exact b2
      · rw [f2 5 (by omega) (by omega)]; exact b3
      · rw [k1 92 (by omega) (by omega), f1 108 (by omega) (by omega), k1 108 (by omega) (by omega)]; exact b4
    · intro f hf t ht
      rw [k4]; exact q_I_bi hI f hf t ht
theorem g_goBack {N : Nat} (hN : 2000 ≤ N) (hI : q_I D) : q_G (fun D => m273 D) (fun D => m104 N D) D := by
  obtain ⟨a1, a2, a3⟩ := q_I_kp hI
  rcases a2 with a2 | a2
  · refine q_G_ex hI 1 (by omega) ?_ ?_
    · show m273 D = _
      unfold m273 m16
      rw [if_pos (a1.trans a2)]; rfl
    · show m104 N D = _
      unfold m104
      simp only [am_lt, a2, if_true, q47b]
      rfl
  · obtain ⟨n, p, T, V, hS⟩ := a3 a2
    obtain ⟨D1, d1, d2⟩ := q_sav hI
    have p1 := (q_pre_1 d2).1
    obtain ⟨g1, g2, g3⟩ := q_cy_cs (b1 := 1) (b0 := 12) D1 (by omega)
    have hfr : q_fr D1 (q_cy 1 12 D1) := ⟨fun a ha => g1 a (by omega), by rw [g3]⟩
    have hn : (q_cy 1 12 D1).1 2 4 = Int32.ofNat n := by
      have := g2 1 4 (by omega) (by unfold q_w; omega)
      refine this.trans ?_
      show D1.1 13 4 = _
      rw [p1 13 (by omega)]
      exact hS.1.2.2.1
    obtain ⟨E1, f1, f2⟩ := q_pre_of hN hI d2 hfr (Int32.ofNat n).toInt64
    obtain ⟨s1, s2, s3, s4, s5, s6⟩ := q_pre_s f2
    have s7 : ∀ k, k < 165 → q_s E1 7 k = q_s D 7 k := fun k hk => by
      obtain ⟨_, _, m, m', c1, c2, c3, c4, c5, c6, c7, c8, c9, c10⟩ := f2
      rw [c9 k hk]
      unfold q_s
      rw [q_pre_M d2 hfr 107 (by omega)]
    obtain ⟨D2, h1, h2, h3, h4⟩ := q75 hN (D := E1) (f := 7) (t := 0) (by omega) (by omega) (by omega)
    have hfm : q_fm E1 D2 := ⟨fun a ha => h2 a (by omega), ⟨by rw [h2 106 (by omega)], by rw [h2 106 (by omega)], by rw [h2 106 (by omega)]⟩, fun o h5 h6 k hk => by rw [h3 o h6 k hk, if_neg (by omega)], h4⟩
    have hC : q_C4 (q_c (q_cy 1 12 D1) 1) (q_s D2 0) n p T V := q_C4_w (fun i j hw => by
        have hi : i ≤ 10 := by unfold q_w at hw; omega
        refine (g2 i j hi hw).trans ?_
        show D1.1 (12 + i) j = D.1 (12 + i) j
        rw [p1 _ (by omega)]) (fun k hk => by rw [h3 0 (by omega) k hk, if_pos rfl]; exact s7 k hk) hS
    refine q_G_mu (Int32.ofNat n) hI f2 hfm ⟨n, p, T, V, hC⟩ (q_tx_same hI f2 hfm (g1 91 (by omega)) (by rw [h2 106 (by omega)])) ?_ ?_
    · show m273 D = _
      unfold m273 m16
      rw [if_neg (by rw [a1, a2]; decide), d1, Option.bind_some, q202_1_12]
      simp only [am_lt, hn]
      rfl
    · show m104 N _ = _
      have e3 : (am_uJ (q_cy 1 12 D1) 124 0 (Int32.ofNat n).toInt64).1 106 3 = 1 := by
        show (q_cy 1 12 D1).1 106 3 = 1
        rw [g1 106 (by omega), p1 106 (by omega)]; exact a2
      unfold m104
      simp only [am_lt, e3, q_10, if_false, q47a, f1, Option.bind_some]
      have h1' : m75 N E1 7 0 = some D2 := h1
      rw [h1', Option.bind_some, show D2.1 107 12 = Int32.ofNat n from hC.1.2.1]
theorem g_undo {N : Nat} (hN : 2000 ≤ N) (hI : q_I D) : q_G (fun D => m274 D) (fun D => m105 N D) D := by
  obtain ⟨o, m, a1, a2, a3, a4, a5, a6⟩ := q_I_hs hI
  by_cases hm : m = 0
  · subst hm
    refine q_G_ex hI 1 (by omega) ?_ ?_
    · show m274 D = _
      unfold m274 m17
      rw [if_pos (show D.1 23 2 = 0 from a4)]; rfl
    · show m105 N D = _
      have e : D.1 106 2 ≤ 0 := by rw [a5]; decide
      unfold m105
      simp only [am_lt, e, if_true, q47b]
      rfl
  · have hp : (o + (m - 1)) % 6 < 6 := by omega
    have hms : Int32.ofNat m - 1 = Int32.ofNat (m - 1) := q_sub (b := 1) (by omega)
    have hC := a6 (m - 1) (by omega)
    obtain ⟨F, g1, g2, g3⟩ : ∃ F, m169 D = some (am_uI F 23 2 (Int32.ofNat (m - 1))) ∧ q_cs 1 (25 + 11 * ((o + (m - 1)) % 6)) q_w D F ∧ F.1 23 2 = Int32.ofNat m := by
      have fin : ∀ b, 25 ≤ b → q_cs 1 b q_w D (q_cy 1 b D) ∧ (q_cy 1 b D).1 23 2 = Int32.ofNat m := fun b hb => by
        have := q_cy_cs (b1 := 1) (b0 := b) D (by omega)
        exact ⟨this, by rw [this.1 23 (by omega)]; exact a4⟩
      unfold m169
      rw [a4, hms, q170 a1 (by omega) a3, Option.bind_some, q202_1_25, q202_1_36, q202_1_47, q202_1_58, q202_1_69, q202_1_80]
      have c : (o + (m - 1)) % 6 = 0 ∨ (o + (m - 1)) % 6 = 1 ∨ (o + (m - 1)) % 6 = 2 ∨ (o + (m - 1)) % 6 = 3 ∨ (o + (m - 1)) % 6 = 4 ∨ (o + (m - 1)) % 6 = 5 := by omega
      rcases c with c | c | c | c | c | c <;> rw [c]
      · exact ⟨q_cy 1 25 D, by simp only [am_lt, (fin 25 (by omega)).2, hms]; rfl, fin 25 (by omega)⟩
      · exact ⟨q_cy 1 36 D, by simp only [am_lt, (fin 36 (by omega)).2, hms]; rfl, fin 36 (by omega)⟩
      · exact ⟨q_cy 1 47 D, by simp only [am_lt, (fin 47 (by omega)).2, hms]; rfl, fin 47 (by omega)⟩
      · exact ⟨q_cy 1 58 D, by simp only [am_lt, (fin 58 (by omega)).2, hms]; rfl, fin 58 (by omega)⟩
      · exact ⟨q_cy 1 69 D, by simp only [am_lt, (fin 69 (by omega)).2, hms]; rfl, fin 69 (by omega)⟩
      · exact ⟨q_cy 1 80 D, by simp only [am_lt, (fin 80 (by omega)).2, hms]; rfl, fin 80 (by omega)⟩
    have k1 : ∀ a, a = 0 ∨ 11 < a → a ≠ 23 → (am_uI F 23 2 (Int32.ofNat (m - 1))).1 a = D.1 a := fun a h1 h2 => by rw [q_uI_ne _ h2]; exact g2.1 a (by omega)
    have k2 : ∀ i j, i ≤ 10 → q_w i j → (am_uI F 23 2 (Int32.ofNat (m - 1))).1 (1 + i) j = D.1 (25 + 11 * ((o + (m - 1)) % 6) + i) j := fun i j h1 h2 => by rw [q_uI_ne _ (by omega)]; exact g2.2.1 i j h1 h2
    have k3 : (am_uI F 23 2 (Int32.ofNat (m - 1))).1 23 2 = Int32.ofNat (m - 1) := q_uIs _ _ _ _
    have k3' : (am_uI F 23 2 (Int32.ofNat (m - 1))).1 23 1 = Int32.ofNat o := by rw [q_uI_at, if_neg (by omega), g2.1 23 (by omega)]; exact a3
    have k4 : (am_uI F 23 2 (Int32.ofNat (m - 1))).2 = D.2 := g2.2.2
    generalize am_uI F 23 2 (Int32.ofNat (m - 1)) = D' at g1 k1 k2 k3 k3' k4
    obtain ⟨E, h1, h2, h3, h4⟩ := q75 hN (D := am_uI (am_uJ D' 124 0 (Int32.ofNat (m - 1)).toInt64) 106 0 0) (f := m) (t := 0) (by omega) (by omega) (by omega)
    have e2 : (am_uJ D' 124 0 (Int32.ofNat (m - 1)).toInt64).1 106 2 = Int32.ofNat m := by
      show D'.1 106 2 = _
      rw [k1 106 (by omega) (by omega)]; exact a5
    have e3 : (am_uI (am_uJ D' 124 0 (Int32.ofNat (m - 1)).toInt64) 106 0 0).1 106 2 = Int32.ofNat m := by rw [q_uI_at, if_neg (by omega)]; exact e2
    have e4 : E.1 106 2 = Int32.ofNat m := by rw [h2 106 (by omega)]; exact e3
    have s0 : ∀ o', o' ≤ 7 → ∀ k, k < 165 → q_s (am_uI E 106 2 (Int32.ofNat (m - 1))) o' k = if o' = 0 then q_s D m k else q_s D o' k := fun o' ho k hk => by
      have z : ∀ o, q_s (am_uI (am_uJ D' 124 0 (Int32.ofNat (m - 1)).toInt64) 106 0 0) o = q_s D o := fun o => by
        unfold q_s
        rw [q_uI_ne _ (by omega)]
        show (fun k => D'.1 107 (k + 165 * o)) = _
        rw [k1 107 (by omega) (by omega)]
      show (am_uI E 106 2 (Int32.ofNat (m - 1))).1 107 _ = _
      rw [q_uI_ne _ (by omega)]
      refine (h3 o' ho k hk).trans ?_
      rw [z, z]
    have f1 : ∀ a, a ≠ 106 → a ≠ 107 → (am_uI E 106 2 (Int32.ofNat (m - 1))).1 a = D'.1 a := fun a h5 h6 => by rw [q_uI_ne _ h5, h2 a h6, q_uI_ne _ h5]; rfl
    have f2 : ∀ j, j ≠ 0 → j ≠ 2 → (am_uI E 106 2 (Int32.ofNat (m - 1))).1 106 j = D.1 106 j := fun j h5 h6 => by
      rw [q_uI_at, if_neg (by omega), h2 106 (by omega), q_uI_at, if_neg (by omega)]
      show D'.1 106 j = _
      rw [k1 106 (by omega) (by omega)]
    have f3 : (am_uI E 106 2 (Int32.ofNat (m - 1))).1 106 2 = Int32.ofNat (m - 1) := q_uIs _ _ _ _
    have f4 : (am_uI E 106 2 (Int32.ofNat (m - 1))).1 106 0 = 0 := by rw [q_uI_at, if_neg (by omega), h2 106 (by omega)]; exact q_uIs _ _ _ _
    have f5 : (am_uI E 106 2 (Int32.ofNat (m - 1))).2 = (am_uJ D' 124 0 (Int32.ofNat (m - 1)).toInt64).2 := h4
    refine q_G_ok (D' := D') (D2 := am_uI E 106 2 (Int32.ofNat (m - 1))) (Int32.ofNat (m - 1)) ?_ ?_ f4 (by rw [f5]) ?_
    · show m274 D = _
      have : ¬ D.1 23 2 = 0 := by rw [a4, q_l0, q_eq (by omega) (by omega)]; exact hm
      unfold m274 m17
      rw [if_neg this, g1]
      simp only [Option.bind_some, k3]
      rfl
    · show m105 N _ = _
      have e5 : ¬ Int32.ofNat m ≤ 0 := q_nle (a := 0) (b := m) (by omega) (by omega)
      unfold m105
      simp only [am_lt, e2, e5, if_false, q47a, q_10, e3]
      have h1' : m75 N (am_uI (am_uJ D' 124 0 (Int32.ofNat (m - 1)).toInt64) 106 0 0) (Int32.ofNat m) 0 = some E := h1
      rw [h1', Option.bind_some, e4, hms, f3]
    · generalize am_uI E 106 2 (Int32.ofNat (m - 1)) = G at s0 f1 f2 f3 f4 f5
      refine q_I_of (D' := D') (fun a ha => f1 a (by omega) (by omega)) ?_ ?_ ?_ ?_ ?_ ?_ ?_
      · rw [f5]
        funext i
        exact if_neg (c := 98 = 124 ∧ i = 0) (t := (Int32.ofNat (m - 1)).toInt64) (by omega)
      · intro t ht
        rw [f1 109 (by omega) (by omega), f1 110 (by omega) (by omega), k1 109 (by omega) (by omega), k1 110 (by omega) (by omega)]
        exact hI.1 t ht
      · refine q_C_w (fun i j hw => k2 i j (by unfold q_w at hw; omega) hw) (fun k hk => ?_) hC
        rw [s0 0 (by omega) k hk, if_pos rfl, show m - 1 + 1 = m by omega]
      · obtain ⟨b1, b2, b3⟩ := q_I_kp hI
        refine ⟨?_, ?_, ?_⟩
        · rw [k1 0 (by omega) (by omega), f2 3 (by omega) (by omega)]; exact b1
        · rw [f2 3 (by omega) (by omega)]; exact b2
        · rw [f2 3 (by omega) (by omega)]
          refine fun q => q_C_w (fun i j hw => ?_) (fun k hk => ?_) (b3 q)
          · show D'.1 (12 + i) j = D.1 (12 + i) j
            rw [k1 _ (by omega) (by unfold q_w at hw; omega)]
          · rw [s0 7 (by omega) k hk, if_neg (by omega)]
      · refine ⟨o, m - 1, a1, by omega, k3', k3, f3, fun j hj => q_C_w (fun i k hw => ?_) (fun k hk => ?_) (a6 j (by omega))⟩
        · show D'.1 (25 + 11 * ((o + j) % 6) + i) k = D.1 (25 + 11 * ((o + j) % 6) + i) k
          rw [k1 _ (by omega) (by omega)]
        · rw [s0 (j + 1) (by omega) k hk, if_neg (by omega)]
      · obtain ⟨l, b1, b2, b3, b4⟩ := q_I_tx hI
        refine ⟨l, b1, ?_, ?_, ?_⟩
        · rw [k1 91 (by omega) (by omega)]; exact b2
        · rw [f2 5 (by omega) (by omega)]; exact b3
        · rw [k1 92 (by omega) (by omega), f1 108 (by omega) (by omega), k1 108 (by omega) (by omega)]; exact b4
      · intro f hf t ht
        rw [k4]; exact q_I_bi hI f hf t ht
end MC
