/-! calls that change: what both sides' changes leave -/
def q_kp (Dc Dm : am_D) : Prop := Dc.1 0 7 = Dm.1 106 3 ∧ (Dm.1 106 3 = 0 ∨ Dm.1 106 3 = 1) ∧ (Dm.1 106 3 = 1 → q_C (q_c Dc 12) (q_s Dm 7))
def q_tx (Dc Dm : am_D) : Prop := ∃ l, l ≤ 60 ∧ Dc.1 91 1 = Int32.ofNat l ∧ Dm.1 106 5 = Int32.ofNat l ∧ ∀ k, k < l → Dc.1 92 k = Dm.1 108 k ∧ ∃ w, 33 ≤ w ∧ w ≤ 126 ∧ Dm.1 108 k = Int32.ofNat w
def q_bi (Dc : am_D) : Prop := ∀ f, f < 22 → ∀ t, t ≤ f → Dc.2.1 98 (f * 22 + t) = Int64.ofNat (q_bin f t)
theorem q_I_of {D' D2 : am_D} (hf : ∀ a, a ≤ 92 → D2.1 a = D'.1 a) (h98 : D2.2.1 98 = D'.2.1 98) (h1 : q_B D2) (h2 : q_C (q_c D' 1) (q_s D2 0)) (h3 : q_kp D' D2) (h4 : q_hs D' D2) (h5 : q_tx D' D2) (h6 : q_bi D') : q_I D2 := by
  obtain ⟨k1, k2, k3⟩ := h3
  obtain ⟨o, m, a1, a2, a3, a4, a5, a6⟩ := h4
  obtain ⟨l, b1, b2, b3, b4⟩ := h5
  refine ⟨h1, q_C_eq (fun i hi => hf _ (by omega)) rfl h2, ⟨?_, k2, fun q => q_C_eq (fun i hi => hf _ (by omega)) rfl (k3 q)⟩, ⟨o, m, a1, a2, ?_, ?_, a5, fun j hj => q_C_eq (fun i hi => hf _ (by omega)) rfl (a6 j hj)⟩, ⟨l, b1, ?_, b3, ?_⟩, ?_⟩
  · rw [hf 0 (by omega)]; exact k1
  · rw [hf 23 (by omega)]; exact a3
  · rw [hf 23 (by omega)]; exact a4
  · rw [hf 91 (by omega)]; exact b2
  · rw [hf 92 (by omega)]; exact b4
  · rw [h98]; exact h6
theorem q_I_hs {D : am_D} (h : q_I D) : q_hs D D := h.2.2.2.1
theorem q_I_kp {D : am_D} (h : q_I D) : q_kp D D := h.2.2.1
theorem q_I_tx {D : am_D} (h : q_I D) : q_tx D D := h.2.2.2.2.1
theorem q_I_bi {D : am_D} (h : q_I D) : q_bi D := h.2.2.2.2.2
/-- what a change of the class leaves -/
def q_fr (D1 D' : am_D) : Prop := (∀ a, a = 0 ∨ (12 ≤ a ∧ a ≤ 90) ∨ a = 92 ∨ 106 ≤ a → D'.1 a = D1.1 a) ∧ D'.2.1 98 = D1.2.1 98
/-- what a change of the model leaves -/
def q_fm (E1 D2 : am_D) : Prop := (∀ a, a ≤ 105 ∨ (108 ≤ a ∧ a ≤ 110) → D2.1 a = E1.1 a) ∧ (D2.1 106 0 = E1.1 106 0 ∧ D2.1 106 2 = E1.1 106 2 ∧ D2.1 106 3 = E1.1 106 3) ∧ (∀ o, 1 ≤ o → o ≤ 7 → ∀ k, k < 165 → q_s D2 o k = q_s E1 o k) ∧ D2.2 = E1.2
theorem q_fr.rf (D : am_D) : q_fr D D := ⟨fun _ _ => rfl, rfl⟩
theorem q_fm.rf (D : am_D) : q_fm D D := ⟨fun _ _ => rfl, ⟨rfl, rfl, rfl⟩, fun _ _ _ _ _ => rfl, rfl⟩
theorem q_fr.tr {D E F : am_D} (h : q_fr D E) (k : q_fr E F) : q_fr D F := ⟨fun a ha => (k.1 a ha).trans (h.1 a ha), k.2.trans h.2⟩
theorem q_fm.tr {D E F : am_D} (h : q_fm D E) (k : q_fm E F) : q_fm D F := ⟨fun a ha => (k.1 a ha).trans (h.1 a ha), ⟨k.2.1.1.trans h.2.1.1, k.2.1.2.1.trans h.2.1.2.1, k.2.1.2.2.trans h.2.1.2.2⟩, fun o h1 h2 j hj => (k.2.2.1 o h1 h2 j hj).trans (h.2.2.1 o h1 h2 j hj), k.2.2.2.trans h.2.2.2⟩
theorem q_fr_uI {D : am_D} {a j : Nat} {x : Int32} (h : (1 ≤ a ∧ a ≤ 11) ∨ a = 91 ∨ (93 ≤ a ∧ a ≤ 105)) : q_fr D (am_uI D a j x) := ⟨fun b hb => q_uI_ne _ (by omega), rfl⟩
theorem q_fm_uI {D : am_D} {j : Nat} {x : Int32} (h : j < 165) : q_fm D (am_uI D 107 j x) := by
  refine ⟨fun b hb => q_uI_ne _ (by omega), ⟨?_, ?_, ?_⟩, fun o h1 h2 k hk => ?_, rfl⟩
  · rw [q_uI_ne _ (by omega)]
  · rw [q_uI_ne _ (by omega)]
  · rw [q_uI_ne _ (by omega)]
  · unfold q_s
    rw [q_uI_at, if_neg (by omega)]
theorem q_fm_uI' {D : am_D} {j : Nat} {x : Int32} (h : j ≠ 0 ∧ j ≠ 2 ∧ j ≠ 3) : q_fm D (am_uI D 106 j x) := by
  refine ⟨fun b hb => q_uI_ne _ (by omega), ⟨?_, ?_, ?_⟩, fun o h1 h2 k hk => ?_, rfl⟩
  · rw [q_uI_at, if_neg (by omega)]
  · rw [q_uI_at, if_neg (by omega)]
  · rw [q_uI_at, if_neg (by omega)]
  · unfold q_s
    rw [q_uI_ne _ (by omega)]
/-- the states ahead of both changes: the class has saved (D1), the model has saved (E1) -/
def q_pre (D D1 D' E1 : am_D) (x : Int64) : Prop := q_svC D D1 ∧ q_fr D1 D' ∧ q_svM (am_uI (am_uJ D' 124 0 x) 106 0 0) E1
theorem q_pre_1 {D D1 : am_D} (h : q_svC D D1) : (∀ a, a ≤ 22 ∨ 91 ≤ a → D1.1 a = D.1 a) ∧ D1.2 = D.2 := by
  obtain ⟨o, m, o', m', pl, a1, a2, a3, a4, a5, a6, a7, a8, a9, a10, a11, a12⟩ := h
  refine ⟨fun a ha => a11 a (by omega) (by omega), a12⟩
theorem q_pre_M {D D1 D' : am_D} {x : Int64} (h1 : q_svC D D1) (h2 : q_fr D1 D') : ∀ a, 107 ≤ a → (am_uI (am_uJ D' 124 0 x) 106 0 0).1 a = D.1 a := fun a ha => by
  rw [q_uI_ne _ (by omega)]
  show D'.1 a = D.1 a
  rw [h2.1 a (by omega), (q_pre_1 h1).1 a (by omega)]
theorem q_pre_M' {D D1 D' : am_D} {x : Int64} (h1 : q_svC D D1) (h2 : q_fr D1 D') : ∀ j, j ≠ 0 → (am_uI (am_uJ D' 124 0 x) 106 0 0).1 106 j = D.1 106 j := fun j hj => by
  rw [q_uI_at, if_neg (by omega)]
  show D'.1 106 j = D.1 106 j
  rw [h2.1 106 (by omega), (q_pre_1 h1).1 106 (by omega)]
/-- the model's row ahead of its change is the one of before -/
theorem q_pre_s {D D1 D' E1 : am_D} {x : Int64} (h : q_pre D D1 D' E1 x) : (∀ k, k < 165 → q_s E1 0 k = q_s D 0 k) ∧ (∀ a, 108 ≤ a → E1.1 a = D.1 a) ∧ (∀ j, j ≠ 0 → j ≠ 2 → E1.1 106 j = D.1 106 j) ∧ E1.1 106 0 = 0 ∧ (∀ a, a ≤ 105 → E1.1 a = D'.1 a) ∧ E1.2 = (am_uJ D' 124 0 x).2 := by
  obtain ⟨h1, h2, h3⟩ := h
  obtain ⟨m, m', c1, c2, c3, c4, c5, c6, c7, c8, c9, c10⟩ := h3
  refine ⟨fun k hk => ?_, fun a ha => ?_, fun j h0 h2' => ?_, ?_, fun a ha => ?_, c7⟩
  · rw [c8 k hk]
    unfold q_s
    rw [q_pre_M h1 h2 107 (by omega)]
  · rw [c5 a (by omega) (by omega), q_pre_M h1 h2 a (by omega)]
  · rw [c6 j h2', q_pre_M' h1 h2 j h0]
  · rw [c6 0 (by omega)]; exact q_uIs _ _ _ _
  · rw [c5 a (by omega) (by omega), q_uI_ne _ (by omega)]; rfl
/-- the model can save then -/
theorem q_pre_of {N : Nat} (hN : 2000 ≤ N) {D D1 D' : am_D} (hI : q_I D) (h1 : q_svC D D1) (h2 : q_fr D1 D') (x : Int64) : ∃ E1, m76 N (am_uI (am_uJ D' 124 0 x) 106 0 0) = some E1 ∧ q_pre D D1 D' E1 x := by
  obtain ⟨o, m, a1, a2, a3, a4, a5, a6⟩ := q_I_hs hI
  obtain ⟨E1, e1, e2⟩ := q76 hN (D := am_uI (am_uJ D' 124 0 x) 106 0 0) a2 (by rw [q_pre_M' h1 h2 2 (by omega)]; exact a5)
  exact ⟨E1, e1, h1, h2, e2⟩
theorem q_sav {D : am_D} (hI : q_I D) : ∃ D1, m168 D = some D1 ∧ q_svC D D1 := by
  obtain ⟨o, m, a1, a2, a3, a4, a5, a6⟩ := q_I_hs hI
  exact q168 a1 a2 a3 a4
/-- both have saved, and both changed what is current alike -/
theorem q_mut {D D1 D' E1 D2 : am_D} {x : Int64} (hI : q_I D) (h : q_pre D D1 D' E1 x) (hm : q_fm E1 D2) (hC : q_C (q_c D' 1) (q_s D2 0)) (hX : q_tx D' D2) : q_I D2 := by
  obtain ⟨s1, s2, s3, s4, s5, s6⟩ := q_pre_s h
  obtain ⟨h1, h2, h3⟩ := h
  obtain ⟨p1, p2⟩ := q_pre_1 h1
  have hB := hI.1
  have h98 : D'.2.1 98 = D.2.1 98 := by rw [h2.2, p2]
  refine q_I_of (D' := D') (fun a ha => ?_) ?_ ?_ hC ?_ ?_ hX ?_
  · rw [hm.1 a (by omega), s5 a (by omega)]
  · rw [hm.2.2.2, s6]
    funext i
    show (if 98 = 124 ∧ i = 0 then x else D'.2.1 98 i) = _
    rw [if_neg (by omega)]
  · intro t ht
    rw [hm.1 109 (by omega), hm.1 110 (by omega), s2 109 (by omega), s2 110 (by omega)]
    exact hB t ht
  · obtain ⟨k1, k2, k3⟩ := q_I_kp hI
    have e3 : D2.1 106 3 = D.1 106 3 := by rw [hm.2.1.2.2, s3 3 (by omega) (by omega)]
    refine ⟨?_, ?_, fun q => ?_⟩
    · rw [e3, h2.1 0 (by omega), p1 0 (by omega)]; exact k1
    · rw [e3]; exact k2
    · rw [e3] at q
      obtain ⟨m, m', c1, c2, c3, c4, c5, c6, c7, c8, c9, c10⟩ := h3
      refine q_C_w (fun i j hw => ?_) (fun k hk => ?_) (k3 q)
      · unfold q_w at hw
        show D'.1 (12 + i) j = D.1 (12 + i) j
        rw [h2.1 _ (by omega), p1 _ (by omega)]
      · rw [hm.2.2.1 7 (by omega) (by omega) k hk, c9 k hk]
        unfold q_s
        rw [q_pre_M h1 h2 107 (by omega)]
  · have g : q_hs D1 E1 := by
      refine q_hi_sv (D := D) (E := am_uI (am_uJ D' 124 0 x) 106 0 0) ?_ ?_ h1 h3
      · obtain ⟨o, m, a1, a2, a3, a4, a5, a6⟩ := q_I_hs hI
        refine ⟨o, m, a1, a2, a3, a4, ?_, fun j hj => q_C_w (fun _ _ _ => rfl) (fun k hk => ?_) (a6 j hj)⟩
        · rw [q_pre_M' h1 h2 2 (by omega)]; exact a5
        · unfold q_s
          rw [q_pre_M h1 h2 107 (by omega)]
      · refine q_C_w (fun _ _ _ => rfl) (fun k hk => ?_) hI.2.1
        unfold q_s
        rw [q_pre_M h1 h2 107 (by omega)]
    obtain ⟨o, m, a1, a2, a3, a4, a5, a6⟩ := g
    refine ⟨o, m, a1, a2, ?_, ?_, ?_, fun j hj => q_C_w (fun i k hw => ?_) (fun k hk => ?_) (a6 j hj)⟩
    · rw [h2.1 23 (by omega)]; exact a3
    · rw [h2.1 23 (by omega)]; exact a4
    · rw [hm.2.1.2.1]; exact a5
    · unfold q_w at hw
      show D'.1 (25 + 11 * ((o + j) % 6) + i) k = D1.1 (25 + 11 * ((o + j) % 6) + i) k
      rw [h2.1 _ (by omega)]
    · exact hm.2.2.1 (j + 1) (by omega) (by omega) k hk
  · intro f hf t ht
    rw [h98]; exact q_I_bi hI f hf t ht
/-- the text is as it was -/
theorem q_tx_same {D D1 D' E1 D2 : am_D} {x : Int64} (hI : q_I D) (h : q_pre D D1 D' E1 x) (hm : q_fm E1 D2) (h91 : D'.1 91 = D1.1 91) (h5 : D2.1 106 5 = E1.1 106 5) : q_tx D' D2 := by
  obtain ⟨s1, s2, s3, s4, s5, s6⟩ := q_pre_s h
  obtain ⟨h1, h2, h3⟩ := h
  obtain ⟨p1, p2⟩ := q_pre_1 h1
  obtain ⟨l, b1, b2, b3, b4⟩ := q_I_tx hI
  refine ⟨l, b1, ?_, ?_, ?_⟩
  · rw [h91, p1 91 (by omega)]; exact b2
  · rw [h5, s3 5 (by omega) (by omega)]; exact b3
  · rw [h2.1 92 (by omega), p1 92 (by omega), hm.1 108 (by omega), s2 108 (by omega)]; exact b4
/-- the whole call -/
theorem q_G_mu {A M : am_D → Option (Int32 × am_D)} {D D1 D' E1 D2 : am_D} (x : Int32) (hI : q_I D) (h : q_pre D D1 D' E1 x.toInt64) (hm : q_fm E1 D2) (hC : q_C (q_c D' 1) (q_s D2 0)) (hX : q_tx D' D2) (h1 : A D = some (0, am_uJ D' 124 0 x.toInt64)) (h2 : M (am_uJ D' 124 0 x.toInt64) = some (x, D2)) : q_G A M D := by
  have s := q_pre_s h
  exact q_G_ok x h1 h2 (hm.2.1.1.trans s.2.2.2.1) (by rw [hm.2.2.2, s.2.2.2.2.2]) (q_mut hI h hm hC hX)
