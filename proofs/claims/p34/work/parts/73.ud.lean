/-! a deed is kept in the history; undo -/
section UD
variable {D D1 D' E F M : am_D} {N : Nat} {n p : Nat} {T V : Nat → Nat}
/-- what a change of the table leaves -/
def u_op (D1 D' : am_D) : Prop := (∀ a, a = 0 ∨ (12 ≤ a ∧ a ≤ 105) → D'.1 a = D1.1 a) ∧ D'.2 = D1.2
/-- E is D with one deed more -/
def u_sv (D E : am_D) : Prop := (∃ o m o' m' pl, o < 6 ∧ m ≤ 6 ∧ D.1 23 1 = Int32.ofNat o ∧ D.1 23 2 = Int32.ofNat m ∧ o' = (if m < 6 then o else (o + 1) % 6) ∧ m' = (if m < 6 then m + 1 else 6) ∧ pl = (o' + (m' - 1)) % 6 ∧ E.1 23 1 = Int32.ofNat o' ∧ E.1 23 2 = Int32.ofNat m' ∧ (∀ i j, i ≤ 10 → q_w i j → E.1 (25 + 11 * pl + i) j = D.1 (1 + i) j)) ∧ (∀ a, a = 0 ∨ (12 ≤ a ∧ a ≤ 22) → E.1 a = D.1 a) ∧ u_oo D E
theorem u_sav (hI : u_I D) : ∃ D1, m168 D = some D1 ∧ q_svC D D1 := by
  obtain ⟨-, -, -, -, ⟨o, m, h1, h2, h3, h4, -⟩, -⟩ := hI
  exact q168 h1 h2 h3 h4
theorem u_D1_N (hI : u_I D) (h : q_svC D D1) : D1.1 107 = u_en (q_c D1 1) ∧ q_B D1 ∧ u_C (q_c D1 1) ∧ (∀ a, a ≤ 22 → D1.1 a = D.1 a) ∧ D1.2 = D.2 := by
  obtain ⟨p1, p2⟩ := q_pre_1 h
  have hc : ∀ i, i ≤ 10 → q_c D1 1 i = q_c D 1 i := fun i hi => p1 (1 + i) (by omega)
  refine ⟨?_, ?_, u_C_cg hc hI.2.1, fun a ha => p1 a (Or.inl ha), p2⟩
  · rw [p1 107 (by omega), u_en_cg hc]; exact hI.1.1
  · intro t ht
    rw [p1 109 (by omega), p1 110 (by omega)]
    exact hI.1.2.2 t ht
theorem u_D1_K (hI : u_I D) (h : q_svC D D1) (hK : q_K D n p T V) : q_K D1 n p T V := q_K_D1 h hK
/-- a deed: what was is kept, the table is changed -/
theorem u_act (hI : u_I D) (h1 : q_svC D D1) (h2 : u_op D1 D') (hC : u_C (q_c D' 1)) (ho : u_oo D1 D') : u_I (u_gh D') ∧ u_sv D (u_gh D') := by
  obtain ⟨p1, p2⟩ := q_pre_1 h1
  obtain ⟨o, m, o', m', pl, a1, a2, a3, a4, a5, a6, a7, a8, a9, a10, a11, a12⟩ := h1
  obtain ⟨-, b1, b2, b3, ⟨ob, mb, d1, d2, d3, d4, d5⟩, b5⟩ := hI
  obtain rfl : ob = o := q_ofN (by omega) (by omega) (d3.symm.trans a3)
  obtain rfl : mb = m := q_ofN (by omega) (by omega) (d4.symm.trans a4)
  have e23 : D'.1 23 = D1.1 23 := h2.1 23 (by omega)
  have k12 : ∀ a, a = 0 ∨ (12 ≤ a ∧ a ≤ 22) → D'.1 a = D.1 a := fun a ha => by rw [h2.1 a (by omega), p1 a (by omega)]
  refine ⟨u_gh_I hC (fun q => ?_) ?_ ?_ ?_, ⟨ob, mb, o', m', pl, a1, a2, a3, a4, a5, a6, a7, ?_, ?_, fun i j hi hw => ?_⟩, fun a ha => ?_, ?_⟩
  · rw [k12 0 (by omega)] at q
    exact u_C_cg (fun i hi => k12 (12 + i) (by omega)) (b2 q)
  · rw [k12 0 (by omega)]; exact b3
  · have hpl : pl < 6 := by omega
    have hm' : m' ≤ 6 := by rw [a6]; split <;> omega
    have hm1 : 1 ≤ m' := by rw [a6]; split <;> omega
    have ho' : o' < 6 := by rw [a5]; split <;> omega
    refine ⟨o', m', ho', hm', by rw [e23]; exact a8, by rw [e23]; exact a9, fun j hj => ?_⟩
    by_cases c : j = m' - 1
    · subst c
      rw [← a7]
      refine u_C_w (c := q_c D 1) (fun i k hw => ?_) b1
      have hi : i ≤ 10 := by unfold q_w at hw; omega
      show D'.1 (25 + 11 * pl + i) k = D.1 (1 + i) k
      rw [h2.1 _ (by omega)]
      exact a10 i k hi hw
    · have hne : (o' + j) % 6 ≠ pl := by rw [a7]; omega
      have hlt : (o' + j) % 6 < 6 := Nat.mod_lt _ (by omega)
      have hold : ∀ i, i ≤ 10 → q_c D' (25 + 11 * ((o' + j) % 6)) i = q_c D (25 + 11 * ((o' + j) % 6)) i := fun i hi => by
        show D'.1 (25 + 11 * ((o' + j) % 6) + i) = D.1 (25 + 11 * ((o' + j) % 6) + i)
        rw [h2.1 _ (by omega), a11 _ (by omega) (by omega)]
      refine u_C_cg hold ?_
      by_cases c6 : mb < 6
      · rw [if_pos c6] at a5 a6
        rw [a5]
        exact d5 j (by omega)
      · rw [if_neg c6] at a5 a6
        have := d5 (j + 1) (by omega)
        rw [a5, show ((ob + 1) % 6 + j) % 6 = (ob + (j + 1)) % 6 by omega]
        exact this
  · unfold q_tb at b5 ⊢
    rw [h2.2, p2]; exact b5
  · rw [u_gh_c (by omega), e23]; exact a8
  · rw [u_gh_c (by omega), e23]; exact a9
  · have hpl : pl < 6 := by omega
    rw [u_gh_c (by omega), h2.1 _ (by omega)]
    exact a10 i j hi hw
  · rw [u_gh_c (by omega)]; exact k12 a ha
  · refine oo_gh ((oo_eq fun a x y => p1 a (by omega)).tr ho)
/-- undo brings back the table -/
theorem u_undo (hC : u_C (q_c D 1)) (hE : u_I E) (h : u_sv D E) : ∃ r E', n17 E = some (Sum.inl (Int32.ofNat r), E') ∧ E.1 23 2 = Int32.ofNat (r + 1) ∧ r < 6 ∧ u_I E' ∧ (∀ a, a ≤ 22 → E'.1 a = D.1 a) ∧ E'.1 23 2 = Int32.ofNat r := by
  obtain ⟨⟨o, m, o', m', pl, a1, a2, a3, a4, a5, a6, a7, a8, a9, a10⟩, a11, a12⟩ := h
  obtain ⟨-, b1, b2, b3, ⟨ob, mb, d1, d2, d3, d4, d5⟩, b5⟩ := hE
  have hm' : m' ≤ 6 := by rw [a6]; split <;> omega
  have hm1 : 1 ≤ m' := by rw [a6]; split <;> omega
  have ho' : o' < 6 := by rw [a5]; split <;> omega
  obtain rfl : ob = o' := q_ofN (by omega) (by omega) (d3.symm.trans a8)
  obtain rfl : mb = m' := q_ofN (by omega) (by omega) (d4.symm.trans a9)
  have hms : Int32.ofNat mb - 1 = Int32.ofNat (mb - 1) := q_sub (b := 1) (by omega)
  obtain ⟨G, g1, g2, g3⟩ : ∃ G, m169 E = some (am_uI G 23 2 (Int32.ofNat (mb - 1))) ∧ q_cs 1 (25 + 11 * ((ob + (mb - 1)) % 6)) q_w E G ∧ u_oo E G := by
    have fin : ∀ b, 25 ≤ b → q_cs 1 b q_w E (q_cy 1 b E) ∧ (q_cy 1 b E).1 23 2 = Int32.ofNat mb ∧ u_oo E (q_cy 1 b E) := fun b hb => by
      have := q_cy_cs (b1 := 1) (b0 := b) E (by omega)
      exact ⟨this, by rw [this.1 23 (by omega)]; exact a9, u_cy_oo E b⟩
    unfold m169
    rw [a9, hms, q170 d1 (by omega) d3, Option.bind_some, q202_1_25, q202_1_36, q202_1_47, q202_1_58, q202_1_69, q202_1_80]
    have c : (ob + (mb - 1)) % 6 = 0 ∨ (ob + (mb - 1)) % 6 = 1 ∨ (ob + (mb - 1)) % 6 = 2 ∨ (ob + (mb - 1)) % 6 = 3 ∨ (ob + (mb - 1)) % 6 = 4 ∨ (ob + (mb - 1)) % 6 = 5 := by omega
    rcases c with c | c | c | c | c | c <;> rw [c]
    · exact ⟨q_cy 1 25 E, by simp only [am_lt, (fin 25 (by omega)).2.1, hms]; rfl, (fin 25 (by omega)).1, (fin 25 (by omega)).2.2⟩
    · exact ⟨q_cy 1 36 E, by simp only [am_lt, (fin 36 (by omega)).2.1, hms]; rfl, (fin 36 (by omega)).1, (fin 36 (by omega)).2.2⟩
    · exact ⟨q_cy 1 47 E, by simp only [am_lt, (fin 47 (by omega)).2.1, hms]; rfl, (fin 47 (by omega)).1, (fin 47 (by omega)).2.2⟩
    · exact ⟨q_cy 1 58 E, by simp only [am_lt, (fin 58 (by omega)).2.1, hms]; rfl, (fin 58 (by omega)).1, (fin 58 (by omega)).2.2⟩
    · exact ⟨q_cy 1 69 E, by simp only [am_lt, (fin 69 (by omega)).2.1, hms]; rfl, (fin 69 (by omega)).1, (fin 69 (by omega)).2.2⟩
    · exact ⟨q_cy 1 80 E, by simp only [am_lt, (fin 80 (by omega)).2.1, hms]; rfl, (fin 80 (by omega)).1, (fin 80 (by omega)).2.2⟩
  have k1 : ∀ a, a = 0 ∨ 11 < a → a ≠ 23 → (am_uI G 23 2 (Int32.ofNat (mb - 1))).1 a = E.1 a := fun a h1 h2 => by rw [q_uI_ne _ h2]; exact g2.1 a (by omega)
  have k2 : ∀ i j, i ≤ 10 → q_w i j → (am_uI G 23 2 (Int32.ofNat (mb - 1))).1 (1 + i) j = D.1 (1 + i) j := fun i j h1 h2 => by
    rw [q_uI_ne _ (by omega)]
    refine (g2.2.1 i j h1 h2).trans ?_
    rw [← a7]
    exact a10 i j h1 h2
  have k2' : ∀ i j, i ≤ 10 → ¬ q_w i j → (am_uI G 23 2 (Int32.ofNat (mb - 1))).1 (1 + i) j = D.1 (1 + i) j := fun i j h1 h2 => by
    rw [q_uI_ne _ (by omega)]
    exact (g3 i j h1 h2).trans (a12 i j h1 h2)
  have k3 : (am_uI G 23 2 (Int32.ofNat (mb - 1))).1 23 2 = Int32.ofNat (mb - 1) := q_uIs _ _ _ _
  have k3' : (am_uI G 23 2 (Int32.ofNat (mb - 1))).1 23 1 = Int32.ofNat ob := by rw [q_uI_at, if_neg (by omega), g2.1 23 (by omega)]; exact a8
  have k4 : (am_uI G 23 2 (Int32.ofNat (mb - 1))).2 = E.2 := g2.2.2
  generalize am_uI G 23 2 (Int32.ofNat (mb - 1)) = F at g1 k1 k2 k2' k3 k3' k4
  have kk : ∀ a, a ≤ 22 → F.1 a = D.1 a := fun a ha => by
    by_cases c : 1 ≤ a ∧ a ≤ 11
    · obtain ⟨i, rfl⟩ : ∃ i, a = 1 + i := ⟨a - 1, by omega⟩
      funext j
      by_cases w : q_w i j
      · exact k2 i j (by omega) w
      · exact k2' i j (by omega) w
    · rw [k1 a (by omega) (by omega)]
      exact a11 a (by omega)
  refine ⟨mb - 1, u_gh F, ?_, by rw [show mb - 1 + 1 = mb by omega]; exact a9, by omega, u_gh_I ?_ (fun q => ?_) ?_ ?_ ?_, fun a ha => ?_, ?_⟩
  · unfold n17 m17
    rw [if_neg (by rw [a9]; exact fun q => absurd (q_ofN (a := mb) (b := 0) (by omega) (by omega) q) (by omega)), g1, Option.bind_some, k3]
    rfl
  · exact u_C_cg (fun i hi => kk (1 + i) (by omega)) hC
  · rw [k1 0 (by omega) (by omega)] at q
    exact u_C_cg (fun i hi => k1 (12 + i) (by omega) (by omega)) (b2 q)
  · rw [k1 0 (by omega) (by omega)]; exact b3
  · refine ⟨ob, mb - 1, d1, by omega, k3', k3, fun j hj => ?_⟩
    have hlt : (ob + j) % 6 < 6 := Nat.mod_lt _ (by omega)
    refine u_C_cg (fun i hi => ?_) (d5 j (by omega))
    exact k1 (25 + 11 * ((ob + j) % 6) + i) (by omega) (by omega)
  · unfold q_tb at b5 ⊢
    rw [k4]; exact b5
  · rw [u_gh_c (by omega)]; exact kk a ha
  · rw [u_gh_c (by omega)]; exact k3
/-- the count of deeds that can be undone -/
theorem u_sv_18 (h : u_sv D E) : ∃ m, m ≤ 6 ∧ D.1 23 2 = Int32.ofNat m ∧ E.1 23 2 = Int32.ofNat (if m < 6 then m + 1 else 6) := by
  obtain ⟨⟨o, m, o', m', pl, a1, a2, a3, a4, a5, a6, a7, a8, a9, a10⟩, -⟩ := h
  exact ⟨m, a2, a4, by rw [a9, a6]⟩
/-- reading does no harm -/
theorem u_sv_E (h : u_sv D E) (k : q_E E F) : u_sv D F := by
  obtain ⟨⟨o, m, o', m', pl, a1, a2, a3, a4, a5, a6, a7, a8, a9, a10⟩, a11, a12⟩ := h
  refine ⟨⟨o, m, o', m', pl, a1, a2, a3, a4, a5, a6, a7, ?_, ?_, fun i j hi hw => ?_⟩, fun a ha => ?_, fun i j hi hw => ?_⟩
  · rw [k.1 23 (by omega)]; exact a8
  · rw [k.1 23 (by omega)]; exact a9
  · have hpl : pl < 6 := by omega
    rw [k.1 _ (by omega)]; exact a10 i j hi hw
  · rw [k.1 a (by omega)]; exact a11 a ha
  · rw [k.1 _ (by omega)]; exact a12 i j hi hw
/-- over an equal table a deed goes alike -/
theorem d_push {α : Type} {T : am_D → Option (α × am_D)} (hT : ∀ D M, T (u_hz D M) = (T D).map fun r => (r.1, u_hz r.2 M)) {E1 : am_D} (h1 : q_svC D D1) (h2 : q_svC E E1) (he : ∀ a, a ≤ 22 → E.1 a = D.1 a) {x : α} (hx : T D1 = some (x, D')) : ∃ E', T E1 = some (x, E') ∧ ∀ a, a ≤ 22 → E'.1 a = D'.1 a := by
  have e : E1 = u_hz D1 E1 := u_hz_eq fun a ha => by
    rw [(q_pre_1 h1).1 a (Or.inl ha), (q_pre_1 h2).1 a (Or.inl ha)]; exact he a ha
  rw [e, hT, hx]
  exact ⟨_, rfl, fun a ha => u_hz_c ha⟩
end UD
