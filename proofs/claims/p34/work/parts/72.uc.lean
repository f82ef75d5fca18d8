/-! what lies outside the rows' lengths stays as it is -/
section UC
variable {D E F : am_D} {N : Nat}
def u_oo (D E : am_D) : Prop := ∀ i j, i ≤ 10 → ¬ q_w i j → E.1 (1 + i) j = D.1 (1 + i) j
theorem u_oo.rf (D : am_D) : u_oo D D := fun _ _ _ _ => rfl
theorem u_oo.tr (h : u_oo D E) (k : u_oo E F) : u_oo D F := fun i j hi hw => (k i j hi hw).trans (h i j hi hw)
theorem oo_uI (h : u_oo D E) {a j : Nat} {x : Int32} (hw : a = 0 ∨ 11 < a ∨ q_w (a - 1) j) : u_oo D (am_uI E a j x) := fun i k hi hk => by
  rw [q_uI_at]
  by_cases c : 1 + i = a ∧ k = j
  · exfalso
    obtain ⟨c1, c2⟩ := c
    subst c1; subst c2
    rcases hw with q | q | q
    · omega
    · omega
    · rw [show 1 + i - 1 = i by omega] at q; exact hk q
  · rw [if_neg c]; exact h i k hi hk
theorem oo_rp (h : u_oo D E) {a n : Nat} {p x : Int32} (hn : n < 2147483648) (hw : ∀ j, j < n → q_w (a - 1) j) : u_oo D (am_rput E a n p x) := by
  unfold am_rput
  by_cases c : 0 ≤ p ∧ p < Int32.ofNat n
  · rw [if_pos c]
    obtain ⟨i, hi, rfl⟩ := q_of hn c.1 c.2
    exact oo_uI h (Or.inr (Or.inr (by rw [q_tn (by omega)]; exact hw i hi)))
  · rw [if_neg c]; exact h
theorem oo_ra (h : u_oo D E) {a n : Nat} {p x : Int32} (hn : n < 2147483648) (hw : ∀ j, j < n → q_w (a - 1) j) : u_oo D (am_radd E a n p x) := by
  unfold am_radd
  by_cases c : 0 ≤ p ∧ p < Int32.ofNat n
  · rw [if_pos c]
    obtain ⟨i, hi, rfl⟩ := q_of hn c.1 c.2
    exact oo_uI h (Or.inr (Or.inr (by rw [q_tn (by omega)]; exact hw i hi)))
  · rw [if_neg c]; exact h
theorem oo_rf (h : u_oo D E) {a n : Nat} {x : Int32} (hw : ∀ j, j < n → q_w (a - 1) j) : u_oo D (am_rfill E a n x) := fun i k hi hk => by
  rw [q_rf_at]
  by_cases c : 1 + i = a
  · rw [if_pos c]
    by_cases d : k < n
    · exfalso
      have := hw k d
      rw [← c, show 1 + i - 1 = i by omega] at this
      exact hk this
    · rw [if_neg d]; exact h i k hi hk
  · rw [if_neg c]; exact h i k hi hk
theorem w7 : ∀ j, j < 28 → q_w (7 - 1) j := fun j hj => by unfold q_w; omega
theorem w3_6 {r : Nat} (h : 3 ≤ r ∧ r ≤ 6) : ∀ j, j < 28 → q_w (r - 1) j := fun j hj => by unfold q_w; omega
theorem w8_10 {r : Nat} (h : 8 ≤ r ∧ r ≤ 10) : ∀ j, j < 4 → q_w (r - 1) j := fun j hj => by unfold q_w; omega
theorem w11 : ∀ j, j < 2 → q_w (11 - 1) j := fun j hj => by unfold q_w; omega
theorem w1 {j : Nat} (h : 6 ≤ j ∧ j < 16) : q_w (1 - 1) j := by unfold q_w; omega
theorem w2 {j : Nat} (h : 4 ≤ j ∧ j < 7) : q_w (2 - 1) j := by unfold q_w; omega
theorem oo_1 (h : u_oo D E) {j : Nat} {x : Int32} (hj : 6 ≤ j ∧ j < 16) : u_oo D (am_uI E 1 j x) := oo_uI h (Or.inr (Or.inr (w1 hj)))
theorem oo_2 (h : u_oo D E) {j : Nat} {x : Int32} (hj : 4 ≤ j ∧ j < 7) : u_oo D (am_uI E 2 j x) := oo_uI h (Or.inr (Or.inr (w2 hj)))
theorem oo213 (h : u_oo D E) (a b : Int32) : u_oo D (m213 E a b) := by
  unfold m213
  exact oo_rp h (by decide) w7
theorem oo165 (h : u_oo D E) (v : Int32) : u_oo D (m165 E v) := by
  unfold m165
  simp only [am_lt]
  exact oo_rp (oo_rp (oo_rp (oo_rp h (by decide) (w3_6 (by omega))) (by decide) (w3_6 (by omega))) (by decide) (w3_6 (by omega))) (by decide) (w3_6 (by omega))
theorem oo164_L (v1 v2 v3 v4 v5 v6 : Int32) : ∀ (n : Nat) (E : am_D) (v : Int32) (F : am_D), u_oo D E → m164_L64 N v1 v2 v3 v4 v5 v6 n E v = some F → u_oo D F
  | 0, _, _, _, _, e => nomatch (show none = some _ from e)
  | n + 1, E, v, F, h, e => by
    rw [m164_L64] at e
    split at e
    · cases e; exact h
    · simp only [am_lt] at e
      exact oo164_L v1 v2 v3 v4 v5 v6 n _ _ F (oo165 h _) e
theorem oo164 (h : u_oo D E) {a b c : Int32} (e : m164 N E a b c = some F) : u_oo D F := by
  unfold m164 at e
  split at e
  · simp only [am_lt] at e
    obtain ⟨q, e1, e2⟩ := Option.bind_eq_some_iff.mp e
    have hq := oo164_L _ _ _ _ _ _ _ _ _ q h e1
    cases e2
    exact oo_2 (oo_2 (oo_rp (oo_2 (oo_rp (oo_rp (oo_rp hq (by decide) (w3_6 (r := 3) (by omega))) (by decide) (w3_6 (r := 4) (by omega))) (by decide) (w3_6 (r := 5) (by omega))) (by omega)) (by decide) (w3_6 (r := 6) (by omega))) (by omega)) (by omega)
  · cases e; exact h
theorem oo227 (h : u_oo D E) : u_oo D (m227 E) := by
  unfold m227
  simp only [am_lt]
  exact oo_1 (oo_1 h (by omega)) (by omega)
theorem oo223 (h : u_oo D E) {a b c : Int32} {r : Int32 × am_D} (e : m223 N E a b c = some r) : u_oo D r.2 := by
  unfold m223 at e
  obtain ⟨q1, e1, e⟩ := Option.bind_eq_some_iff.mp e
  obtain ⟨q3, e3, e⟩ := Option.bind_eq_some_iff.mp e
  simp only [am_lt] at e
  have h1 := oo_1 (j := 13) (x := (am_uI (am_uI (am_radd (am_rput q3 7 28 b 4) 11 2 (m187 a) q1) 1 9 a) 1 11 0).1 1 13 + 1) (oo_1 (j := 11) (x := 0) (oo_1 (j := 9) (x := a) (oo_ra (p := m187 a) (x := q1) (oo_rp (p := b) (x := 4) (oo164 h e3) (n := 28) (by decide) w7) (n := 2) (by decide) w11) (by omega)) (by omega)) (by omega)
  obtain ⟨q15, e15, e⟩ := Option.bind_eq_some_iff.mp e
  split at e
  · cases e; exact oo227 h1
  · cases e; exact oo_1 h1 (by omega)
theorem oo226 (h : u_oo D E) (e : m226 N E = some F) : u_oo D F := by
  unfold m226 at e
  obtain ⟨q1, e1, e⟩ := Option.bind_eq_some_iff.mp e
  obtain ⟨q3, e3, e⟩ := Option.bind_eq_some_iff.mp e
  simp only [am_lt] at e
  obtain ⟨q7, e7, e⟩ := Option.bind_eq_some_iff.mp e
  obtain ⟨q9, e9, e⟩ := Option.bind_eq_some_iff.mp e
  split at e
  · cases e; exact oo_ra h (by decide) w11
  · cases e; exact oo_ra h (by decide) w11
theorem oo224 (h : u_oo D E) {a : Int32} {r : Int32 × am_D} (e : m224 N E a = some r) : u_oo D r.2 := by
  unfold m224 at e
  obtain ⟨G, hG, e⟩ := am_ltE e
  have h0 : u_oo D G := by
    rw [hG]
    split
    · exact h
    · exact oo_rp h (by decide) (w8_10 (r := 9) (by omega))
  obtain ⟨D9, h9, e⟩ := am_ltE e
  obtain ⟨D11, h11, e⟩ := am_ltE e
  obtain ⟨D13, h13, e⟩ := am_ltE e
  have h1 : u_oo D D13 := by
    rw [h13]
    refine oo_1 ?_ (by omega)
    rw [h11]
    refine oo_1 ?_ (by omega)
    rw [h9]
    exact oo_ra h0 (by decide) (w8_10 (r := 10) (by omega))
  split at e
  · obtain ⟨D16, h16, e⟩ := am_ltE e
    cases e
    rw [h16]
    exact oo_1 h1 (by omega)
  · obtain ⟨q18, e18, e⟩ := Option.bind_eq_some_iff.mp e
    obtain ⟨q20, h20, e⟩ := am_ltE e
    cases e
    rw [h20]
    exact oo227 (oo226 h1 e18)
theorem oo217 (h : u_oo D E) (v : Int32) : u_oo D (m217 E v) := by
  unfold m217
  simp only [am_lt]
  exact oo_1 (oo_1 (oo_1 (oo_1 (oo_1 (oo_1 (oo_rf (oo_rf (oo_rf h (w8_10 (by omega))) (w8_10 (by omega))) (w8_10 (by omega))) (by omega)) (by omega)) (by omega)) (by omega)) (by omega)) (by omega)
theorem oo218 (h : u_oo D E) {r : Int32 × am_D} (e : m218 N E = some r) : u_oo D r.2 := by
  unfold m218 at e
  obtain ⟨q1, e1, e⟩ := Option.bind_eq_some_iff.mp e
  simp only [am_lt, m153] at e
  cases e
  exact oo_1 (oo_1 (oo_2 (oo_2 (oo_2 (oo_rf (oo_rf h w7) (w8_10 (by omega))) (by omega)) (by omega)) (by omega)) (by omega)) (by omega)
theorem oo214_1 (v : Int32) : ∀ (n : Nat) (E : am_D) (a b c : Int32) (r : Int32 × Int32 × am_D), u_oo D E → m214_L21 N v n E a b c = some r → u_oo D r.2.2
  | 0, _, _, _, _, _, _, e => nomatch (show none = some _ from e)
  | n + 1, E, a, b, c, r, h, e => by
    rw [m214_L21] at e
    split at e
    · cases e; exact h
    · simp only [am_lt] at e
      obtain ⟨q7, e7, e⟩ := Option.bind_eq_some_iff.mp e
      obtain ⟨q9, e9, e⟩ := Option.bind_eq_some_iff.mp e
      refine oo214_1 v n _ _ _ _ r ?_ e
      split at e9
      · cases e9; exact h
      · split at e9
        · obtain ⟨q14, e14, e9⟩ := Option.bind_eq_some_iff.mp e9
          cases e9
          exact oo213 h _ _
        · cases e9
theorem oo214_L : ∀ (n : Nat) (E : am_D) (a b c : Int32) (r : Int32 × am_D), u_oo D E → m214_L7 N n E a b c = some r → u_oo D r.2
  | 0, _, _, _, _, _, _, e => nomatch (show none = some _ from e)
  | n + 1, E, a, b, c, r, h, e => by
    rw [m214_L7] at e
    split at e
    · cases e; exact h
    · obtain ⟨q2, e2, e⟩ := Option.bind_eq_some_iff.mp e
      obtain ⟨q22, e22, e⟩ := Option.bind_eq_some_iff.mp e
      simp only [am_lt] at e
      exact oo214_L n _ _ _ _ r (oo214_1 _ _ _ _ _ _ _ h e22) e
theorem oo214 (h : u_oo D E) {v : Int32} {r : Int32 × am_D} (e : m214 N E v = some r) : u_oo D r.2 := by
  unfold m214 at e
  obtain ⟨q, e1, e⟩ := Option.bind_eq_some_iff.mp e
  cases e
  exact oo214_L _ _ _ _ _ _ h e1
theorem oo228 (h : u_oo D E) (a : Int32) : u_oo D (m228 E a).2 := by
  unfold m228
  simp only [am_lt]
  exact oo_1 (oo_1 h (by omega)) (by omega)
theorem oo229 (h : u_oo D E) (a : Int32) : u_oo D (m229 E a).2 := by
  unfold m229
  simp only [am_lt]
  exact oo_rp h (by decide) (w8_10 (by omega))
theorem oo_gh (h : u_oo D E) : u_oo D (u_gh E) := fun i j hi hw => by rw [u_gh_c (by omega)]; exact h i j hi hw
theorem oo_eq (h : ∀ a, 1 ≤ a → a ≤ 11 → E.1 a = D.1 a) : u_oo D E := fun i j hi _ => by rw [h (1 + i) (by omega) (by omega)]
theorem oo_rc (h : u_oo D E) {a b n : Nat} (hw : ∀ j, j < n → q_w (b - 1) j) : u_oo D (am_rcopy E a b n n) := fun i k hi hk => by
  rw [q_rc_at]
  by_cases c : 1 + i = b
  · rw [if_pos c]
    by_cases d : k < n
    · exfalso
      have := hw k d
      rw [← c, show 1 + i - 1 = i by omega] at this
      exact hk this
    · rw [if_neg d, ← c]; exact h i k hi hk
  · rw [if_neg c]; exact h i k hi hk
theorem oo_lt {e : am_D} {f : am_D → am_D} (k : u_oo D e) (h : ∀ E, u_oo D E → u_oo D (f E)) : u_oo D (am_lt e f) := h e k
theorem u_cy_oo (E : am_D) (b : Nat) : u_oo E (q_cy 1 b E) := by
  unfold q_cy
  refine oo_lt ?_ fun E0 h => ?_
  · unfold q_cyc
    have h := u_oo.rf E
    exact oo_lt (oo_rc h (w3_6 (r := 3) (by omega))) fun _ h => oo_lt (oo_rc h (w3_6 (r := 4) (by omega))) fun _ h => oo_lt (oo_rc h (w3_6 (r := 5) (by omega))) fun _ h => oo_lt (oo_rc h (w3_6 (r := 6) (by omega))) fun _ h => oo_lt (oo_2 (j := 4) h (by omega)) fun _ h => oo_lt (oo_2 (j := 5) h (by omega)) fun _ h => oo_lt (oo_2 (j := 6) h (by omega)) fun _ h => h
  · exact oo_lt (oo_rc h w7) fun _ h => oo_lt (oo_rc h (w8_10 (r := 8) (by omega))) fun _ h => oo_lt (oo_rc h (w8_10 (r := 9) (by omega))) fun _ h => oo_lt (oo_rc h (w8_10 (r := 10) (by omega))) fun _ h => oo_lt (oo_rc h w11) fun _ h => oo_lt (oo_1 (j := 6) h (by omega)) fun _ h => oo_lt (oo_1 (j := 7) h (by omega)) fun _ h => oo_lt (oo_1 (j := 8) h (by omega)) fun _ h => oo_lt (oo_1 (j := 9) h (by omega)) fun _ h => oo_lt (oo_1 (j := 10) h (by omega)) fun _ h => oo_lt (oo_1 (j := 11) h (by omega)) fun _ h => oo_lt (oo_1 (j := 12) h (by omega)) fun _ h => oo_lt (oo_1 (j := 13) h (by omega)) fun _ h => oo_lt (oo_1 (j := 14) h (by omega)) fun _ h => oo_lt (oo_1 (j := 15) h (by omega)) fun _ h => h
end UC
