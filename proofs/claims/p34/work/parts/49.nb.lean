/-! the longest chain of a hand: the class -/
section NB
variable {D : am_D} {H : Nat → Nat}
/-- the tiles at a place, in order -/
def q_hl (f : Nat → Int32) (v : Int32) : Nat → Nat → List Nat
  | _, 0 => []
  | i, k + 1 => if f i = v then i :: q_hl f v (i + 1) k else q_hl f v (i + 1) k
theorem q_hl_len {f : Nat → Int32} {v : Int32} : ∀ (k i : Nat), (q_hl f v i k).length = q_S (fun t => if f t = v then 1 else 0) i k
  | 0, i => rfl
  | k + 1, i => by
    show (if f i = v then i :: q_hl f v (i + 1) k else q_hl f v (i + 1) k).length = (if f i = v then 1 else 0) + q_S (fun t => if f t = v then 1 else 0) (i + 1) k
    by_cases c : f i = v
    · rw [if_pos c, if_pos c, List.length_cons, q_hl_len k (i + 1)]; omega
    · rw [if_neg c, if_neg c, q_hl_len k (i + 1)]; omega
theorem q_hl_lt {f : Nat → Int32} {v : Int32} : ∀ (k i j : Nat), j < (q_hl f v i k).length → (q_hl f v i k).getD j 0 < i + k
  | 0, i, j, h => absurd h (Nat.not_lt_zero _)
  | k + 1, i, j, h => by
    by_cases c : f i = v
    · have e : q_hl f v i (k + 1) = i :: q_hl f v (i + 1) k := if_pos c
      rw [e] at h ⊢
      cases j with
      | zero => show i < _; omega
      | succ j =>
        have := q_hl_lt (f := f) (v := v) k (i + 1) j (by rw [List.length_cons] at h; omega)
        show (q_hl f v (i + 1) k).getD j 0 < _
        omega
    · have e : q_hl f v i (k + 1) = q_hl f v (i + 1) k := if_neg c
      rw [e] at h ⊢
      have := q_hl_lt k (i + 1) j h
      omega
theorem q_hl_congr {f g : Nat → Int32} {v : Int32} : ∀ (k i : Nat), (∀ t, i ≤ t → t < i + k → f t = g t) → q_hl f v i k = q_hl g v i k
  | 0, i, _ => rfl
  | k + 1, i, h => by
    show (if f i = v then i :: q_hl f v (i + 1) k else q_hl f v (i + 1) k) = (if g i = v then i :: q_hl g v (i + 1) k else q_hl g v (i + 1) k)
    rw [h i (by omega) (by omega), q_hl_congr k (i + 1) (fun t h1 h2 => h t (by omega) (by omega))]
theorem q258_5 {N : Nat} {v : Int32} {f : Nat → Int32} : ∀ (r i a m : Nat) (D : am_D), i + r = 28 → r < m → (∀ t, t < 28 → D.1 7 t = f t) → a + (q_hl f v i r).length ≤ 7 →
    ∃ D', m258_L5 N v m D (Int32.ofNat a) (Int32.ofNat i) = some (Int32.ofNat (a + (q_hl f v i r).length), D') ∧ (∀ j, j < (q_hl f v i r).length → D'.1 105 (a + j) = Int32.ofNat ((q_hl f v i r).getD j 0)) ∧ (∀ j, j < a → D'.1 105 j = D.1 105 j) ∧ (∀ b, b ≠ 105 → D'.1 b = D.1 b) ∧ D'.2 = D.2
  | 0, i, a, m + 1, D, hi, hm, hf, h7 => by
    obtain rfl : i = 28 := by omega
    refine ⟨D, ?_, fun j hj => absurd hj (Nat.not_lt_zero _), fun _ _ => rfl, fun _ _ => rfl, rfl⟩
    rw [m258_L5, if_pos (by decide)]
    rfl
  | r + 1, i, a, m + 1, D, hi, hm, hf, h7 => by
    have hi28 : i < 28 := by omega
    rw [m258_L5, if_neg (show ¬ (28 : Int32) ≤ Int32.ofNat i from q_nle (b := 28) (by omega) hi28)]
    by_cases c7 : a = 7
    · have hl : (q_hl f v i (r + 1)).length = 0 := by omega
      rw [if_pos (show (7 : Int32) ≤ Int32.ofNat a from q_yle (a := 7) (by omega) (by omega))]
      refine ⟨D, by rw [hl]; rfl, fun j hj => by omega, fun _ _ => rfl, fun _ _ => rfl, rfl⟩
    · rw [if_neg (show ¬ (7 : Int32) ≤ Int32.ofNat a from q_nle (b := 7) (by omega) (by omega))]
      simp only [am_lt]
      rw [q203 D hi28, hf i hi28, show Int32.ofNat i + 1 = Int32.ofNat (i + 1) from q_add i 1]
      by_cases c : f i = v
      · have e : q_hl f v i (r + 1) = i :: q_hl f v (i + 1) r := if_pos c
        rw [e, List.length_cons] at h7
        rw [if_pos c, q_rp_at _ _ _ _ (by omega) (by omega), show Int32.ofNat a + 1 = Int32.ofNat (a + 1) from q_add a 1]
        obtain ⟨D', g1, g3, g4, g5, g6⟩ := q258_5 (N := N) (v := v) (f := f) r (i + 1) (a + 1) m (am_uI D 105 a (Int32.ofNat i)) (by omega) (by omega) (fun t ht => by rw [q_uI_ne _ (by omega)]; exact hf t ht) (by omega)
        refine ⟨D', ?_, fun j hj => ?_, fun j hj => ?_, fun b h1 => ?_, g6⟩
        · rw [g1, e, List.length_cons, show a + 1 + (q_hl f v (i + 1) r).length = a + ((q_hl f v (i + 1) r).length + 1) by omega]
        · rw [e]
          cases j with
          | zero =>
            rw [Nat.add_zero, g4 a (by omega), q_uIs]; rfl
          | succ j =>
            have := g3 j (by rw [e, List.length_cons] at hj; omega)
            rw [show a + (j + 1) = a + 1 + j by omega, this]; rfl
        · rw [g4 j (by omega), q_uI_at, if_neg (by omega)]
        · rw [g5 b h1, q_uI_ne _ h1]
      · have e : q_hl f v i (r + 1) = q_hl f v (i + 1) r := if_neg c
        rw [if_neg c]
        obtain ⟨D', g1, g3, g4, g5, g6⟩ := q258_5 (N := N) (v := v) (f := f) r (i + 1) a m D (by omega) (by omega) hf (by rw [e] at h7; exact h7)
        exact ⟨D', by rw [e]; exact g1, by rw [e]; exact g3, g4, g5, g6⟩
  | _, _, _, 0, _, _, hm, _, _ => by omega
/-- the longest from a value, with the places S -/
def q_best (H : Nat → Nat) (v S l : Nat) : Prop := (∃ L z, q_run H (v, S) L = some z ∧ L.length = l) ∧ ∀ L z, q_run H (v, S) L = some z → L.length ≤ l
def q_besti (H : Nat → Nat) (v S i a : Nat) : Prop := (∃ L z, q_run H (v, S) L = some z ∧ L.length = a) ∧ ∀ j L z, j < i → q_run H (v, S) (j :: L) = some z → L.length + 1 ≤ a
theorem q_run_le {v S : Nat} {L : List Nat} {z : Nat × Nat} (hS : S < 128) (h : q_run H (v, S) L = some z) : L.length ≤ q_bc S := by
  have := (q_run_len (u := z.1) (B := z.2) L hS h).2.1
  omega
theorem q259_L {N : Nat} {rec : Int32 → Int32 → Int32 → Option Int32} {k v S d : Nat} (hk : k ≤ 7) (hv : v < 7) (hS : S < 128) (hSk : ∀ j, j < 7 → S.testBit j = true → j < k) (hd : q_bc S = d) (hdk : d ≤ k) (hH : ∀ j, j < k → D.1 105 j = Int32.ofNat (H j) ∧ H j < 28)
    (hrec : ∀ i, i < 7 → S.testBit i = true → (v = q_lo (H i) ∨ v = q_hi (H i)) → ∃ l, rec (Int32.ofNat (q_pip (H i) - v)) (Int32.ofNat (S - 2 ^ i)) (Int32.ofNat (d - 1)) = some (Int32.ofNat l) ∧ q_best H (q_pip (H i) - v) (S - 2 ^ i) l) :
    ∀ (r i a m : Nat), i + r = 7 → r < m → q_besti H v S i a → ∃ l, m259b_L6 rec N D (Int32.ofNat v) (Int32.ofNat S) (Int32.ofNat d) m (Int32.ofNat a) (Int32.ofNat i) = some (Int32.ofNat l) ∧ q_best H v S l
  | r, i, a, m + 1, hi, hm, hb => by
    obtain ⟨⟨L0, z0, l0, l1⟩, hb2⟩ := hb
    have ha : a ≤ d := by rw [← l1, ← hd]; exact q_run_le hS l0
    have hstop : d ≤ a → q_best H v S a := fun q => ⟨⟨L0, z0, l0, l1⟩, fun L z h => by
      have := q_run_le hS h
      omega⟩
    rw [m259b_L6]
    by_cases c0 : i = 7
    · rw [if_pos (show (7 : Int32) ≤ Int32.ofNat i from q_yle (a := 7) (by omega) (by omega))]
      refine ⟨a, rfl, ⟨L0, z0, l0, l1⟩, fun L z h => ?_⟩
      cases L with
      | nil => exact Nat.zero_le _
      | cons j L =>
        obtain ⟨y, g1, g2⟩ := q_run_cons.mp h
        obtain ⟨f1, f2, -⟩ := q_step_some.mp g1
        exact hb2 j L z (by omega) h
    · rw [if_neg (show ¬ (7 : Int32) ≤ Int32.ofNat i from q_nle (b := 7) (by omega) (by omega))]
      by_cases c2 : d ≤ a
      · rw [if_pos (show Int32.ofNat d ≤ Int32.ofNat a from q_yle (by omega) c2)]
        exact ⟨a, rfl, hstop (by omega)⟩
      · rw [if_neg (show ¬ Int32.ofNat d ≤ Int32.ofNat a from q_nle (by omega) (by omega))]
        have hi7 : i < 7 := by omega
        obtain ⟨b1, b2⟩ := q_bb2 S hS i hi7
        obtain ⟨r', rfl⟩ : ∃ r', r = r' + 1 := ⟨r - 1, by omega⟩
        simp only [am_lt]
        rw [q_rt _ (by omega) hi7, b1, show Int32.ofNat i + 1 = Int32.ofNat (i + 1) from q_add i 1]
        have go : ∀ a', q_besti H v S (i + 1) a' → ∃ l, m259b_L6 rec N D (Int32.ofNat v) (Int32.ofNat S) (Int32.ofNat d) m (Int32.ofNat a') (Int32.ofNat (i + 1)) = some (Int32.ofNat l) ∧ q_best H v S l := fun a' h => q259_L hk hv hS hSk hd hdk hH hrec r' (i + 1) a' m (by omega) (by omega) h
        have same : (∀ y, q_step H (v, S) i ≠ some y) → q_besti H v S (i + 1) a := fun q => ⟨⟨L0, z0, l0, l1⟩, fun j L z hj h => by
          by_cases cj : j = i
          · subst cj
            obtain ⟨y, g1, g2⟩ := q_run_cons.mp h
            exact absurd g1 (q y)
          · exact hb2 j L z (by omega) h⟩
        by_cases c3 : S.testBit i = true
        · obtain ⟨e1, e2⟩ := hH i (hSk i hi7 c3)
          rw [if_pos c3, if_neg (show ¬ Int32.ofNat 1 = 0 by decide), e1, q253 e2]
          have l7 := q_lo7 _ e2
          have u7 := q_hi7 _ e2
          by_cases c4 : v = q_lo (H i) ∨ v = q_hi (H i)
          · have hsh : q_sh (H i) (Int32.ofNat v) := by
              unfold q_sh
              rcases c4 with c4 | c4
              · exact Or.inl (by rw [c4])
              · exact Or.inr (by rw [c4])
            obtain ⟨l, k1, k2, k3⟩ := hrec i hi7 c3 c4
            obtain ⟨⟨L1, z1, l2, l3⟩, -⟩ := id (⟨k2, k3⟩ : q_best H (q_pip (H i) - v) (S - 2 ^ i) l)
            have hl : l < d := by
              have := q_run_le (Nat.lt_of_le_of_lt (Nat.sub_le _ _) hS) l2
              have := (q_bb1 S hS i hi7 c3).2.1
              omega
            rw [if_pos hsh, if_neg (show ¬ (1 : Int32) = 0 by decide), q251 e2, q_vfr c4, b2 c3, show Int32.ofNat d - 1 = Int32.ofNat (d - 1) from q_sub (b := 1) (by omega), k1, Option.bind_some, q_l1, q_add, Option.bind_some]
            have hst : q_step H (v, S) i = some (q_pip (H i) - v, S - 2 ^ i) := q_step_some.mpr ⟨hi7, c3, c4, rfl⟩
            by_cases c5 : a < 1 + l
            · rw [if_pos (q_ylt (by omega) c5)]
              refine go _ ⟨⟨i :: L1, z1, q_run_cons.mpr ⟨_, hst, l2⟩, by rw [List.length_cons]; omega⟩, fun j L z hj h => ?_⟩
              by_cases cj : j = i
              · subst cj
                obtain ⟨y, g1, g2⟩ := q_run_cons.mp h
                rw [hst] at g1
                obtain rfl := Option.some.inj g1
                have := k3 L z g2
                omega
              · have := hb2 j L z (by omega) h
                omega
            · rw [if_neg (q_nlt (by omega) (by omega))]
              refine go _ ⟨⟨L0, z0, l0, l1⟩, fun j L z hj h => ?_⟩
              by_cases cj : j = i
              · subst cj
                obtain ⟨y, g1, g2⟩ := q_run_cons.mp h
                rw [hst] at g1
                obtain rfl := Option.some.inj g1
                have := k3 L z g2
                omega
              · exact hb2 j L z (by omega) h
          · have hsh : ¬ q_sh (H i) (Int32.ofNat v) := by
              unfold q_sh
              rw [q_eq (by omega) (by omega), q_eq (by omega) (by omega)]
              exact fun q => c4 (q.imp Eq.symm Eq.symm)
            rw [if_neg hsh, if_pos rfl, Option.bind_some]
            exact go _ (same (fun y q => c4 (q_step_some.mp q).2.2.1))
        · rw [if_neg c3, if_pos (show Int32.ofNat 0 = 0 from rfl), Option.bind_some]
          exact go _ (same (fun y q => c3 (q_step_some.mp q).2.1))
  | _, _, _, 0, _, hm, _ => by omega
theorem q259 {N : Nat} (hN : 2000 ≤ N) {k : Nat} (hk : k ≤ 7) (hH : ∀ j, j < k → D.1 105 j = Int32.ofNat (H j) ∧ H j < 28) : ∀ (d fuel v S : Nat), q_bc S = d → d < fuel → v < 7 → S < 128 → (∀ j, j < 7 → S.testBit j = true → j < k) → d ≤ k → ∃ l, m259r N D fuel (Int32.ofNat v) (Int32.ofNat S) (Int32.ofNat d) = some (Int32.ofNat l) ∧ q_best H v S l
  | d, fuel + 1, v, S, hd, hf, hv, hS, hSk, hdk => by
    obtain ⟨l, e1, e2⟩ := q259_L (N := N) (rec := m259r N D fuel) (H := H) hk hv hS hSk hd hdk hH (fun i hi c3 c4 => by
      obtain ⟨b1, b2, b3⟩ := q_bb1 S hS i hi c3
      obtain ⟨d', rfl⟩ : ∃ d', d = d' + 1 := ⟨d - 1, by omega⟩
      have e28 := (hH i (hSk i hi c3)).2
      have := q259 hN hk hH d' fuel (q_pip (H i) - v) (S - 2 ^ i) (by omega) (by omega) (q_v7 e28 c4).2 (Nat.lt_of_le_of_lt (Nat.sub_le _ _) hS) (fun j hj q => by
        rw [b3 j hj, Bool.and_eq_true] at q
        exact hSk j hj q.1) (by omega)
      rw [show d' + 1 - 1 = d' by omega]
      exact this) 7 0 0 N (by omega) (by omega) ⟨⟨[], _, rfl, rfl⟩, fun j L z hj _ => by omega⟩
    refine ⟨l, ?_, e2⟩
    show (m259b_L6 _ N D _ _ _ N (Int32.ofNat 0) (Int32.ofNat 0)).bind _ = _
    rw [e1]; rfl
  | _, 0, _, _, _, hf, _, _, _, _ => by omega
/-- the longest of all -/
def q_top (H : Nat → Nat) (k l : Nat) : Prop := (∃ v L z, v < 7 ∧ q_run H (v, 2 ^ k - 1) L = some z ∧ L.length = l) ∧ ∀ v L z, v < 7 → q_run H (v, 2 ^ k - 1) L = some z → L.length ≤ l
theorem q258_53 {N : Nat} (hN : 2000 ≤ N) {k : Nat} (hk : k ≤ 7) (hH : ∀ j, j < k → D.1 105 j = Int32.ofNat (H j) ∧ H j < 28) : ∀ (r i a m : Nat), i + r = 7 → r < m → (∃ v L z, v < 7 ∧ q_run H (v, 2 ^ k - 1) L = some z ∧ L.length = a) → (∀ v L z, v < i → q_run H (v, 2 ^ k - 1) L = some z → L.length ≤ a) → ∃ l, m258_L53 N D (Int32.ofNat k) m (Int32.ofNat a) (Int32.ofNat i) = some (Int32.ofNat l) ∧ q_top H k l
  | r, i, a, m + 1, hi, hm, hx, hb => by
    obtain ⟨p1, p2, p3, p4⟩ := q_bb6 k (by omega)
    have hak : a ≤ k := by
      obtain ⟨v, L, z, g1, g2, g3⟩ := hx
      have := q_run_le p1 g2
      omega
    rw [m258_L53]
    by_cases c0 : i = 7
    · rw [if_pos (show (7 : Int32) ≤ Int32.ofNat i from q_yle (a := 7) (by omega) (by omega))]
      exact ⟨a, rfl, hx, fun v L z hv h => hb v L z (by omega) h⟩
    · rw [if_neg (show ¬ (7 : Int32) ≤ Int32.ofNat i from q_nle (b := 7) (by omega) (by omega))]
      by_cases c1 : k ≤ a
      · rw [if_pos (q_yle (by omega) c1)]
        exact ⟨a, rfl, hx, fun v L z hv h => by
          have := q_run_le p1 h
          omega⟩
      · rw [if_neg (q_nle (by omega) (by omega)), p4, show Int32.ofNat (2 ^ k) - 1 = Int32.ofNat (2 ^ k - 1) from q_sub (b := 1) Nat.one_le_two_pow]
        obtain ⟨r', rfl⟩ : ∃ r', r = r' + 1 := ⟨r - 1, by omega⟩
        obtain ⟨l, e1, e2, e3⟩ := q259 hN hk hH k 10 i (2 ^ k - 1) p2 (by omega) (by omega) p1 (fun j hj q => by
          rw [p3 j hj] at q
          simpa using q) (by omega)
        have e1' : m259 N D (Int32.ofNat i) (Int32.ofNat (2 ^ k - 1)) (Int32.ofNat k) = some (Int32.ofNat l) := e1
        have hlk : l ≤ k := by
          obtain ⟨L, z, g2, g3⟩ := e2
          have := q_run_le p1 g2
          omega
        rw [e1', Option.bind_some]
        simp only [am_lt]
        rw [show Int32.ofNat i + 1 = Int32.ofNat (i + 1) from q_add i 1]
        by_cases c2 : a < l
        · rw [if_pos (q_ylt (by omega) c2)]
          refine q258_53 hN hk hH r' (i + 1) l m (by omega) (by omega) ?_ (fun v L z hv h => ?_)
          · obtain ⟨L, z, g2, g3⟩ := e2
            exact ⟨i, L, z, by omega, g2, g3⟩
          · by_cases cv : v = i
            · subst cv; exact e3 L z h
            · have := hb v L z (by omega) h
              omega
        · rw [if_neg (q_nlt (by omega) (by omega))]
          refine q258_53 hN hk hH r' (i + 1) a m (by omega) (by omega) hx (fun v L z hv h => ?_)
          by_cases cv : v = i
          · subst cv
            have := e3 L z h
            omega
          · exact hb v L z (by omega) h
  | _, _, _, 0, _, hm, _, _ => by omega
/-- the class's answer -/
theorem q258 {N : Nat} (hN : 2000 ≤ N) {f : Nat → Int32} {v : Int32} (hf : ∀ t, t < 28 → D.1 7 t = f t) (h7 : q_cnt f v ≤ 7) : ∃ l D', m258 N D v = some (Int32.ofNat l, D') ∧ q_top (fun j => (q_hl f v 0 28).getD j 0) (q_cnt f v) l ∧ (∀ b, b ≠ 104 → b ≠ 105 → D'.1 b = D.1 b) ∧ D'.2 = D.2 := by
  have hlen : (q_hl f v 0 28).length = q_cnt f v := by rw [q_cnt_def]; exact q_hl_len 28 0
  obtain ⟨D', g1, g3, g4, g5, g6⟩ := q258_5 (N := N) (v := v) (f := f) 28 0 0 N D (by omega) (by omega) hf (by omega)
  rw [Nat.zero_add, hlen] at g1
  obtain ⟨l, e1, e2⟩ := q258_53 (N := N) (D := D') (H := fun j => (q_hl f v 0 28).getD j 0) hN h7 (fun j hj => by
    have := g3 j (by omega)
    rw [Nat.zero_add] at this
    refine ⟨this, ?_⟩
    have := q_hl_lt (f := f) (v := v) 28 0 j (by omega)
    omega) 7 0 0 N (by omega) (by omega) ⟨0, [], _, by omega, rfl, rfl⟩ (fun v L z hv _ => by omega)
  refine ⟨l, D', ?_, e2, fun b h1 h2 => g5 b h2, g6⟩
  unfold m258
  have g1' : m258_L5 N v N D 0 0 = some (Int32.ofNat (q_cnt f v), D') := g1
  have e1' : m258_L53 N D' (Int32.ofNat (q_cnt f v)) N 0 0 = some (Int32.ofNat l) := e1
  rw [g1', Option.bind_some, e1']
  rfl
end NB
