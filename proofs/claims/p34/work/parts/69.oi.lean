/-! deals: the class counts tile by tile -/
section OI
variable {D : am_D} {N : Nat}
theorem q_uJ_at (D : am_D) (a j : Nat) (x : Int64) (b i : Nat) : (am_uJ D a j x).2.1 b i = if b = a ∧ i = j then x else D.2.1 b i := rfl
theorem q194 {a b : Nat} (ha : a < 8) (hb : b < 8) : m194 D (Int32.ofNat a) (Int32.ofNat b) = some (D.2.1 97 (a * 8 + b)) := by
  have h64 : a * 8 + b < 64 := by omega
  unfold m194
  rw [show (8 : Int32) = Int32.ofNat 8 from rfl, q_mul, q_add]
  simp only [am_lt]
  rw [if_neg (show ¬ Int32.ofNat a < 0 from q_nlt (a := 0) (b := a) (by omega) (by omega)), if_neg (show ¬ Int32.ofNat b < 0 from q_nlt (a := 0) (b := b) (by omega) (by omega)), if_neg (show ¬ Int32.ofNat 8 ≤ Int32.ofNat b from q_nle (a := b) (b := 8) (by omega) hb), if_neg (show ¬ (64 : Int32) ≤ Int32.ofNat (a * 8 + b) from q_nle (a := a * 8 + b) (b := 64) (by omega) h64), if_neg (show ¬ (1 : Int32) = 0 by decide), if_neg (show ¬ Int32.ofNat (a * 8 + b) < 0 from q_nlt (a := 0) (b := a * 8 + b) (by omega) (by omega)), if_pos (show 0 ≤ Int32.ofNat (a * 8 + b) ∧ Int32.ofNat (a * 8 + b) < 64 from q_in (n := 64) (by omega) h64), q_tn (by omega)]
theorem q194a {v w : Int32} (h : v < 0) : m194 D v w = some (Int64.ofNat 0) := by
  unfold m194
  simp only [am_lt]
  rw [if_pos h, if_pos rfl]
theorem q194b {a : Nat} (ha : a < 8) {w : Int32} (h : w < 0) : m194 D (Int32.ofNat a) w = some (Int64.ofNat 0) := by
  unfold m194
  simp only [am_lt]
  rw [if_neg (show ¬ Int32.ofNat a < 0 from q_nlt (a := 0) (b := a) (by omega) (by omega)), if_pos h, if_pos rfl]
theorem q195 {a b : Nat} (ha : a < 8) (hb : b < 8) (s : Int64) : m195 D (Int32.ofNat a) (Int32.ofNat b) s = am_uJ D 97 (a * 8 + b) s := by
  have h64 : a * 8 + b < 64 := by omega
  unfold m195
  rw [show (8 : Int32) = Int32.ofNat 8 from rfl, q_mul, q_add]
  simp only [am_lt]
  rw [if_neg (show ¬ Int32.ofNat a < 0 from q_nlt (a := 0) (b := a) (by omega) (by omega)), if_neg (show ¬ Int32.ofNat b < 0 from q_nlt (a := 0) (b := b) (by omega) (by omega)), if_neg (show ¬ Int32.ofNat 8 ≤ Int32.ofNat b from q_nle (a := b) (b := 8) (by omega) hb), if_neg (show ¬ Int32.ofNat (a * 8 + b) < 0 from q_nlt (a := 0) (b := a * 8 + b) (by omega) (by omega)), if_neg (show ¬ (64 : Int32) ≤ Int32.ofNat (a * 8 + b) from q_nle (a := a * 8 + b) (b := 64) (by omega) h64), q_tn (by omega)]
/-- a cell of the ways behind g tiles -/
def q_cl (F : Nat → Nat → Nat) (J : Nat → Int64) (n2 g a b : Nat) : Prop := (a + b ≤ g → g - a - b ≤ n2 → J (a * 8 + b) = Int64.ofNat (F a b)) ∧ (g < a + b → J (a * 8 + b) = Int64.ofNat 0)
/-- the rows from 'one' on, and of 'one' itself the places from 'two' on, are of one tile more -/
def q_mid (F G : Nat → Nat → Nat) (J : Nat → Int64) (n0 n1 n2 g one two : Nat) : Prop := ∀ a b, a ≤ n0 → b ≤ n1 → (if a < one ∨ (a = one ∧ b < two) then q_cl F J n2 g a b else q_cl G J n2 (g + 1) a b)
theorem q_k8 : ∀ k, k < 8 → ((Int32.ofNat k &&& 1 = 0) ↔ ¬ k % 2 = 1) ∧ ((Int32.ofNat k &&& 2 = 0) ↔ ¬ k / 2 % 2 = 1) ∧ ((Int32.ofNat k &&& 4 = 0) ↔ ¬ k / 4 % 2 = 1) := by decide +kernel
theorem q_neg1 : Int32.ofNat 0 - 1 < 0 := by decide
/-- the sum for a cell -/
theorem q193_c {F : Nat → Nat → Nat} {n0 n1 n2 g k a b : Nat} (hF : ∀ a b, g < a + b → F a b = 0) (hk : k < 8) (h0 : n0 < 8) (h1 : n1 < 8) (ha : a ≤ n0) (hb : b ≤ n1) (hg : a + b ≤ g + 1) (hc : g + 1 - a - b ≤ n2) (hm : q_mid F (q_St k F) (D.2.1 97) n0 n1 n2 g a (b + 1)) :
    ∃ s1 s2 s3, (if Int32.ofNat k &&& 1 = 0 then some (Int64.ofNat 0) else (m194 D (Int32.ofNat a - 1) (Int32.ofNat b)).bind fun q17 => some q17) = some s1 ∧ (if Int32.ofNat k &&& 2 = 0 then some (Int64.ofNat 0) else (m194 D (Int32.ofNat a) (Int32.ofNat b - 1)).bind fun q17 => some q17) = some s2 ∧ (if Int32.ofNat k &&& 4 = 0 then some (Int64.ofNat 0) else (m194 D (Int32.ofNat a) (Int32.ofNat b)).bind fun q17 => some q17) = some s3 ∧ Int64.ofNat 0 + s1 + s2 + s3 = Int64.ofNat (q_St k F a b) := by
  obtain ⟨k1, k2, k3⟩ := q_k8 k hk
  have r1 : (if Int32.ofNat k &&& 1 = 0 then some (Int64.ofNat 0) else (m194 D (Int32.ofNat a - 1) (Int32.ofNat b)).bind fun q17 => some q17) = some (Int64.ofNat (if k % 2 = 1 ∧ 0 < a then F (a - 1) b else 0)) := by
    by_cases c : k % 2 = 1
    · rw [if_neg (fun q => (k1.mp q) c)]
      by_cases d : 0 < a
      · have := hm (a - 1) b (by omega) hb
        rw [if_pos (by omega)] at this
        rw [if_pos ⟨c, d⟩, show Int32.ofNat a - 1 = Int32.ofNat (a - 1) from q_sub (a := a) (b := 1) (by omega), q194 (by omega) (by omega), this.1 (by omega) (by omega)]
        rfl
      · obtain rfl : a = 0 := by omega
        rw [if_neg (fun q => d q.2), q194a q_neg1]
        rfl
    · rw [if_pos (k1.mpr c), if_neg (fun q => c q.1)]
  have r2 : (if Int32.ofNat k &&& 2 = 0 then some (Int64.ofNat 0) else (m194 D (Int32.ofNat a) (Int32.ofNat b - 1)).bind fun q17 => some q17) = some (Int64.ofNat (if k / 2 % 2 = 1 ∧ 0 < b then F a (b - 1) else 0)) := by
    by_cases c : k / 2 % 2 = 1
    · rw [if_neg (fun q => (k2.mp q) c)]
      by_cases d : 0 < b
      · have := hm a (b - 1) ha (by omega)
        rw [if_pos (by omega)] at this
        rw [if_pos ⟨c, d⟩, show Int32.ofNat b - 1 = Int32.ofNat (b - 1) from q_sub (a := b) (b := 1) (by omega), q194 (by omega) (by omega), this.1 (by omega) (by omega)]
        rfl
      · obtain rfl : b = 0 := by omega
        rw [if_neg (fun q => d q.2), q194b (by omega) q_neg1]
        rfl
    · rw [if_pos (k2.mpr c), if_neg (fun q => c q.1)]
  have r3 : (if Int32.ofNat k &&& 4 = 0 then some (Int64.ofNat 0) else (m194 D (Int32.ofNat a) (Int32.ofNat b)).bind fun q17 => some q17) = some (Int64.ofNat (if k / 4 % 2 = 1 then F a b else 0)) := by
    by_cases c : k / 4 % 2 = 1
    · rw [if_neg (fun q => (k3.mp q) c), if_pos c, q194 (by omega) (by omega), Option.bind_some]
      have := hm a b ha hb
      rw [if_pos (by omega)] at this
      by_cases d : a + b ≤ g
      · rw [this.1 d (by omega)]
      · rw [this.2 (by omega), hF a b (by omega)]
    · rw [if_pos (k3.mpr c), if_neg c]
  refine ⟨_, _, _, r1, r2, r3, ?_⟩
  rw [q_jadd, q_jadd, q_jadd]
  unfold q_St
  rw [Nat.zero_add]
theorem q193_2 {F : Nat → Nat → Nat} {n0 n1 n2 g k a lo : Nat} {v2 : Int32} (hF : ∀ a b, g < a + b → F a b = 0) (hk : k < 8) (h0 : n0 < 8) (h1 : n1 < 8) (ha : a ≤ n0) (hlo : lo < 100) (hl : ∀ b, b ≤ n1 → a + b ≤ g + 1 → (lo ≤ b ↔ g + 1 - a - b ≤ n2)) : ∀ (j m : Nat) (E : am_D), (j = 0 ∨ (j - 1 ≤ n1 ∧ a + (j - 1) ≤ g + 1)) → j < m → (E.1 = D.1 ∧ E.2.2 = D.2.2 ∧ ∀ r, r ≠ 97 → E.2.1 r = D.2.1 r) → q_mid F (q_St k F) (E.2.1 97) n0 n1 n2 g a j → ∃ E', m193_L54 N (Int32.ofNat k) v2 (Int32.ofNat a) (Int32.ofNat lo) m E (Int32.ofNat j + -1) = some E' ∧ (E'.1 = D.1 ∧ E'.2.2 = D.2.2 ∧ ∀ r, r ≠ 97 → E'.2.1 r = D.2.1 r) ∧ q_mid F (q_St k F) (E'.2.1 97) n0 n1 n2 g a 0
  | 0, m + 1, E, hj, hm, hE, hmid => by
    rw [m193_L54, if_pos (show Int32.ofNat 0 + -1 < Int32.ofNat lo by
      rw [Int32.lt_iff_toInt_lt, q_ti (by omega)]
      have : (Int32.ofNat 0 + -1).toInt = -1 := by decide
      omega)]
    exact ⟨E, rfl, hE, hmid⟩
  | j + 1, m + 1, E, hj, hm, hE, hmid => by
    have hj1 : j ≤ n1 := by omega
    have hj2 : a + j ≤ g + 1 := by omega
    rw [m193_L54, q_dec]
    by_cases c : lo ≤ j
    · have hc := (hl j hj1 hj2).mp c
      obtain ⟨s1, s2, s3, e1, e2, e3, e4⟩ := q193_c (D := E) hF hk h0 h1 ha hj1 hj2 hc hmid
      rw [if_neg (q_nlt (by omega) c)]
      simp only [am_lt]
      rw [e1, Option.bind_some, e2, Option.bind_some, e3, Option.bind_some, e4, q195 (by omega) (by omega)]
      refine q193_2 hF hk h0 h1 ha hlo hl j m _ (by omega) (by omega) ⟨hE.1, hE.2.1, fun r hr => ?_⟩ (fun a' b' ha' hb' => ?_)
      · funext i
        rw [q_uJ_at, if_neg (fun q => hr q.1), hE.2.2 r hr]
      · have hold := hmid a' b' ha' hb'
        by_cases d : a' = a ∧ b' = j
        · obtain ⟨rfl, rfl⟩ := d
          rw [if_neg (by omega)]
          refine ⟨fun _ _ => ?_, fun q => by omega⟩
          rw [q_uJ_at, if_pos ⟨rfl, rfl⟩]
        · have hne : ∀ G g', q_cl G (E.2.1 97) n2 g' a' b' → q_cl G ((am_uJ E 97 (a * 8 + j) (Int64.ofNat (q_St k F a j))).2.1 97) n2 g' a' b' := fun G g' q => by
            have hx : (am_uJ E 97 (a * 8 + j) (Int64.ofNat (q_St k F a j))).2.1 97 (a' * 8 + b') = E.2.1 97 (a' * 8 + b') := by
              rw [q_uJ_at, if_neg (by omega)]
            refine ⟨fun h2 h3 => ?_, fun h2 => ?_⟩
            · rw [hx]; exact q.1 h2 h3
            · rw [hx]; exact q.2 h2
          by_cases cc : a' < a ∨ (a' = a ∧ b' < j)
          · rw [if_pos cc]
            rw [if_pos (by omega)] at hold
            exact hne _ _ hold
          · rw [if_neg cc]
            rw [if_neg (by omega)] at hold
            exact hne _ _ hold
    · rw [if_pos (q_ylt (by omega) (by omega))]
      refine ⟨E, rfl, hE, fun a' b' ha' hb' => ?_⟩
      have hold := hmid a' b' ha' hb'
      by_cases cc : a' < a ∨ (a' = a ∧ b' < 0)
      · rw [if_pos cc]
        rw [if_pos (by omega)] at hold
        exact hold
      · rw [if_neg cc]
        by_cases d : a' < a ∨ (a' = a ∧ b' < j + 1)
        · obtain rfl : a' = a := by omega
          refine ⟨fun h2 h3 => ?_, fun h2 => ?_⟩
          · have := (hl b' hb' h2).mpr h3
            omega
          · omega
        · rw [if_neg d] at hold
          exact hold
  | _, 0, _, _, hm, _, _ => by omega
theorem q193_1 (hN : 2000 ≤ N) {F : Nat → Nat → Nat} {n0 n1 n2 g k : Nat} (hF : ∀ a b, g < a + b → F a b = 0) (hk : k < 8) (h0 : n0 < 8) (h1 : n1 < 8) (h2 : n2 < 8) (hg : g < 50) (r1 : D.1 94 1 = Int32.ofNat n1) (r2 : D.1 94 2 = Int32.ofNat n2) : ∀ (j m : Nat) (E : am_D), j ≤ n0 + 1 → j ≤ g + 2 → j < m → (E.1 = D.1 ∧ E.2.2 = D.2.2 ∧ ∀ r, r ≠ 97 → E.2.1 r = D.2.1 r) → q_mid F (q_St k F) (E.2.1 97) n0 n1 n2 g j 0 → ∃ E', m193_L13 N (Int32.ofNat k) (Int32.ofNat (g + 1)) m E (Int32.ofNat j + -1) = some E' ∧ (E'.1 = D.1 ∧ E'.2.2 = D.2.2 ∧ ∀ r, r ≠ 97 → E'.2.1 r = D.2.1 r) ∧ q_mid F (q_St k F) (E'.2.1 97) n0 n1 n2 g 0 0
  | 0, m + 1, E, hj, hj2, hm, hE, hmid => by
    rw [m193_L13, if_pos (show Int32.ofNat 0 + -1 < 0 by decide)]
    exact ⟨E, rfl, hE, hmid⟩
  | j + 1, m + 1, E, hj, hj2, hm, hE, hmid => by
    rw [m193_L13, q_dec, if_neg (show ¬ Int32.ofNat j < 0 from q_nlt (a := 0) (b := j) (by omega) (by omega))]
    simp only [am_lt]
    have q1 : am_rat (E.1 94) 3 (1 : Int32) = Int32.ofNat n1 := by rw [hE.1]; exact (q_rt (D.1 94) (m := 3) (by omega) (x := 1) (by omega)).trans r1
    have q2 : am_rat (E.1 94) 3 (2 : Int32) = Int32.ofNat n2 := by rw [hE.1]; exact (q_rt (D.1 94) (m := 3) (by omega) (x := 2) (by omega)).trans r2
    rw [q1, q2, q_sub (show j ≤ g + 1 by omega)]
    -- the bounds of the inner loop
    have e6 : (if (0 : Int32) < Int32.ofNat (g + 1 - j) - Int32.ofNat n2 then Int32.ofNat (g + 1 - j) - Int32.ofNat n2 else 0) = Int32.ofNat (g + 1 - j - n2) := by
      by_cases c : n2 ≤ g + 1 - j
      · rw [q_sub c]
        by_cases d : 0 < g + 1 - j - n2
        · rw [if_pos (show (0 : Int32) < Int32.ofNat (g + 1 - j - n2) from q_ylt (a := 0) (b := g + 1 - j - n2) (by omega) d)]
        · rw [if_neg (show ¬ (0 : Int32) < Int32.ofNat (g + 1 - j - n2) from q_nlt (a := g + 1 - j - n2) (b := 0) (by omega) (by omega)), show g + 1 - j - n2 = 0 by omega]; rfl
      · rw [if_neg (show ¬ (0 : Int32) < Int32.ofNat (g + 1 - j) - Int32.ofNat n2 from fun q => Int32.lt_irrefl (Int32.lt_trans q (q_dlt (a := g + 1 - j) (b := n2) (by omega) (by omega)))), show g + 1 - j - n2 = 0 by omega]; rfl
    have e8 : (if Int32.ofNat (g + 1 - j) < Int32.ofNat n1 then Int32.ofNat (g + 1 - j) else Int32.ofNat n1) = Int32.ofNat ((if g + 1 - j < n1 then g + 1 - j else n1) + 1) + -1 := by
      rw [q_dec]
      by_cases c : g + 1 - j < n1
      · rw [if_pos (q_ylt (by omega) c), if_pos c]
      · rw [if_neg (q_nlt (by omega) (by omega)), if_neg c]
    rw [e6, e8]
    obtain ⟨E1, f1, f2, f3⟩ := q193_2 (D := D) (N := N) (v2 := Int32.ofNat (g + 1)) (n2 := n2) (lo := g + 1 - j - n2) (a := j) hF hk h0 h1 (by omega) (by omega) (fun b hb hab => ⟨fun q => by omega, fun q => by omega⟩) ((if g + 1 - j < n1 then g + 1 - j else n1) + 1) N E (by right; split <;> omega) (by split <;> omega) hE (fun a' b' ha' hb' => by
      have hold := hmid a' b' ha' hb'
      by_cases cc : a' < j ∨ (a' = j ∧ b' < (if g + 1 - j < n1 then g + 1 - j else n1) + 1)
      · rw [if_pos cc]
        rw [if_pos (by omega)] at hold
        exact hold
      · rw [if_neg cc]
        by_cases d : a' < j + 1 ∨ (a' = j + 1 ∧ b' < 0)
        · rw [if_pos d] at hold
          have hb2 : g + 1 < a' + b' := by
            by_cases c3 : g + 1 - j < n1
            · rw [if_pos c3] at cc; omega
            · rw [if_neg c3] at cc; omega
          exact ⟨fun q => by omega, fun _ => hold.2 (by omega)⟩
        · rw [if_neg d] at hold
          exact hold)
    rw [f1, Option.bind_some]
    exact q193_1 hN hF hk h0 h1 h2 hg r1 r2 j m E1 (by omega) (by omega) (by omega) f2 f3
  | _, 0, _, _, _, hm, _, _ => by omega
/-- one tile more -/
theorem q193 (hN : 2000 ≤ N) {F : Nat → Nat → Nat} {n0 n1 n2 g k : Nat} (hF : ∀ a b, g < a + b → F a b = 0) (hk : k < 8) (h0 : n0 < 8) (h1 : n1 < 8) (h2 : n2 < 8) (hg : g < 50) (r0 : D.1 94 0 = Int32.ofNat n0) (r1 : D.1 94 1 = Int32.ofNat n1) (r2 : D.1 94 2 = Int32.ofNat n2) (h : ∀ a b, a ≤ n0 → b ≤ n1 → q_cl F (D.2.1 97) n2 g a b) : ∃ E, m193 N D (Int32.ofNat k) (Int32.ofNat (g + 1)) = some E ∧ (E.1 = D.1 ∧ E.2.2 = D.2.2 ∧ ∀ r, r ≠ 97 → E.2.1 r = D.2.1 r) ∧ ∀ a b, a ≤ n0 → b ≤ n1 → q_cl (q_St k F) (E.2.1 97) n2 (g + 1) a b := by
  have q0 : am_rat (D.1 94) 3 (0 : Int32) = Int32.ofNat n0 := (q_rt (D.1 94) (m := 3) (by omega) (x := 0) (by omega)).trans r0
  have e1 : (if Int32.ofNat (g + 1) < Int32.ofNat n0 then Int32.ofNat (g + 1) else Int32.ofNat n0) = Int32.ofNat ((if g + 1 < n0 then g + 1 else n0) + 1) + -1 := by
    rw [q_dec]
    by_cases c : g + 1 < n0
    · rw [if_pos (q_ylt (by omega) c), if_pos c]
    · rw [if_neg (q_nlt (by omega) (by omega)), if_neg c]
  obtain ⟨E, f1, f2, f3⟩ := q193_1 (D := D) hN hF hk h0 h1 h2 hg r1 r2 ((if g + 1 < n0 then g + 1 else n0) + 1) N D (by split <;> omega) (by split <;> omega) (by split <;> omega) ⟨rfl, rfl, fun _ _ => rfl⟩ (fun a' b' ha' hb' => by
    have hold := h a' b' ha' hb'
    by_cases cc : a' < (if g + 1 < n0 then g + 1 else n0) + 1 ∨ (a' = (if g + 1 < n0 then g + 1 else n0) + 1 ∧ b' < 0)
    · rw [if_pos cc]; exact hold
    · rw [if_neg cc]
      have : g + 1 < a' := by
        by_cases c3 : g + 1 < n0
        · rw [if_pos c3] at cc; omega
        · rw [if_neg c3] at cc; omega
      exact ⟨fun q => by omega, fun _ => hold.2 (by omega)⟩)
  refine ⟨E, ?_, f2, fun a b ha hb => ?_⟩
  · unfold m193
    rw [q0, e1]
    simp only [am_lt]
    rw [f1, Option.bind_some]
  · have := f3 a b ha hb
    rw [if_neg (by omega)] at this
    exact this
end OI
