/-! open: the call -/
section QK
variable {D : am_D} {N n p K : Nat} {T V : Nat → Nat}
def q_ih (f : Nat → Int32) (t : Nat) : Nat := if (f t).toNatClampNeg < 4 then 1 else 0
theorem q_ih_S {f : Nat → Int32} (hf : ∀ t, t < 28 → ∃ w, w < 6 ∧ f t = Int32.ofNat w) : q_S (q_ih f) 0 28 = q_all (q_cnt f) := by
  rw [q_all_eq, q_cnt_def, q_cnt_def, q_cnt_def, q_cnt_def, Nat.add_zero, ← q_S_add, ← q_S_add, ← q_S_add]
  refine q_S_congr 28 0 (fun t _ ht => ?_)
  obtain ⟨w, hw, e⟩ := hf t (by omega)
  unfold q_ih
  rw [e, q_tn (by omega)]
  simp (disch := omega) only [q_eq]
  obtain rfl | rfl | rfl | rfl | rfl | rfl : w = 0 ∨ w = 1 ∨ w = 2 ∨ w = 3 ∨ w = 4 ∨ w = 5 := by omega
  all_goals rfl
/-- what the class has found of the tiles below t -/
def q_lo3 (f : Nat → Int32) (E : am_D) (t sz : Nat) (ts os : Nat → Nat) : Prop := sz ≤ 9 ∧ E.1 99 4 = Int32.ofNat sz ∧ (∀ i, i < sz → E.1 100 i = Int32.ofNat (ts i) ∧ E.1 101 i = Int32.ofNat (os i) ∧ ts i < t ∧ os i < 4 ∧ f (ts i) = Int32.ofNat (os i)) ∧ (∀ i j, i < j → j < sz → ts i < ts j) ∧ (∀ s, s < t → q_ih f s = 1 → ∃ i, i < sz ∧ ts i = s) ∧ q_S (q_ih f) 0 t = sz
theorem q172_7 {f : Nat → Int32} (hf : ∀ t, t < 28 → ∃ w, w < 6 ∧ f t = Int32.ofNat w) (h9 : q_all (q_cnt f) ≤ 9) : ∀ (k t m : Nat) (E : am_D) (sz : Nat) (ts os : Nat → Nat), t + k = 28 → k < m → (∀ s, s < 28 → E.1 7 s = f s) → q_lo3 f E t sz ts os → ∃ E' sz' ts' os', m172_L7 N m E (Int32.ofNat t) = some E' ∧ q_lo3 f E' 28 sz' ts' os' ∧ (∀ a, a ≠ 99 → a ≠ 100 → a ≠ 101 → E'.1 a = E.1 a) ∧ (∀ j, j ≠ 4 → E'.1 99 j = E.1 99 j) ∧ E'.2 = E.2
  | 0, t, m + 1, E, sz, ts, os, ht, hm, h7, h => by
    obtain rfl : t = 28 := by omega
    rw [m172_L7, if_pos (show (28 : Int32) ≤ Int32.ofNat 28 by decide)]
    exact ⟨E, sz, ts, os, rfl, h, fun _ _ _ _ => rfl, fun _ _ => rfl, rfl⟩
  | k + 1, t, m + 1, E, sz, ts, os, ht, hm, h7, h => by
    have ht28 : t < 28 := by omega
    obtain ⟨h1, h2, h3, h4, h5, h6⟩ := h
    obtain ⟨w, hw, ew⟩ := hf t ht28
    have hih : q_ih f t = if w < 4 then 1 else 0 := by unfold q_ih; rw [ew, q_tn (by omega)]
    have htot := q_ih_S hf
    have hsp := q_S_split (q_ih f) t (28 - t) 0
    rw [show t + (28 - t) = 28 by omega, htot, h6, Nat.zero_add] at hsp
    have hsp1 : q_S (q_ih f) t (28 - t) = q_ih f t + q_S (q_ih f) (t + 1) (27 - t) := by
      rw [show 28 - t = (27 - t) + 1 by omega]; rfl
    rw [m172_L7, if_neg (show ¬ (28 : Int32) ≤ Int32.ofNat t from q_nle (a := t) (b := 28) (by omega) ht28), h2]
    by_cases c9 : sz = 9
    · rw [if_pos (show (9 : Int32) ≤ Int32.ofNat sz by rw [c9]; decide)]
      refine ⟨E, sz, ts, os, rfl, ⟨h1, h2, fun i hi => ?_, h4, fun s hs hq => ?_, by rw [htot]; omega⟩, fun _ _ _ _ => rfl, fun _ _ => rfl, rfl⟩
      · obtain ⟨g1, g2, g3, g4, g5⟩ := h3 i hi
        exact ⟨g1, g2, by omega, g4, g5⟩
      · by_cases q : s < t
        · exact h5 s q hq
        · have hz : q_S (q_ih f) t (28 - t) = 0 := by omega
          have := (q_S_zero _ _).mp hz s (by omega) (by omega)
          omega
    · rw [if_neg (show ¬ (9 : Int32) ≤ Int32.ofNat sz from q_nle (a := sz) (b := 9) (by omega) (by omega))]
      simp only [am_lt]
      rw [q203 E ht28, h7 t ht28, ew, show Int32.ofNat t + 1 = Int32.ofNat (t + 1) from q_add t 1, if_neg (show ¬ Int32.ofNat w < 0 from q_nlt (a := 0) (b := w) (by omega) (by omega))]
      by_cases d : w < 4
      · rw [if_neg (show ¬ (4 : Int32) ≤ Int32.ofNat w from q_nle (a := w) (b := 4) (by omega) d), q_rp_at _ _ _ _ (by omega) (show sz < 9 by omega)]
        have e99 : (am_uI E 100 sz (Int32.ofNat t)).1 99 4 = Int32.ofNat sz := by rw [q_uI_ne _ (by omega)]; exact h2
        rw [e99, q_rp_at _ _ _ _ (by omega) (show sz < 9 by omega)]
        have e99' : (am_uI (am_uI E 100 sz (Int32.ofNat t)) 101 sz (Int32.ofNat w)).1 99 4 = Int32.ofNat sz := by rw [q_uI_ne _ (by omega)]; exact e99
        rw [e99', show Int32.ofNat sz + 1 = Int32.ofNat (sz + 1) from q_add sz 1]
        have hlo : q_lo3 f (am_uI (am_uI (am_uI E 100 sz (Int32.ofNat t)) 101 sz (Int32.ofNat w)) 99 4 (Int32.ofNat (sz + 1))) (t + 1) (sz + 1) (fun i => if i = sz then t else ts i) (fun i => if i = sz then w else os i) := by
          refine ⟨by omega, q_uIs _ _ _ _, fun i hi => ?_, fun i j hij hj => ?_, fun s hs hq => ?_, ?_⟩
          · have c0 : (am_uI (am_uI (am_uI E 100 sz (Int32.ofNat t)) 101 sz (Int32.ofNat w)) 99 4 (Int32.ofNat (sz + 1))).1 100 i = if i = sz then Int32.ofNat t else E.1 100 i := by
              rw [q_uI_ne _ (by omega), q_uI_ne _ (by omega), q_uI_at]
              by_cases q : i = sz
              · rw [if_pos q, if_pos ⟨rfl, q⟩]
              · rw [if_neg q, if_neg (fun z => q z.2)]
            have c1 : (am_uI (am_uI (am_uI E 100 sz (Int32.ofNat t)) 101 sz (Int32.ofNat w)) 99 4 (Int32.ofNat (sz + 1))).1 101 i = if i = sz then Int32.ofNat w else E.1 101 i := by
              rw [q_uI_ne _ (by omega), q_uI_at]
              by_cases q : i = sz
              · rw [if_pos q, if_pos ⟨rfl, q⟩]
              · rw [if_neg q, if_neg (fun z => q z.2), q_uI_ne _ (by omega)]
            rw [c0, c1]
            by_cases q : i = sz
            · simp only [q, if_true]
              exact ⟨trivial, trivial, by omega, d, ew⟩
            · simp only [q, if_false]
              obtain ⟨g1, g2, g3, g4, g5⟩ := h3 i (by omega)
              exact ⟨g1, g2, by omega, g4, g5⟩
          · show (if i = sz then t else ts i) < (if j = sz then t else ts j)
            by_cases q : j = sz
            · rw [if_pos q, if_neg (by omega)]
              exact (h3 i (by omega)).2.2.1
            · rw [if_neg q, if_neg (by omega)]
              exact h4 i j hij (by omega)
          · by_cases q : s = t
            · exact ⟨sz, by omega, by rw [q]; exact if_pos rfl⟩
            · obtain ⟨i, hi, e⟩ := h5 s (by omega) hq
              exact ⟨i, by omega, by
                show (if i = sz then t else ts i) = s
                rw [if_neg (by omega)]; exact e⟩
          · rw [q_S_last, Nat.zero_add, h6, hih, if_pos d]
        have hh := q172_7 hf h9 k (t + 1) m (am_uI (am_uI (am_uI E 100 sz (Int32.ofNat t)) 101 sz (Int32.ofNat w)) 99 4 (Int32.ofNat (sz + 1))) (sz + 1) (fun i => if i = sz then t else ts i) (fun i => if i = sz then w else os i) (by omega) (by omega) (fun s hs => by rw [q_uI_ne _ (by omega), q_uI_ne _ (by omega), q_uI_ne _ (by omega)]; exact h7 s hs) hlo
        obtain ⟨E', sz', ts', os', k1, k2, k3, k4, k5⟩ := hh
        have u3 : ∀ a, a ≠ 99 → a ≠ 100 → a ≠ 101 → E'.1 a = E.1 a := fun a g1 g2 g3 => by rw [k3 a g1 g2 g3, q_uI_ne _ g1, q_uI_ne _ g3, q_uI_ne _ g2]
        have u4 : ∀ j, j ≠ 4 → E'.1 99 j = E.1 99 j := fun j hj => by rw [k4 j hj, q_uI_at, if_neg (fun z => hj z.2), q_uI_ne _ (by omega), q_uI_ne _ (by omega)]
        exact Exists.intro E' (Exists.intro sz' (Exists.intro ts' (Exists.intro os' (And.intro k1 (And.intro k2 (And.intro u3 (And.intro u4 k5)))))))
      · rw [if_pos (show (4 : Int32) ≤ Int32.ofNat w from q_yle (a := 4) (b := w) (by omega) (by omega))]
        rw [if_neg d] at hih
        exact q172_7 hf h9 k (t + 1) m E sz ts os (by omega) (by omega) h7 ⟨h1, h2, fun i hi => (by
          obtain ⟨g1, g2, g3, g4, g5⟩ := h3 i hi
          exact ⟨g1, g2, by omega, g4, g5⟩), h4, fun s hs hq => (by
          by_cases q : s = t
          · rw [q, hih] at hq; omega
          · exact h5 s (by omega) hq), by rw [q_S_last, Nat.zero_add, h6, hih, Nat.add_zero]⟩
  | _, _, 0, _, _, _, _, _, hm, _, _ => by omega
/-- only what the class plays open hands in differs -/
def q_Y3 (D E : am_D) : Prop := (∀ a, a < 99 ∨ 103 < a → E.1 a = D.1 a) ∧ E.2 = D.2
theorem q_Y3_E {E : am_D} (h : q_Y3 D E) : q_E D E := ⟨fun a ha => h.1 a (by omega), ⟨by rw [h.1 106 (by omega)], by rw [h.1 106 (by omega)], by rw [h.1 106 (by omega)]⟩, by rw [h.2]⟩
theorem q172 (hN : 2000 ≤ N) (hK44 : K = 44) (hK : q_K D n 1 T V) (h9 : q_all (q_cnt (q_P D)) ≤ 9) {u r : Nat} (hu4 : u < 4) (hu : D.1 1 7 = Int32.ofNat u) (hr3 : r ≤ 3) (hr : D.1 1 11 = Int32.ofNat r) : ∃ E, m172 N D = some E ∧ q_Y3 D E ∧ E.1 99 5 = q_op K (q_P D) (q_e0 V T) (q_e1 n V T) u r ∧ q_ch3 (q_fd (q_op (K - 1)) (q_P D) (q_e0 V T) (q_e1 n V T) u 56 0 none) (-1) (-1) E := by
  have hn := q_n0 hK h9
  obtain ⟨s1, s2, s3, s4⟩ := q_e_ok hK hn
  have h28 := k_n28 hK
  obtain ⟨a1, a2, -⟩ := k_k hK 0 hn
  obtain ⟨b1, b2, -⟩ := k_k hK (n - 1) (by omega)
  have v0 := (q_v7 a1 a2).1
  have v1 := (q_v7 b1 b2).2
  obtain ⟨E1, sz, ts, os, k1, k2, k3, k4, k5⟩ := q172_7 (N := N) (k_pw hK) h9 28 0 N (am_uI D 99 4 0) 0 (fun _ => 0) (fun _ => 0) (by omega) (by omega) (fun s hs => by rw [q_uI_ne _ (by omega)]; exact k_pl hK s hs) ⟨by omega, q_uIs _ _ _ _, fun i hi => by omega, fun i j _ hj => by omega, fun s hs => by omega, rfl⟩
  have k1' : m172_L7 N N (am_uI D 99 4 0) 0 = some E1 := k1
  obtain ⟨l1, l2, l3, l4, l5, l6⟩ := k2
  have x1 : ∀ a, a < 99 ∨ 103 < a → E1.1 a = D.1 a := fun a ha => by rw [k3 a (by omega) (by omega) (by omega), q_uI_ne _ (by omega)]
  have m0 : m156 D (Int32.ofNat 0) = Int32.ofNat (V 0) := by
    show D.1 2 5 = _
    rw [k_e0 hK, if_neg (by omega)]
  have m1 : m156 D (Int32.ofNat 1) = Int32.ofNat (q_pip (T (n - 1)) - V (n - 1)) := by
    show D.1 2 6 = _
    rw [k_e1 hK, if_neg (by omega)]
  have f156 : ∀ F : am_D, (∀ a, a < 99 ∨ 103 < a → F.1 a = D.1 a) → ∀ v, m156 F v = m156 D v := fun F hF v => by
    unfold m156
    rw [hF 2 (by omega)]
  have f157 : ∀ F : am_D, (∀ a, a < 99 ∨ 103 < a → F.1 a = D.1 a) → ∀ v, m157 F v = m157 D v := fun F hF v => by
    unfold m157
    rw [f156 F hF, hF 2 (by omega), hF 3 (by omega)]
  have w0 : m157 D (Int32.ofNat 0) = Int32.ofNat (V 0 * (q_dd (T 0) + 1)) := by
    rw [q157 hK hn, if_pos (show Int32.ofNat 0 = 0 from rfl), m0, q255d a1]
  have w1 : m157 D (Int32.ofNat 1) = Int32.ofNat ((q_pip (T (n - 1)) - V (n - 1)) * (q_dd (T (n - 1)) + 1)) := by
    rw [q157 hK hn, if_neg (show ¬ Int32.ofNat 1 = 0 by decide), m1, q255d b1]
  -- the ends
  obtain ⟨E2, hE2⟩ : ∃ E2, E2 = am_uI (am_uI (am_uI (am_uI E1 102 0 (Int32.ofNat (V 0))) 103 0 (Int32.ofNat (V 0 * (q_dd (T 0) + 1)))) 102 1 (Int32.ofNat (q_pip (T (n - 1)) - V (n - 1)))) 103 1 (Int32.ofNat ((q_pip (T (n - 1)) - V (n - 1)) * (q_dd (T (n - 1)) + 1))) := ⟨_, rfl⟩
  have xx : ∀ a, a ≠ 102 → a ≠ 103 → E2.1 a = E1.1 a := fun a g1 g2 => by rw [hE2, q_uI_ne _ g2, q_uI_ne _ g1, q_uI_ne _ g2, q_uI_ne _ g1]
  have h79 : m172_L79 N N E1 0 = some E2 := by
    obtain ⟨m, hm⟩ : ∃ m, N = m + 3 := ⟨N - 3, by omega⟩
    have g0 : m172_L79 N (m + 3) E1 (Int32.ofNat 0) = some E2 := by
      rw [m172_L79, if_neg (show ¬ (1 : Int32) < Int32.ofNat 0 by decide)]
      simp only [am_lt]
      rw [f156 E1 x1, m0, q_rp_at _ 102 20 0 (by omega) (by omega), f157 _ (fun a ha => by rw [q_uI_ne _ (by omega)]; exact x1 a ha), w0, q_rp_at _ 103 20 0 (by omega) (by omega), show Int32.ofNat 0 + 1 = Int32.ofNat 1 from rfl, m172_L79, if_neg (show ¬ (1 : Int32) < Int32.ofNat 1 by decide)]
      simp only [am_lt]
      rw [f156 _ (fun a ha => by rw [q_uI_ne _ (by omega), q_uI_ne _ (by omega)]; exact x1 a ha), m1, q_rp_at _ 102 20 1 (by omega) (by omega), f157 _ (fun a ha => by rw [q_uI_ne _ (by omega), q_uI_ne _ (by omega), q_uI_ne _ (by omega)]; exact x1 a ha), w1, q_rp_at _ 103 20 1 (by omega) (by omega), show Int32.ofNat 1 + 1 = Int32.ofNat 2 from rfl, m172_L79, if_pos (show (1 : Int32) < Int32.ofNat 2 by decide), hE2]
    rw [← hm] at g0
    exact g0
  obtain ⟨E3, hE3⟩ : ∃ E3, E3 = am_uI (am_uI E2 99 6 (-1)) 99 7 (-1) := ⟨_, rfl⟩
  have y3 : ∀ a, a ≠ 99 → E3.1 a = E2.1 a := fun a ha => by rw [hE3, q_uI_ne _ ha, q_uI_ne _ ha]
  have z3 : ∀ a, a < 99 ∨ 103 < a → E3.1 a = D.1 a := fun a ha => by rw [y3 a (by omega), xx a (by omega) (by omega)]; exact x1 a ha
  have e994 : E3.1 99 4 = Int32.ofNat sz := by rw [hE3, q_uI_at, if_neg (by omega), q_uI_at, if_neg (by omega), xx 99 (by omega) (by omega)]; exact l2
  have hrw : q_rw sz ts os := ⟨l1, fun i hi => ⟨by have := (l3 i hi).2.2.1; omega, (l3 i hi).2.2.2.1⟩, l4⟩
  have how : q_ow E3 sz ts os := ⟨e994, fun i hi => by
    rw [y3 100 (by omega), y3 101 (by omega), xx 100 (by omega) (by omega), xx 101 (by omega) (by omega)]
    exact ⟨(l3 i hi).1, (l3 i hi).2.1⟩⟩
  obtain ⟨n1, n2, n3⟩ := q_nb3 sz (by omega)
  have hcr : q_cr sz ts os (q_P D) (2 ^ sz - 1) := ⟨n2, fun i hi => by
      rw [n3 i (by omega), if_pos (by simp [hi])]
      exact (l3 i hi).2.2.2.2, fun t ht hnt => by
      obtain ⟨w, hw, ew⟩ := q_pw5 hK t ht
      by_cases c : w < 4
      · have hih : q_ih (q_P D) t = 1 := by
          unfold q_ih
          rw [ew, q_tn (by omega), if_pos c]
        obtain ⟨i, hi, e⟩ := l5 t ht hih
        exact absurd e (hnt i hi)
      · rw [ew, show w = 4 by omega]⟩
  have d0 := q_dd2 (T 0)
  have d1 := q_dd2 (T (n - 1))
  have hen : q_en E3 0 (q_e0 V T) (q_e1 n V T) := by
    have t0 : q_e0 V T % 8 = V 0 ∧ q_wt (q_e0 V T) = V 0 * (q_dd (T 0) + 1) := by
      unfold q_wt q_e0
      have p1 : (V 0 + 8 * q_dd (T 0)) % 8 = V 0 := by omega
      have p2 : (V 0 + 8 * q_dd (T 0)) / 8 = q_dd (T 0) := by omega
      rw [p1, p2]
      exact ⟨rfl, rfl⟩
    have t1 : q_e1 n V T % 8 = q_pip (T (n - 1)) - V (n - 1) ∧ q_wt (q_e1 n V T) = (q_pip (T (n - 1)) - V (n - 1)) * (q_dd (T (n - 1)) + 1) := by
      unfold q_wt q_e1
      have p1 : (q_pip (T (n - 1)) - V (n - 1) + 8 * q_dd (T (n - 1))) % 8 = q_pip (T (n - 1)) - V (n - 1) := by omega
      have p2 : (q_pip (T (n - 1)) - V (n - 1) + 8 * q_dd (T (n - 1))) / 8 = q_dd (T (n - 1)) := by omega
      rw [p1, p2]
      exact ⟨rfl, rfl⟩
    unfold q_en
    rw [t0.1, t0.2, t1.1, t1.2, y3 102 (by omega), y3 103 (by omega), hE2]
    refine ⟨?_, ?_, ?_, ?_⟩
    · rw [q_uI_ne _ (by omega), q_uI_at, if_neg (by omega), q_uI_ne _ (by omega), q_uIs]
    · rw [q_uI_ne _ (by omega), q_uIs]
    · rw [q_uI_at, if_neg (by omega), q_uI_ne _ (by omega), q_uIs]
    · rw [q_uIs]
  obtain ⟨E4, g1, g2, g3⟩ := q173 (N := N) hN hrw 12 E3 (q_P D) 0 (q_e0 V T) (q_e1 n V T) u r (2 ^ sz - 1) K how hcr hen (q_pw5 hK) s1 s3 s2 s4 (by omega) (by omega) hu4 hr3 (by omega)
  have g1' : m173 N E3 0 (Int32.ofNat u) (Int32.ofNat r) (Int32.ofNat (2 ^ sz - 1)) = some (q_sg u * q_op K (q_P D) (q_e0 V T) (q_e1 n V T) u r, E4) := g1
  have t17 : E3.1 1 7 = Int32.ofNat u := by rw [z3 1 (by omega)]; exact hu
  have t111 : E3.1 1 11 = Int32.ofNat r := by rw [z3 1 (by omega)]; exact hr
  have t17' : E4.1 1 7 = Int32.ofNat u := by rw [g2.1 1 (by omega) (by omega) (by omega)]; exact t17
  have hsg : (if m187 (Int32.ofNat u) = 0 then q_sg u * q_op K (q_P D) (q_e0 V T) (q_e1 n V T) u r else -(q_sg u * q_op K (q_P D) (q_e0 V T) (q_e1 n V T) u r)) = q_op K (q_P D) (q_e0 V T) (q_e1 n V T) u r := by
    generalize q_op K (q_P D) (q_e0 V T) (q_e1 n V T) u r = v
    obtain rfl | rfl | rfl | rfl : u = 0 ∨ u = 1 ∨ u = 2 ∨ u = 3 := by omega
    · rw [if_pos (by decide)]; exact Int32.one_mul v
    · rw [if_neg (by decide)]
      show -((-1 : Int32) * v) = v
      rw [Int32.neg_mul, Int32.one_mul, Int32.neg_neg]
    · rw [if_pos (by decide)]; exact Int32.one_mul v
    · rw [if_neg (by decide)]
      show -((-1 : Int32) * v) = v
      rw [Int32.neg_mul, Int32.one_mul, Int32.neg_neg]
  have h6 : E3.1 99 6 = -1 ∧ E3.1 99 7 = -1 := by
    rw [hE3]
    exact ⟨by rw [q_uI_at, if_neg (by omega), q_uIs], q_uIs _ _ _ _⟩
  have g3' := g3 rfl
  rw [h6.1, h6.2] at g3'
  refine ⟨am_uI E4 99 5 (q_op K (q_P D) (q_e0 V T) (q_e1 n V T) u r), ?_, ⟨fun a ha => ?_, ?_⟩, q_uIs _ _ _ _, ?_⟩
  · unfold m172
    simp only [am_lt]
    rw [k1', Option.bind_some, h79, Option.bind_some, ← hE3, t17, t111, e994, n1, g1', Option.bind_some]
    dsimp only
    rw [t17']
    by_cases c : m187 (Int32.ofNat u) = 0
    · rw [if_pos c] at hsg
      rw [if_pos c, hsg]
    · rw [if_neg c] at hsg
      rw [if_neg c, hsg]
  · rw [q_uI_ne _ (by omega), g2.1 a (by omega) (by omega) (by omega)]
    exact z3 a ha
  · show E4.2 = D.2
    rw [g2.2.2.2, hE3]
    show E2.2 = _
    rw [hE2]
    show E1.2 = _
    rw [k5]; rfl
  · exact ⟨by rw [q_uI_at, if_neg (by omega)]; exact g3'.1, by rw [q_uI_at, if_neg (by omega)]; exact g3'.2⟩
theorem q29 (hN : 2000 ≤ N) (hK44 : K = 44) (hK : q_K D n p T V) {u r w : Nat} (hu4 : u < 4) (hu : D.1 107 1 = Int32.ofNat u) (hr3 : p = 1 → r ≤ 3) (hr : D.1 107 4 = Int32.ofNat r) (hw : w < 3) : ∃ E, m29 N D (Int32.ofNat w) = some (Sum.inl (q_on K D n p T V u r w), E) ∧ q_Y3 D E := by
  have hp3 := k_p3 hK
  have fcnt : q_cnt (D.1 7) = q_cnt (q_P D) := funext fun v => q_cnt_congr (k_pl hK)
  have e1 := q_part (k_pw hK)
  unfold m29 q_on
  rw [if_neg (show ¬ Int32.ofNat w < 0 from q_nlt (a := 0) (b := w) (by omega) (by omega)), if_pos (show Int32.ofNat w ≤ (2 : Int32) from q_yle (a := w) (b := 2) (by omega) (by omega)), k_p' hK, q210 hN, fcnt]
  by_cases hp : p = 1
  · subst hp
    rw [if_pos (show Int32.ofNat 1 = (1 : Int32) from rfl), Option.bind_some]
    by_cases h9 : q_all (q_cnt (q_P D)) ≤ 9
    · obtain ⟨u', hu', f1, f2⟩ := k_tu hK
      have huu : u' = u := q_ofN (by omega) (by omega) (f1.symm.trans hu)
      rw [if_pos rfl, huu] at f2
      obtain ⟨E, k1, k2, k3, k4⟩ := q172 (r := r) hN hK44 hK h9 hu4 f2 (hr3 rfl) ((k_ro hK).trans hr)
      rw [if_pos (show Int32.ofNat (q_all (q_cnt (q_P D))) ≤ (9 : Int32) from q_yle (a := q_all (q_cnt (q_P D))) (b := 9) (by omega) h9), if_pos ⟨rfl, h9⟩, k1, Option.bind_some, k3, k4.1, k4.2]
      refine ⟨E, ?_, k2⟩
      obtain rfl | rfl | rfl : w = 0 ∨ w = 1 ∨ w = 2 := by omega
      · rfl
      · rw [if_neg (show ¬ Int32.ofNat 1 = Int32.ofNat 0 by decide), if_pos rfl, if_neg (by omega)]
        cases q_fd (q_op (K - 1)) (q_P D) (q_e0 V T) (q_e1 n V T) u 56 0 none <;> rfl
      · rw [if_neg (show ¬ Int32.ofNat 2 = Int32.ofNat 0 by decide), if_neg (show ¬ Int32.ofNat 2 = Int32.ofNat 1 by decide), if_neg (by omega)]
        cases q_fd (q_op (K - 1)) (q_P D) (q_e0 V T) (q_e1 n V T) u 56 0 none <;> rfl
    · rw [if_neg (show ¬ Int32.ofNat (q_all (q_cnt (q_P D))) ≤ (9 : Int32) from q_nle (a := 9) (b := q_all (q_cnt (q_P D))) (by omega) (by omega)), if_neg (fun q => h9 q.2)]
      exact ⟨D, rfl, fun _ _ => rfl, rfl⟩
  · rw [if_neg (show ¬ Int32.ofNat p = (1 : Int32) from fun q => hp (q_ofN (b := 1) (by omega) (by omega) q)), if_neg (fun q => hp q.1)]
    exact ⟨D, rfl, fun _ _ => rfl, rfl⟩
theorem q_on_cg {E : am_D} (h : E.1 107 = D.1 107) (n p : Nat) (T V : Nat → Nat) (u r w : Nat) : q_on K E n p T V u r w = q_on K D n p T V u r w := by
  have e : q_P E = q_P D := by unfold q_P; rw [h]
  unfold q_on
  rw [e]
theorem g_open (hN : 2000 ≤ N) (hK44 : K = 44) (hC : q_Cc K ≤ N) (hI : q_I D) (v1 : Int32) : q_G (fun D => m286 N D v1) (fun D => m143 N D v1) D := by
  obtain ⟨n, p, T, V, hK⟩ := q_I_K hI
  have hB := hI.1
  obtain ⟨u, hu4, hu, -⟩ := k_tu hK
  obtain ⟨r, hr4, hr3, hr⟩ := k_row hK
  rcases q46 (v := v1) (a := 0) (b := 2) (by omega) (by omega) with ⟨w, -, hw, rfl, e3⟩ | ⟨e3, e4⟩
  · have hw' : w < 3 := by omega
    obtain ⟨E, k1, k2⟩ := q29 hN hK44 hK hu4 hu hr3 hr hw'
    have hE := q_Y3_E k2
    have hY : q_E D (am_uI (am_uJ E 124 0 (q_on K D n p T V u r w).toInt64) 106 0 0) := hE.tr (q_mE E _ _)
    obtain ⟨F, f1, f2⟩ := q142 (w := w) hN hK44 hC (q_E_B hY hB) (q_E_K hY hK) hu4 (by rw [hY.1 107 (by omega)]; exact hu) hr3 (by rw [hY.1 107 (by omega)]; exact hr) hw'
    rw [q_on_cg (hY.1 107 (by omega))] at f1
    refine q_G_ok (D' := E) (D2 := F) (q_on K D n p T V u r w) ?_ ?_ ?_ ?_ (q_E_I (hY.tr (q_Z_E f2)) hI)
    · show m286 N D _ = _
      unfold m286
      rw [k1]
      rfl
    · show m143 N _ _ = _
      unfold m143
      simp only [← q_l0, ← q_l2] at e3
      simp only [am_lt, e3, q_10, if_false, q47a, f1, Option.bind_some]
    · rw [f2.2.2.1 0 (by omega)]; exact q_uIs _ _ _ _
    · rw [f2.2.2.2]; rfl
  · refine q_G_ex hI 1 (by omega) ?_ ?_
    · show m286 N D _ = _
      unfold m286 m29
      rcases e4 with e4 | e4
      · rw [if_pos (show v1 < 0 from e4)]; rfl
      · rw [if_neg (c := v1 ≤ 2) (Int32.not_le.mpr e4), ite_self]; rfl
    · show m143 N D _ = _
      unfold m143
      simp only [← q_l0, ← q_l2] at e3
      simp only [am_lt, e3, if_true, q47b]
      rfl
end QK
