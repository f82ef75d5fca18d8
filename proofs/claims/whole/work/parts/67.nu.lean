/-! play: a part that is read and done, on both sides -/
section NU
variable {D M : am_D} {N n p l i : Nat} {T V : Nat → Nat} {tx : Nat → Nat}
/-- what was read is what the class finds at the place -/
def q_kd (D : am_D) (tx : Nat → Nat) (i : Nat) (M : am_D) : Prop :=
  (tx i = 112 ∧ M.1 106 7 = Int32.ofNat 112) ∨
  (tx i = 116 ∧ M.1 106 7 = Int32.ofNat 116 ∧ ∃ w, w < 100 ∧ M.1 106 8 = Int32.ofNat w ∧ m238 D (Int32.ofNat (i + 1)) = Int32.ofNat w) ∨
  (tx i = 99 ∧ M.1 106 7 = Int32.ofNat 99 ∧ ∃ w, w < 2 ∧ M.1 106 8 = Int32.ofNat w ∧ (if m234 D (Int32.ofNat (i + 1)) = 43 then (1 : Int32) else 0) = Int32.ofNat w) ∨
  (tx i = 108 ∧ ∃ t e, t < 28 ∧ e < 2 ∧ M.1 106 8 = Int32.ofNat t ∧ M.1 106 7 ≠ Int32.ofNat 99 ∧ M.1 106 7 ≠ Int32.ofNat 112 ∧ M.1 106 7 ≠ Int32.ofNat 116 ∧ (if M.1 106 7 = 60 then (0 : Int32) else 1) = Int32.ofNat e ∧ m236 D (Int32.ofNat (i + 1)) = Int32.ofNat t ∧ m237 D (Int32.ofNat (i + 3)) = Int32.ofNat e)
theorem q254t : ∀ a, a < 7 → ∀ b, b < 7 → a ≤ b → m254 (Int32.ofNat a) (Int32.ofNat b) = m55 (Int32.ofNat a) (Int32.ofNat b) ∧ ∃ t, t < 28 ∧ m55 (Int32.ofNat a) (Int32.ofNat b) = Int32.ofNat t := by decide +kernel
theorem q234' (hT : q_T (q_hy D M) l tx) {k : Nat} (hk : k < l) : m234 D (Int32.ofNat k) = Int32.ofNat (tx k) := q234 hT hk
theorem q235' (hT : q_T (q_hy D M) l tx) {k : Nat} (hk : k < l) (h : 48 ≤ tx k) : m235 D (Int32.ofNat k) = Int32.ofNat (tx k - 48) := by
  unfold m235
  rw [q234' hT hk, q_l48, q_sub h]
theorem q248 {c a b : Nat} (hc : c < 1000) (ha : a < 1000) (hb : b < 1000) : m248 (Int32.ofNat c) (Int32.ofNat a) (Int32.ofNat b) = if a ≤ c ∧ c ≤ b then 1 else 0 := by
  unfold m248
  by_cases h1 : a ≤ c
  · rw [if_neg (q_nlt (by omega) h1)]
    by_cases h2 : c ≤ b
    · rw [if_neg (q_nlt (by omega) h2), if_pos ⟨h1, h2⟩]
    · rw [if_pos (q_ylt (by omega) (by omega)), if_neg (fun q => h2 q.2)]
  · rw [if_pos (q_ylt (by omega) (by omega)), if_neg (fun q => h1 q.1)]
theorem q238 (hT : q_T (q_hy D M) l tx) {k : Nat} (hk : k < l) (h : 49 ≤ tx k ∧ tx k ≤ 57) : m238 D (Int32.ofNat k) = Int32.ofNat (if 48 ≤ q_cx l tx (k + 1) ∧ q_cx l tx (k + 1) ≤ 57 then 10 * (tx k - 48) + (q_cx l tx (k + 1) - 48) else tx k - 48) := by
  have h60 := hT.1
  have h126 := q_cx_le hT (k + 1)
  have e1 : Int32.ofNat k + 1 = Int32.ofNat (k + 1) := q_add k 1
  have e2 : m248 (m234 D (Int32.ofNat (k + 1))) 48 57 = if 48 ≤ q_cx l tx (k + 1) ∧ q_cx l tx (k + 1) ≤ 57 then 1 else 0 := by
    by_cases c : k + 1 < l
    · rw [q234' hT c, h126.2.1 c]
      exact q248 (a := 48) (b := 57) (by have := h126.1; rw [h126.2.1 c] at this; omega) (by omega) (by omega)
    · rw [h126.2.2 c, if_neg (by omega)]
      have : m234 D (Int32.ofNat (k + 1)) = -1 := by
        unfold m234
        have e91 : D.1 91 1 = Int32.ofNat l := hT.2.1
        rw [e91, if_pos (q_yle (by omega) (by omega))]
      rw [this]; rfl
  unfold m238
  simp only [am_lt]
  rw [e1, e2, q235' hT hk (by omega)]
  by_cases c : 48 ≤ q_cx l tx (k + 1) ∧ q_cx l tx (k + 1) ≤ 57
  · have hl := q_cx_lt (l := l) (tx := tx) (k := k + 1) (by omega)
    rw [if_pos c, if_neg (show ¬ (1 : Int32) = 0 by decide), if_pos c]
    rw [h126.2.1 hl] at c ⊢
    rw [q235' hT hl (by omega), show (10 : Int32) = Int32.ofNat 10 from rfl, q_mul, q_add]
  · rw [if_neg c, if_pos rfl, if_neg c]
theorem q239_L (hT : q_T (q_hy D M) l tx) {e : Nat} (he : e ≤ l) (hend : e = l ∨ tx e = 59) : ∀ (r i m : Nat), i + r = e → r < m → (∀ j, i ≤ j → j < e → tx j ≠ 59) → m239_L2 N D m (Int32.ofNat i) = some (Int32.ofNat e)
  | 0, i, m + 1, hi, hm, h => by
    have h60 := hT.1
    have e91 : D.1 91 1 = Int32.ofNat l := hT.2.1
    obtain rfl : i = e := by omega
    rw [m239_L2, e91]
    by_cases c : i = l
    · rw [if_pos (q_yle (by omega) (by omega))]
    · rw [if_neg (q_nle (by omega) (by omega)), q234' hT (by omega), hend.resolve_left c, if_pos (show Int32.ofNat 59 = (59 : Int32) from rfl)]
  | r + 1, i, m + 1, hi, hm, h => by
    have h60 := hT.1
    have e91 : D.1 91 1 = Int32.ofNat l := hT.2.1
    have h1 := h i (Nat.le_refl _) (by omega)
    have h2 := (q_tx7 hT (k := i) (by omega)).1
    rw [m239_L2, e91, if_neg (q_nle (by omega) (by omega)), q234' hT (by omega), if_neg (show ¬ Int32.ofNat (tx i) = (59 : Int32) from fun q => h1 (q_ofN (b := 59) (by omega) (by omega) q))]
    simp only [am_lt]
    rw [show Int32.ofNat i + 1 = Int32.ofNat (i + 1) from q_add i 1]
    exact q239_L hT he hend r (i + 1) m (by omega) (by omega) (fun j h3 h4 => h j (by omega) h4)
  | _, _, 0, _, hm, _ => by omega
theorem q239 (hN : 2000 ≤ N) (hT : q_T (q_hy D M) l tx) {e : Nat} (he : e ≤ l) (hend : e = l ∨ tx e = 59) (hi : i ≤ e) (h : ∀ j, i ≤ j → j < e → tx j ≠ 59) : m239 N D (Int32.ofNat i) = some (Int32.ofNat (e + 1)) := by
  have h60 := hT.1
  unfold m239
  rw [q239_L hT he hend (e - i) i N (by omega) (by omega) h, Option.bind_some, show Int32.ofNat e + 1 = Int32.ofNat (e + 1) from q_add e 1]
/-- a part of a game without an error is read -/
theorem p_read (hT : q_T (q_hy D M) l tx) (hM : M.1 106 6 = Int32.ofNat i) (hi : i < l) (ok0 : q_ok 0 tx 0 0 i 0) {s : Int32} (hv : q_ok 0 tx 0 0 l s) (hs : s = 1 ∨ s = 6) : ∃ M1 k s', m96 M = some (1, M1) ∧ q_ps M M1 (i + k) ∧ 0 < k ∧ i + k ≤ l ∧ q_ok 0 tx 0 0 (i + k) s' ∧ (s' = 1 ∨ (s' = 6 ∧ ¬ (48 ≤ q_cx l tx (i + k) ∧ q_cx l tx (i + k) ≤ 57))) ∧ (∀ j, i ≤ j → j < i + k → tx j ≠ 59) ∧ q_kd D tx i M1 := by
  have h60 := hT.1
  have h0 : q_ps (q_hy D M) (q_hy D M) i := j_ps0 hM
  obtain ⟨b, E, k, s', e1, p1, hk, ok, hc⟩ := q96m hT h0 (by omega)
  have ok' : q_ok 0 tx 0 0 (i + k) s' := q_ok_tr i k 0 ok0 (by rw [Nat.zero_add]; exact ok)
  have un := q_ok_un (i + k) l 0 ok' hv
  rw [Nat.zero_add] at un
  obtain ⟨rfl, hs'⟩ : b = 1 ∧ (s' = 1 ∨ (s' = 6 ∧ ¬ (48 ≤ q_cx l tx (i + k) ∧ q_cx l tx (i + k) ≤ 57))) := by
    rcases hc with h | ⟨-, n1, n6, herr⟩
    · exact h
    · by_cases c : i + k < l
      · exact absurd (herr c) (un.1 c)
      · have := un.2 (by omega)
        subst this
        exact absurd hs (fun q => q.elim n1 n6)
  obtain ⟨M1, f1, rfl, f3⟩ := j_mv (F := m96) (fun D M => j96) e1
  have pM := j_ps p1 rfl f3
  have hat : ∀ k', q_ps (q_hy D M) (q_hy D M1) (i + k') → k' ≤ 10 → k' = k := fun k' q hk' => by
    have := q_ofN (by omega) (by omega) (q.2.2.1.symm.trans p1.2.2.1)
    omega
  have hE : ∀ E2, m96 (q_hy D M) = some ((1 : Int32), E2) → E2 = q_hy D M1 := fun E2 q => by
    rw [e1] at q
    exact (congrArg Prod.snd (Option.some.inj q)).symm
  have hE0 : ∀ E2, m96 (q_hy D M) = some ((0 : Int32), E2) → False := fun E2 q => by
    rw [e1] at q
    have := congrArg Prod.fst (Option.some.inj q)
    exact absurd this (show ¬ (1 : Int32) = 0 by decide)
  have v : ∀ j, (q_hy D M1).1 106 j = M1.1 106 j := fun j => by rw [q_hy_m (by omega)]
  obtain ⟨t1, t2⟩ := q_tx7 hT hi
  by_cases c1 : q_cx l tx i = 112
  · obtain ⟨E2, g1, g2, g3⟩ := q96_p hT h0 c1
    obtain rfl := hE E2 g1
    obtain rfl := hat 1 g2 (by omega)
    refine ⟨M1, 1, s', f1, pM, by omega, hk, ok', hs', fun j h1 h2 => ?_, Or.inl ⟨by omega, by rw [← v]; exact g3⟩⟩
    obtain rfl : j = i := by omega
    omega
  · by_cases c2 : q_cx l tx i = 116
    · obtain ⟨E2, g0, g⟩ := q96_t hT h0 c2
      by_cases d1 : 49 ≤ q_cx l tx (i + 1) ∧ q_cx l tx (i + 1) ≤ 57
      · have hi1 := q_cx_lt (l := l) (tx := tx) (k := i + 1) (by omega)
        obtain ⟨u1, u2⟩ := q_tx7 hT hi1
        have e238 := q238 hT hi1 (by omega)
        rw [if_pos d1] at g
        by_cases d2 : 48 ≤ q_cx l tx (i + 2) ∧ q_cx l tx (i + 2) ≤ 57
        · have hi2 := q_cx_lt (l := l) (tx := tx) (k := i + 2) (by omega)
          obtain ⟨w1, w2⟩ := q_tx7 hT hi2
          rw [if_pos d2] at g
          obtain ⟨g1, g2, g3⟩ := g
          obtain rfl := hE E2 g1
          obtain rfl := hat 3 g2 (by omega)
          refine ⟨M1, 3, s', f1, pM, by omega, hk, ok', hs', fun j h1 h2 => ?_, Or.inr (Or.inl ⟨by omega, by rw [← v]; exact g0, 10 * (tx (i + 1) - 48) + (tx (i + 2) - 48), by omega, by rw [← v, g3, u2, w2], ?_⟩)⟩
          · obtain rfl | rfl | rfl : j = i ∨ j = i + 1 ∨ j = i + 2 := by omega
            all_goals omega
          · rw [e238, if_pos (show 48 ≤ q_cx l tx (i + 1 + 1) ∧ q_cx l tx (i + 1 + 1) ≤ 57 from d2)]
            show Int32.ofNat (10 * (tx (i + 1) - 48) + (q_cx l tx (i + 2) - 48)) = _
            rw [w2]
        · rw [if_neg d2] at g
          obtain ⟨g1, g2, g3⟩ := g
          obtain rfl := hE E2 g1
          obtain rfl := hat 2 g2 (by omega)
          refine ⟨M1, 2, s', f1, pM, by omega, hk, ok', hs', fun j h1 h2 => ?_, Or.inr (Or.inl ⟨by omega, by rw [← v]; exact g0, tx (i + 1) - 48, by omega, by rw [← v, g3, u2], ?_⟩)⟩
          · obtain rfl | rfl : j = i ∨ j = i + 1 := by omega
            all_goals omega
          · rw [e238, if_neg (show ¬ (48 ≤ q_cx l tx (i + 1 + 1) ∧ q_cx l tx (i + 1 + 1) ≤ 57) from d2)]
      · rw [if_neg d1] at g
        exact (hE0 _ g.1).elim
    · by_cases c3 : q_cx l tx i = 99
      · obtain ⟨E2, g⟩ := q96_c hT h0 c3
        by_cases d1 : q_cx l tx (i + 1) = 43 ∨ q_cx l tx (i + 1) = 45
        · have hi1 := q_cx_lt (l := l) (tx := tx) (k := i + 1) (by omega)
          obtain ⟨u1, u2⟩ := q_tx7 hT hi1
          rw [if_pos d1] at g
          obtain ⟨g1, g2, g3, g4⟩ := g
          obtain rfl := hE E2 g1
          obtain rfl := hat 2 g2 (by omega)
          refine ⟨M1, 2, s', f1, pM, by omega, hk, ok', hs', fun j h1 h2 => ?_, Or.inr (Or.inr (Or.inl ⟨by omega, by rw [← v]; exact g3, if tx (i + 1) = 43 then 1 else 0, by split <;> omega, ?_, ?_⟩))⟩
          · obtain rfl | rfl : j = i ∨ j = i + 1 := by omega
            all_goals omega
          · rw [← v, g4, u2]
            split <;> rfl
          · rw [q234' hT hi1]
            by_cases q : tx (i + 1) = 43
            · rw [if_pos q, q]; rfl
            · rw [if_neg q, if_neg (show ¬ Int32.ofNat (tx (i + 1)) = (43 : Int32) from fun z => q (q_ofN (b := 43) (by omega) (by omega) z))]; rfl
        · rw [if_neg d1] at g
          exact (hE0 _ g.1).elim
      · by_cases c4 : q_cx l tx i = 108
        · obtain ⟨E2, g⟩ := q96_l hT h0 c4
          by_cases d1 : 48 ≤ q_cx l tx (i + 1) ∧ q_cx l tx (i + 1) ≤ 54
          · rw [if_pos d1] at g
            by_cases d2 : q_cx l tx (i + 1) ≤ q_cx l tx (i + 2) ∧ q_cx l tx (i + 2) ≤ 54
            · rw [if_pos d2] at g
              by_cases d3 : q_cx l tx (i + 3) = 60 ∨ q_cx l tx (i + 3) = 62
              · rw [if_pos d3] at g
                have hi1 := q_cx_lt (l := l) (tx := tx) (k := i + 1) (by omega)
                have hi2 := q_cx_lt (l := l) (tx := tx) (k := i + 2) (by omega)
                have hi3 := q_cx_lt (l := l) (tx := tx) (k := i + 3) (by omega)
                obtain ⟨u1, u2⟩ := q_tx7 hT hi1
                obtain ⟨w1, w2⟩ := q_tx7 hT hi2
                obtain ⟨x1, x2⟩ := q_tx7 hT hi3
                obtain ⟨g1, g2, g3, g4⟩ := g
                obtain rfl := hE E2 g1
                obtain rfl := hat 4 g2 (by omega)
                rw [u2, w2, v] at g4
                rw [x2, v] at g3
                obtain ⟨z1, t, z2, z3⟩ := q254t (tx (i + 1) - 48) (by omega) (tx (i + 2) - 48) (by omega) (by omega)
                have ne : ∀ c, c < 127 → c ≠ tx (i + 3) → M1.1 106 7 ≠ Int32.ofNat c := fun c hc1 hc2 q => hc2 (q_ofN (by omega) (by omega) (q.symm.trans g3))
                refine ⟨M1, 4, s', f1, pM, by omega, hk, ok', hs', fun j h1 h2 => ?_, Or.inr (Or.inr (Or.inr ⟨by omega, t, if tx (i + 3) = 60 then 0 else 1, z2, by split <;> omega, g4.trans z3, ne 99 (by omega) (by omega), ne 112 (by omega) (by omega), ne 116 (by omega) (by omega), ?_, ?_, ?_⟩))⟩
                · obtain rfl | rfl | rfl | rfl : j = i ∨ j = i + 1 ∨ j = i + 2 ∨ j = i + 3 := by omega
                  all_goals omega
                · rw [g3]
                  by_cases q : tx (i + 3) = 60
                  · rw [if_pos q, q]; rfl
                  · rw [if_neg q, if_neg (show ¬ Int32.ofNat (tx (i + 3)) = (60 : Int32) from fun z => q (q_ofN (b := 60) (by omega) (by omega) z))]; rfl
                · unfold m236
                  rw [show Int32.ofNat (i + 1) + 1 = Int32.ofNat (i + 2) from q_add (i + 1) 1, q235' hT hi1 (by omega), q235' hT hi2 (by omega), z1, z3]
                · unfold m237
                  rw [q234' hT hi3]
                  by_cases q : tx (i + 3) = 60
                  · rw [if_pos q, q]; rfl
                  · rw [if_neg q, if_neg (show ¬ Int32.ofNat (tx (i + 3)) = (60 : Int32) from fun z => q (q_ofN (b := 60) (by omega) (by omega) z))]; rfl
              · rw [if_neg d3] at g
                exact (hE0 _ g.1).elim
            · rw [if_neg d2] at g
              exact (hE0 _ g.1).elim
          · rw [if_neg d1] at g
            exact (hE0 _ g.1).elim
        · obtain ⟨E2, g1, g2⟩ := q96_n hT h0 (by omega) c1 c2 c3 c4
          exact (hE0 _ g1).elim
/-- the part is done, or can't be, on both sides -/
theorem p_part (hN : 2000 ≤ N) (hi : i < 60) (h234 : m234 D (Int32.ofNat i) = Int32.ofNat (tx i)) (hB : q_B M) (h : q_al D M n p T V) (hd : q_kd D tx i M) : (m37 N D (Int32.ofNat i) = some 0 ∧ m100 N M = some (0, M)) ∨ (m37 N D (Int32.ofNat i) = some 1 ∧ ∃ D' M', m38 N D (Int32.ofNat i) = some D' ∧ m100 N M = some (1, M') ∧ q_st D M D' M') := by
  have hK := q_al_K h
  have hp3 := k_p3 hK
  have kp : M.1 107 0 = Int32.ofNat p := by have := k_p hK; exact this
  have kp' : D.1 1 6 = Int32.ofNat p := by have := k_p' hK; exact this
  obtain ⟨u, hu, hu1, hu2⟩ := k_tu hK
  have m1 : M.1 107 1 = Int32.ofNat u := hu1
  have d1 : D.1 1 7 = if p = 1 then Int32.ofNat u else q_nn := hu2
  have a1 : Int32.ofNat i + 1 = Int32.ofNat (i + 1) := q_add i 1
  have a3 : Int32.ofNat i + 3 = Int32.ofNat (i + 3) := q_add i 3
  by_cases hp1 : p = 1
  · subst hp1
    rw [if_pos rfl] at d1
    have k1 : M.1 107 0 = 1 := kp
    have k1' : D.1 1 6 = 1 := kp'
    rcases hd with ⟨ht, g7⟩ | ⟨ht, g7, w, hw, g8, gw⟩ | ⟨ht, g7, w, hw, g8, gw⟩ | ⟨ht, t, e, ht28, he, g8, n1, n2, n3, ge, gt, gE⟩
    · rw [ht] at h234
      have e1 : m221 N D (Int32.ofNat u) = some (Int32.ofNat (q_np (q_hy D M) 1 u)) := (h221 (M := M) _).symm.trans (q221 hN hK hu)
      have e2 : m69 N M (Int32.ofNat u) = some (Int32.ofNat (q_np (q_hy D M) 1 u)) := by
        have := q69 hN (q_hy_B hB) hK hu
        rw [← this]
        exact (q_M69 (q_hy_m (by omega)) (q_hy_m (by omega)) (q_hy_m (by omega)) _).symm
      by_cases c : q_np (q_hy D M) 1 u = 0
      · right
        obtain ⟨w, D', M', w0, w1, b1, b2, b3⟩ := p_pass hN hB h hu c
        rw [c] at e1 e2
        refine ⟨?_, D', M', ?_, ?_, b3⟩
        · unfold m37
          rw [h234, if_neg (by decide), if_pos rfl, d1, e1]; rfl
        · unfold m38
          rw [h234, if_neg (by decide), if_neg (by decide), if_pos rfl, d1, b1]; rfl
        · unfold m100
          simp only [am_lt]
          rw [k1, if_pos rfl, g7, if_neg (by decide), if_pos rfl, m1, e2, Option.bind_some, if_pos (show Int32.ofNat 0 = 0 from rfl), b2, Option.bind_some]
          dsimp only
          exact if_neg (show ¬ Int32.ofNat w ≤ 0 from q_nle (a := 0) (b := w) (by omega) w0)
      · left
        have np : ¬ Int32.ofNat (q_np (q_hy D M) 1 u) = 0 := by
          have : q_np (q_hy D M) 1 u < 4 := by
            unfold q_np
            repeat' split
            all_goals omega
          rw [q_l0, q_eq (by omega) (by omega)]; exact c
        constructor
        · unfold m37
          rw [h234, if_neg (by decide), if_pos rfl, d1, e1, Option.bind_some, if_neg np]
        · unfold m100
          simp only [am_lt]
          rw [k1, if_pos rfl, g7, if_neg (by decide), if_pos rfl, m1, e2, Option.bind_some, if_neg np]
    · right
      rw [ht] at h234
      obtain ⟨y, hy, D', M', b1, b2, b3⟩ := p_tick h rfl hw
      refine ⟨?_, D', M', ?_, ?_, b3⟩
      · unfold m37
        rw [h234, if_neg (by decide), if_neg (by decide), k1', if_pos rfl]
      · unfold m38
        rw [h234, if_neg (by decide), if_neg (by decide), if_neg (by decide), a1, gw, b1]; rfl
      · unfold m100
        simp only [am_lt]
        rw [k1, if_pos rfl, g7, if_neg (by decide), if_neg (by decide), if_pos rfl, g8, b2, Option.bind_some]
        dsimp only
        exact if_neg (show ¬ Int32.ofNat y < 0 from q_nlt (a := 0) (b := y) (by omega) (by omega))
    · right
      rw [ht] at h234
      obtain ⟨y, hy, D', M', b1, b2, b3⟩ := p_clock h rfl hw
      refine ⟨?_, D', M', ?_, ?_, b3⟩
      · unfold m37
        rw [h234, if_neg (by decide), if_neg (by decide), k1', if_pos rfl]
      · unfold m38
        rw [h234, if_pos rfl, a1, gw]
        simp only [am_lt]
        rw [b1]
      · unfold m100
        simp only [am_lt]
        rw [k1, if_pos rfl, g7, if_pos rfl, g8, b2]
        dsimp only
        exact if_neg (show ¬ Int32.ofNat y < 0 from q_nlt (a := 0) (b := y) (by omega) (by omega))
    · rw [ht] at h234
      have e1 : m67 M (Int32.ofNat u) (Int32.ofNat t) (Int32.ofNat e) = some (m220 D (Int32.ofNat u) (Int32.ofNat t) (Int32.ofNat e)) := by
        have h1 := q67 (q_hy_B hB) hK hu ht28 (Int32.ofNat e)
        have h2 : m67 (q_hy D M) (Int32.ofNat u) (Int32.ofNat t) (Int32.ofNat e) = m67 M (Int32.ofNat u) (Int32.ofNat t) (Int32.ofNat e) := rfl
        rw [h2] at h1
        exact h1
      by_cases c : m220 D (Int32.ofNat u) (Int32.ofNat t) (Int32.ofNat e) = 0
      · right
        obtain ⟨w, D', M', w1, b1, b2, b3⟩ := p_lay hN hB h hu ht28 he c
        rw [c] at e1
        refine ⟨?_, D', M', ?_, ?_, b3⟩
        · unfold m37
          rw [h234, if_pos rfl, a1, a3, gt, gE, d1, if_pos c]
        · unfold m38
          rw [h234, if_neg (by decide), if_pos rfl, a1, a3, gt, gE, d1, b1]; rfl
        · unfold m100
          simp only [am_lt]
          rw [k1, if_pos rfl, if_neg n1, if_neg n2, if_neg n3, ge, g8, m1, e1, Option.bind_some, if_pos rfl, b2, Option.bind_some]
          dsimp only
          exact if_neg (show ¬ Int32.ofNat w < 0 from q_nlt (a := 0) (b := w) (by omega) (by omega))
      · left
        constructor
        · unfold m37
          rw [h234, if_pos rfl, a1, a3, gt, gE, d1, if_neg c]
        · unfold m100
          simp only [am_lt]
          rw [k1, if_pos rfl, if_neg n1, if_neg n2, if_neg n3, ge, g8, m1, e1, Option.bind_some, if_neg c]
  · left
    have k1 : ¬ M.1 107 0 = 1 := by rw [kp, q_l1, q_eq (by omega) (by omega)]; exact hp1
    have k1' : ¬ D.1 1 6 = 1 := by rw [kp', q_l1, q_eq (by omega) (by omega)]; exact hp1
    constructor
    · have e220 : ∀ a b c, m220 D a b c = 1 := fun a b c => by unfold m220; rw [if_neg k1']
      have e221 : ∀ a, m221 N D a = some 1 := fun a => by unfold m221; rw [if_neg k1']
      unfold m37
      rw [e220, e221, if_neg k1', if_neg (show ¬ (1 : Int32) = 0 by decide), Option.bind_some, if_neg (show ¬ (1 : Int32) = 0 by decide), ite_self, ite_self]
    · unfold m100
      simp only [am_lt]
      rw [if_neg k1]
end NU
