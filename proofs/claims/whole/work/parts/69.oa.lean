/-! play: the call; what play and giveAll share -/
section OA
variable {D D1 : am_D} {N n p l : Nat} {T V : Nat → Nat} {tx : Nat → Nat}
theorem q_txI (hI : q_I D) (h1 : q_svC D D1) {Y E D' M' : am_D} {x : Int64} (hY : ∀ a, 107 ≤ a → Y.1 a = D.1 a) (hY6 : ∀ j, j ≠ 0 → j ≠ 6 → j ≠ 7 → j ≠ 8 → Y.1 106 j = D.1 106 j) (hYc : ∀ a, a ≤ 105 → Y.1 a = (am_uI D' 91 1 0).1 a) (hY2 : Y.2 = (am_uJ D' 124 0 x).2) (h3 : q_svM Y E) (sp : q_sp D1 (am_uI E 106 6 0) D' M') : q_I (am_uI M' 106 5 0) ∧ (am_uI M' 106 5 0).1 106 0 = Y.1 106 0 ∧ (am_uI M' 106 5 0).2 = Y.2 := by
  obtain ⟨p1, p2⟩ := q_pre_1 h1
  have hB := hI.1
  obtain ⟨sC, s2, s3, s4, s5, s6, s7⟩ := sp
  have h3' := h3
  obtain ⟨m, m', c1, c2, c3, c4, c5, c6, c7, c8, c9, c10⟩ := h3'
  have f4 : ∀ a, a ≠ 106 → a ≠ 107 → M'.1 a = Y.1 a := fun a h5 h6 => by
    rw [s4 a h5 h6, q_uI_ne _ h5, c5 a h5 h6]
  have f6 : ∀ j, j ≠ 6 → j ≠ 7 → j ≠ 8 → M'.1 106 j = E.1 106 j := fun j h5 h6 h7 => by
    rw [s5 j h5 h6 h7, q_uI_at, if_neg (by omega)]
  have f7 : ∀ j, 165 ≤ j → M'.1 107 j = E.1 107 j := fun j hj => by
    rw [s6 j hj, q_uI_ne _ (by omega)]
  refine ⟨q_I_of (D' := am_uI D' 91 1 0) (fun a ha => ?_) ?_ ?_ ?_ ?_ ?_ ?_ ?_, ?_, ?_⟩
  · rw [q_uI_ne _ (by omega), f4 a (by omega) (by omega), hYc a (by omega)]
  · show M'.2.1 98 = D'.2.1 98
    rw [s7]
    show E.2.1 98 = _
    rw [c7, hY2]
    funext i
    show (if 98 = 124 ∧ i = 0 then x else D'.2.1 98 i) = _
    rw [if_neg (by omega)]
  · intro t ht
    rw [q_uI_ne _ (by omega), q_uI_ne _ (by omega), f4 109 (by omega) (by omega), f4 110 (by omega) (by omega), hY 109 (by omega), hY 110 (by omega)]
    exact hB t ht
  · refine q_C_eq (c := q_c D' 1) (s := q_s M' 0) (fun i hi => ?_) ?_ sC
    · show (am_uI D' 91 1 0).1 (1 + i) = D'.1 (1 + i)
      rw [q_uI_ne _ (by omega)]
    · unfold q_s
      rw [q_uI_ne _ (by omega)]
  · obtain ⟨k1, k2, k3⟩ := q_I_kp hI
    have e3 : (am_uI M' 106 5 0).1 106 3 = D.1 106 3 := by rw [q_uI_at, if_neg (by omega), f6 3 (by omega) (by omega) (by omega), c6 3 (by omega), hY6 3 (by omega) (by omega) (by omega) (by omega)]
    refine ⟨?_, ?_, fun q => ?_⟩
    · rw [e3, q_uI_ne _ (by omega), s2 0 (by omega), p1 0 (by omega)]; exact k1
    · rw [e3]; exact k2
    · rw [e3] at q
      refine q_C_w (fun i j hw => ?_) (fun k hk => ?_) (k3 q)
      · unfold q_w at hw
        show (am_uI D' 91 1 0).1 (12 + i) j = D.1 (12 + i) j
        rw [q_uI_ne _ (by omega), s2 _ (by omega), p1 _ (by omega)]
      · have : q_s (am_uI M' 106 5 0) 7 k = q_s E 7 k := by
          show (am_uI M' 106 5 0).1 107 _ = E.1 107 _
          rw [q_uI_ne _ (by omega), f7 _ (by omega)]
        rw [this, c9 k hk]
        show Y.1 107 _ = D.1 107 _
        rw [hY 107 (by omega)]
  · have g : q_hs D1 E := by
      refine q_hi_sv (D := D) (E := Y) ?_ ?_ h1 h3
      · obtain ⟨o, m, a1, a2, a3, a4, a5, a6⟩ := q_I_hs hI
        refine ⟨o, m, a1, a2, a3, a4, ?_, fun j hj => q_C_w (fun _ _ _ => rfl) (fun k hk => ?_) (a6 j hj)⟩
        · rw [hY6 2 (by omega) (by omega) (by omega) (by omega)]; exact a5
        · unfold q_s
          rw [hY 107 (by omega)]
      · refine q_C_w (fun _ _ _ => rfl) (fun k hk => ?_) hI.2.1
        unfold q_s
        rw [hY 107 (by omega)]
    obtain ⟨o, m, a1, a2, a3, a4, a5, a6⟩ := g
    refine ⟨o, m, a1, a2, ?_, ?_, ?_, fun j hj => q_C_w (fun i k hw => ?_) (fun k hk => ?_) (a6 j hj)⟩
    · rw [q_uI_ne _ (by omega), s2 23 (by omega)]; exact a3
    · rw [q_uI_ne _ (by omega), s2 23 (by omega)]; exact a4
    · rw [q_uI_at, if_neg (by omega), f6 2 (by omega) (by omega) (by omega)]; exact a5
    · unfold q_w at hw
      show (am_uI D' 91 1 0).1 (25 + 11 * ((o + j) % 6) + i) k = D1.1 (25 + 11 * ((o + j) % 6) + i) k
      rw [q_uI_ne _ (by omega), s2 _ (by omega)]
    · show (am_uI M' 106 5 0).1 107 _ = E.1 107 _
      rw [q_uI_ne _ (by omega), f7 _ (by omega)]
  · exact ⟨0, by omega, q_uIs _ _ _ _, q_uIs _ _ _ _, fun k hk => by omega⟩
  · intro f hf t ht
    show D'.2.1 98 _ = _
    rw [s3, p2]; exact q_I_bi hI f hf t ht
  · rw [q_uI_at, if_neg (by omega), f6 0 (by omega) (by omega) (by omega), c6 0 (by omega)]
  · show M'.2 = Y.2
    rw [s7]
    exact c7
theorem q_txF (hI : q_I D) (h1 : q_svC D D1) {Y E : am_D} (hY : ∀ a, 107 ≤ a → Y.1 a = D.1 a) (hY6 : ∀ j, j ≠ 0 → j ≠ 6 → j ≠ 7 → j ≠ 8 → Y.1 106 j = D.1 106 j) (h3 : q_svM Y E) (hT : q_T D l tx) (hK : q_K D n p T V) : q_T (q_hy D1 (am_uI E 106 6 0)) l tx ∧ q_B (am_uI E 106 6 0) ∧ q_al D1 (am_uI E 106 6 0) n p T V ∧ (am_uI E 106 6 0).1 106 6 = Int32.ofNat 0 := by
  obtain ⟨p1, p2⟩ := q_pre_1 h1
  obtain ⟨m, m', c1, c2, c3, c4, c5, c6, c7, c8, c9, c10⟩ := h3
  obtain ⟨t1, t2, t3, t4⟩ := hT
  refine ⟨q_hy_T ?_ ?_ t1 (fun k hk => ?_), ?_, ?_, q_uIs _ _ _ _⟩
  · rw [p1 91 (by omega)]; exact t2
  · rw [q_uI_at, if_neg (by omega), c6 5 (by omega), hY6 5 (by omega) (by omega) (by omega) (by omega)]; exact t3
  · rw [p1 92 (by omega), q_uI_ne _ (by omega), c5 108 (by omega) (by omega), hY 108 (by omega)]; exact t4 k hk
  · intro t ht
    rw [q_uI_ne _ (by omega), q_uI_ne _ (by omega), c5 109 (by omega) (by omega), c5 110 (by omega) (by omega), hY 109 (by omega), hY 110 (by omega)]
    exact hI.1 t ht
  · refine q_C4_w (c := q_c D 1) (s := q_s D 0) (fun i j hw => ?_) (fun k hk => ?_) hK
    · unfold q_w at hw
      show D1.1 (1 + i) j = D.1 (1 + i) j
      rw [p1 _ (by omega)]
    · have : q_s (am_uI E 106 6 0) 0 k = q_s E 0 k := by
        show (am_uI E 106 6 0).1 107 _ = E.1 107 _
        rw [q_uI_ne _ (by omega)]
      rw [this, c8 k hk]
      show Y.1 107 _ = D.1 107 _
      rw [hY 107 (by omega)]
/-- a state of the model that the class's loop can be told against -/
theorem q_txG (hI : q_I D) (h1 : q_svC D D1) (hT : q_T D l tx) (hK : q_K D n p T V) : q_T (q_hy D1 (am_uI D1 106 6 0)) l tx ∧ q_B (am_uI D1 106 6 0) ∧ q_al D1 (am_uI D1 106 6 0) n p T V ∧ (am_uI D1 106 6 0).1 106 6 = Int32.ofNat 0 := by
  obtain ⟨p1, p2⟩ := q_pre_1 h1
  obtain ⟨t1, t2, t3, t4⟩ := hT
  refine ⟨q_hy_T ?_ ?_ t1 (fun k hk => ?_), ?_, ?_, q_uIs _ _ _ _⟩
  · rw [p1 91 (by omega)]; exact t2
  · rw [q_uI_at, if_neg (by omega), p1 106 (by omega)]; exact t3
  · rw [p1 92 (by omega), q_uI_ne _ (by omega), p1 108 (by omega)]; exact t4 k hk
  · intro t ht
    rw [q_uI_ne _ (by omega), q_uI_ne _ (by omega), p1 109 (by omega), p1 110 (by omega)]
    exact hI.1 t ht
  · refine q_C4_w (c := q_c D 1) (s := q_s D 0) (fun i j hw => ?_) (fun k hk => ?_) hK
    · unfold q_w at hw
      show D1.1 (1 + i) j = D.1 (1 + i) j
      rw [p1 _ (by omega)]
    · show (am_uI D1 106 6 0).1 107 _ = D.1 107 _
      rw [q_uI_ne _ (by omega), p1 107 (by omega)]
/-- the model's reading over what the class has left -/
theorem q_txX {o : Int32} {F : am_D → Option (Int32 × am_D)} (hF : ∀ D M, F (q_hy D M) = (F M).map (fun r => (r.1, q_hy D r.2))) (hq : ∀ {D : am_D} {l : Nat} {tx : Nat → Nat}, q_T D l tx → ∃ b D' e s', F D = some (b, D') ∧ q_ps D D' e ∧ q_err o tx l e s' ∧ ((b = 1 ∧ e = l ∧ (s' = 1 ∨ s' = 6)) ∨ (b = 0 ∧ ¬ (e = l ∧ (s' = 1 ∨ s' = 6)))))
    (h1 : q_svC D D1) (hT : q_T D l tx) {s : Int32} (hv : q_err o tx l l s) (hs : s = 1 ∨ s = 6) {D' : am_D} (hD : (∀ a, a = 0 ∨ 12 ≤ a → D'.1 a = D1.1 a) ∧ D'.2 = D1.2) (x : Int64) : ∃ X1, F (am_uJ (am_uI D' 91 1 0) 124 0 x) = some (1, X1) ∧ (∀ a, 107 ≤ a → X1.1 a = D.1 a) ∧ (∀ j, j ≠ 6 → j ≠ 7 → j ≠ 8 → X1.1 106 j = D.1 106 j) ∧ (∀ a, a ≤ 105 → X1.1 a = (am_uI D' 91 1 0).1 a) ∧ X1.2 = (am_uJ D' 124 0 x).2 := by
  obtain ⟨p1, p2⟩ := q_pre_1 h1
  obtain ⟨X, hX⟩ : ∃ X, X = am_uJ (am_uI D' 91 1 0) 124 0 x := ⟨_, rfl⟩
  have x1 : ∀ a, X.1 a = (am_uI D' 91 1 0).1 a := fun a => by rw [hX]; rfl
  have x2 : ∀ a, 106 ≤ a → X.1 a = D.1 a := fun a ha => by rw [x1, q_uI_ne _ (by omega), hD.1 a (by omega), p1 a (by omega)]
  have hTX : q_T (q_hy D1 X) l tx := by
    obtain ⟨t1, t2, t3, t4⟩ := hT
    refine q_hy_T ?_ ?_ t1 (fun k hk => ?_)
    · rw [p1 91 (by omega)]; exact t2
    · rw [x2 106 (by omega)]; exact t3
    · rw [p1 92 (by omega), x2 108 (by omega)]; exact t4 k hk
  obtain ⟨b, E, e, s', g1, g2, g3, g4⟩ := hq hTX
  obtain ⟨rfl, rfl⟩ := q_err_un hv g3
  have hb : b = 1 := by
    rcases g4 with h | ⟨-, h⟩
    · exact h.1
    · exact absurd ⟨rfl, hs⟩ h
  subst hb
  obtain ⟨X1, y1, rfl, y3⟩ := j_mv hF g1
  have q := j_ps g2 rfl y3
  rw [← hX]
  refine ⟨X1, y1, fun a ha => ?_, fun j a1 a2 a3 => ?_, fun a ha => ?_, ?_⟩
  · rw [q.1 a (by omega), x2 a (by omega)]
  · rw [q.2.1 j a1 a2 a3, x2 106 (by omega)]
  · rw [y3 a ha, x1]
  · rw [q.2.2.2, hX]; rfl
theorem g_play (hN : 2000 ≤ N) (hI : q_I D) : q_G (fun D => m271 N D) (fun D => m101 N D) D := by
  obtain ⟨n, p, T, V, hK⟩ := q_I_K hI
  obtain ⟨l, tx, hT⟩ := q_I_T hI
  have h60 := hT.1
  obtain ⟨b, e, s', h1, h2, h3⟩ := q241 (N := N) hN hT (o := 0) (Or.inl rfl)
  rcases h3 with ⟨rfl, rfl, hs⟩ | ⟨rfl, hn⟩
  · obtain ⟨D1, d1, d2⟩ := q_sav hI
    have hl0 : 0 < e := by
      by_cases c : e = 0
      · subst c
        have : s' = 0 := h2.2.1
        subst this
        rcases hs with q | q <;> exact absurd q (by decide)
      · omega
    obtain ⟨w1, w2, w3, w4⟩ := q_txG hI d2 hT hK
    obtain ⟨d, D', M0, hd, a1, -, a3⟩ := q13_L (N := N) hN h2.2.1 hs e 0 0 D1 _ N N hl0 (by omega) (by omega) (by omega) (by omega) w1 w2 ⟨_, _, _, _, w3⟩ w4 rfl
    obtain ⟨X1, y1, y2, y3, y4, y5⟩ := q_txX (F := fun D => m97 N D) (fun D M => j97) (fun hT => q97 hN hT) d2 hT h2 hs ⟨a3.2.1, a3.2.2.1⟩ (Int32.ofNat d).toInt64
    have z1 : ∀ a, 107 ≤ a → (am_uI X1 106 0 0).1 a = D.1 a := fun a ha => by rw [q_uI_ne _ (by omega)]; exact y2 a ha
    have z2 : ∀ j, j ≠ 0 → j ≠ 6 → j ≠ 7 → j ≠ 8 → (am_uI X1 106 0 0).1 106 j = D.1 106 j := fun j b1 b2 b3 b4 => by rw [q_uI_at, if_neg (by omega)]; exact y3 j b2 b3 b4
    obtain ⟨o, m, -, hm, -, -, hm5, -⟩ := q_I_hs hI
    obtain ⟨E, e1, e2⟩ := q76 hN (D := am_uI X1 106 0 0) hm (by rw [z2 2 (by omega) (by omega) (by omega) (by omega)]; exact hm5)
    obtain ⟨v1, v2, v3, v4⟩ := q_txF hI d2 z1 z2 e2 hT hK
    obtain ⟨d', D'', M', -, b1, b2, b3⟩ := q13_L (N := N) hN h2.2.1 hs e 0 0 D1 _ N N hl0 (by omega) (by omega) (by omega) (by omega) v1 v2 ⟨_, _, _, _, v3⟩ v4 rfl
    rw [a1] at b1
    have hinj := Option.some.inj b1
    have hdd : Int32.ofNat d' = Int32.ofNat d := (congrArg Prod.fst hinj).symm
    have hDD : D'' = D' := (congrArg Prod.snd hinj).symm
    subst hDD
    rw [hdd] at b2
    obtain ⟨r1, r2, r3⟩ := q_txI hI d2 z1 z2 (fun a ha => by rw [q_uI_ne _ (by omega)]; exact y4 a ha) (show (am_uI X1 106 0 0).2 = _ from y5) e2 b3
    refine q_G_ok (D' := am_uI D'' 91 1 0) (D2 := am_uI M' 106 5 0) (Int32.ofNat d) ?_ ?_ ?_ ?_ r1
    · show m271 N D = _
      have a1' : m13_L36 N N D1 0 0 = _ := a1
      unfold m271 m13
      rw [h1, Option.bind_some, if_neg (show ¬ (1 : Int32) = 0 by decide), d1, Option.bind_some, a1']
      rfl
    · show m101 N _ = _
      have y1' : m97 N (am_uJ (am_uI D'' 91 1 0) 124 0 (Int32.ofNat d).toInt64) = some (1, X1) := y1
      have b2' : m101_L32 N N (am_uI E 106 6 0) 0 = _ := b2
      unfold m101
      rw [y1', Option.bind_some]
      simp only [am_lt]
      rw [if_neg (show ¬ (1 : Int32) = 0 by decide), q47a]
      dsimp only
      rw [if_neg (show ¬ (1 : Int32) = 0 by decide), e1, Option.bind_some, b2', Option.bind_some]
    · rw [r2]; exact q_uIs _ _ _ _
    · rw [r3]
      show X1.2.1 124 = _
      rw [y5]; rfl
  · obtain ⟨b', D', e', s'', g1, g2, g3, g4⟩ := q97 (N := N) hN hT
    obtain ⟨rfl, rfl⟩ := q_err_un h2 g3
    have hb : b' = 0 := by
      rcases g4 with h | h
      · exact absurd h.2 hn
      · exact h.1
    subst hb
    refine ⟨1, D, 0, am_uI D' 106 0 1, ?_, ?_, q_uIs _ _ _ _, fun q => absurd q (by decide), q_E_I ((q_ps_E g2).tr (q_E_uI (by omega))) hI⟩
    · show m271 N D = _
      unfold m271 m13
      rw [h1, Option.bind_some, if_pos rfl]
      rfl
    · show m101 N D = _
      unfold m101
      rw [g1, Option.bind_some]
      simp only [am_lt, if_true, q47b]
end OA
