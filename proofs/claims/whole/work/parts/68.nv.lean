/-! play: all parts; the call -/
section NV
variable {D M : am_D} {N n p l : Nat} {T V : Nat → Nat} {tx : Nat → Nat}
theorem j97_L : ∀ (m : Nat) (M : am_D), m97_L5 N m (q_hy D M) = (m97_L5 N m M).map (fun r => (r.1, q_hy D r.2))
  | 0, _ => rfl
  | m + 1, M => by
    rw [m97_L5, m97_L5]
    refine h_bd j96 fun q3 => h_if Iff.rfl rfl (h_if Iff.rfl rfl (h_bd (j92 _) fun q7 => h_if Iff.rfl rfl (j97_L m q7.2)))
theorem j97 : m97 N (q_hy D M) = (m97 N M).map (fun r => (r.1, q_hy D r.2)) := by
  unfold m97
  refine h_lt (h := fun r => q_hy D r) (h_uM (by omega)) fun D1 => h_bd (j97_L N D1) fun q10 => h_if Iff.rfl rfl (h_if Iff.rfl rfl rfl)
theorem j98_L : ∀ (m : Nat) (M : am_D) (v : Int32), m98_L7 N m (q_hy D M) v = (m98_L7 N m M v).map (fun r => (r.1, q_hy D r.2))
  | 0, _, _ => rfl
  | m + 1, M, v => by
    rw [m98_L7, m98_L7]
    refine h_if Iff.rfl ?_ ?_
    · refine h_bd j94 fun q4 => h_if Iff.rfl rfl (h_if Iff.rfl rfl (h_bi j91 fun q8 => h_li rfl fun q10 => h_bd (j92 _) fun q14 => h_if Iff.rfl (h_bd (j92 _) fun q17 => h_if Iff.rfl rfl (j98_L m _ _)) (j98_L m _ _)))
    · refine h_bd (j93 _ _) fun q20 => h_if Iff.rfl rfl (h_bd (j92 _) fun q23 => h_if Iff.rfl rfl ?_)
      refine h_bd j94 fun q4 => h_if Iff.rfl rfl (h_if Iff.rfl rfl (h_bi j91 fun q8 => h_li rfl fun q10 => h_bd (j92 _) fun q14 => h_if Iff.rfl (h_bd (j92 _) fun q17 => h_if Iff.rfl rfl (j98_L m _ _)) (j98_L m _ _)))
theorem j98 : m98 N (q_hy D M) = (m98 N M).map (fun r => (r.1, q_hy D r.2)) := by
  unfold m98
  refine h_lt (h := fun r => q_hy D r) (h_uM (by omega)) fun D1 => h_bd (j98_L N D1 _) fun q10 => h_if Iff.rfl rfl (h_if Iff.rfl rfl (h_if Iff.rfl rfl rfl))
/-- so far both sides have changed alike; the reading may stand elsewhere -/
def q_sp (D M D' M' : am_D) : Prop := q_C (q_c D' 1) (q_s M' 0) ∧ (∀ a, a = 0 ∨ 12 ≤ a → D'.1 a = D.1 a) ∧ D'.2 = D.2 ∧ (∀ a, a ≠ 106 → a ≠ 107 → M'.1 a = M.1 a) ∧ (∀ j, j ≠ 6 → j ≠ 7 → j ≠ 8 → M'.1 106 j = M.1 106 j) ∧ (∀ j, 165 ≤ j → M'.1 107 j = M.1 107 j) ∧ M'.2 = M.2
theorem q_sp_tr {D' M' D'' M'' : am_D} (h : q_sp D M D' M') (k : q_sp D' M' D'' M'') : q_sp D M D'' M'' := by
  obtain ⟨h1, h2, h3, h4, h5, h6, h7⟩ := h
  obtain ⟨k1, k2, k3, k4, k5, k6, k7⟩ := k
  exact ⟨k1, fun a ha => (k2 a ha).trans (h2 a ha), k3.trans h3, fun a h8 h9 => (k4 a h8 h9).trans (h4 a h8 h9), fun j h8 h9 h10 => (k5 j h8 h9 h10).trans (h5 j h8 h9 h10), fun j hj => (k6 j hj).trans (h6 j hj), k7.trans h7⟩
theorem q_sp_st {D' M' : am_D} (h : q_st D M D' M') : q_sp D M D' M' := by
  obtain ⟨h1, h2, h3, h4, h5, h6⟩ := h
  exact ⟨h1, h2, h3, fun a _ hb => h4 a hb, fun j _ _ _ => by rw [h4 106 (by omega)], h5, h6⟩
theorem q_al_ps (h : q_al D M n p T V) {M' : am_D} {i : Nat} (k : q_ps M M' i) : q_al D M' n p T V := by
  refine q_C4_eq (c := q_c D 1) (s := q_s M 0) (fun _ _ => rfl) ?_ h
  unfold q_s
  rw [k.1 107 (by omega)]
theorem q_sp_ps (h : q_al D M n p T V) {M' : am_D} {i : Nat} (k : q_ps M M' i) : q_sp D M D M' :=
  ⟨⟨n, p, T, V, q_al_ps h k⟩, fun _ _ => rfl, rfl, fun a h1 _ => k.1 a h1, k.2.1, fun j _ => by rw [k.1 107 (by omega)], k.2.2.2⟩
theorem q_sp_T {D' M' : am_D} (hT : q_T (q_hy D M) l tx) (h : q_sp D M D' M') : q_T (q_hy D' M') l tx := by
  obtain ⟨h1, h2, h3, h4⟩ := hT
  obtain ⟨k1, k2, k3, k4, k5, k6, k7⟩ := h
  refine q_hy_T ?_ ?_ h1 (fun k hk => ?_)
  · rw [k2 91 (by omega)]; exact h2
  · rw [k5 5 (by omega) (by omega) (by omega)]; exact h3
  · rw [k2 92 (by omega), k4 108 (by omega) (by omega)]; exact h4 k hk
theorem q_sp_B {D' M' : am_D} (hB : q_B M) (h : q_sp D M D' M') : q_B M' := by
  intro t ht
  rw [h.2.2.2.1 109 (by omega) (by omega), h.2.2.2.1 110 (by omega) (by omega)]
  exact hB t ht
/-- the class's loop stops at the end of the text -/
theorem q13_end {m : Nat} {d e : Int32} (h91 : D.1 91 1 ≤ e) : m13_L36 N (m + 1) D d e = some (d, D) := by
  rw [m13_L36, if_pos h91, ite_self]
theorem q13_L (hN : 2000 ≤ N) {s : Int32} (hv : q_ok 0 tx 0 0 l s) (hs : s = 1 ∨ s = 6) : ∀ (r i done : Nat) (D M : am_D) (m1 m2 : Nat), i < l → l ≤ i + r → r < m1 → r < m2 → done ≤ i → q_T (q_hy D M) l tx → q_B M → (∃ n p T V, q_al D M n p T V) → M.1 106 6 = Int32.ofNat i → q_ok 0 tx 0 0 i 0 → ∃ d D' M', d < 1000 ∧ m13_L36 N m1 D (Int32.ofNat done) (Int32.ofNat i) = some (Int32.ofNat d, D') ∧ m101_L32 N m2 M (Int32.ofNat done) = some (Int32.ofNat d, M') ∧ q_sp D M D' M'
  | 0, i, done, D, M, m1, m2, hi, hr, h1, h2, hd, hT, hB, ha, hM, ok => by omega
  | r + 1, i, done, D, M, m1 + 1, m2 + 1, hi, hr, h1, h2, hd, hT, hB, ha, hM, ok => by
    have h60 := hT.1
    obtain ⟨n, p, T, V, ha⟩ := ha
    obtain ⟨M1, k, s', f1, p1, hk0, hk, ok', hs', hne, hkd⟩ := p_read hT hM hi ok hv hs
    have ha1 := q_al_ps ha p1
    have hB1 : q_B M1 := by intro t ht; rw [p1.1 109 (by omega), p1.1 110 (by omega)]; exact hB t ht
    have sp1 := q_sp_ps ha p1
    have e91 : D.1 91 1 = Int32.ofNat l := hT.2.1
    have hcl : m13_L36 N (m1 + 1) D (Int32.ofNat done) (Int32.ofNat i) = ((m37 N D (Int32.ofNat i)).bind fun q8 => (if q8 = 0 then (some (Int32.ofNat done, D)) else ((m38 N D (Int32.ofNat i)).bind fun q11 => (am_lt (Int32.ofNat done + (1 : Int32)) fun x13 => ((m239 N q11 (Int32.ofNat i)).bind fun q15 => (m13_L36 N m1 q11 x13 q15)))))) := by
      rw [m13_L36, if_neg (show ¬ (60 : Int32) ≤ Int32.ofNat done from q_nle (a := done) (b := 60) (by omega) (by omega)), e91, if_neg (q_nle (by omega) hi)]
    have hml : m101_L32 N (m2 + 1) M (Int32.ofNat done) = ((m100 N M1).bind fun q17 => (if q17.1 = 0 then (some (Int32.ofNat done, q17.2)) else (am_lt (Int32.ofNat done + (1 : Int32)) fun x20 => ((m92 q17.2 (59 : Int32)).bind fun q22 => (m101_L32 N m2 q22.2 x20))))) := by
      rw [m101_L32, f1, Option.bind_some]
      dsimp only
      rw [if_neg (show ¬ (1 : Int32) = 0 by decide)]
    rcases p_part hN (by omega) (q234' hT hi) hB1 ha1 hkd with ⟨e1, e2⟩ | ⟨e1, D', M', e3, e2, st⟩
    · refine ⟨done, D, M1, by omega, ?_, ?_, sp1⟩
      · rw [hcl, e1, Option.bind_some, if_pos rfl]
      · rw [hml, e2, Option.bind_some]
        exact if_pos rfl
    · have sp2 := q_sp_tr sp1 (q_sp_st st)
      have hT2 := q_sp_T hT sp2
      have hB2 := q_sp_B hB sp2
      have h6 : M'.1 106 6 = Int32.ofNat (i + k) := by rw [st.2.2.2.1 106 (by omega)]; exact p1.2.2.1
      have un := q_ok_un (i + k) l 0 ok' hv
      rw [Nat.zero_add] at un
      have hend : i + k = l ∨ tx (i + k) = 59 := by
        by_cases c : i + k = l
        · exact Or.inl c
        · right
          have hlt : i + k < l := by omega
          obtain ⟨t1, t2⟩ := q_tx7 hT hlt
          have hn := un.1 hlt
          rcases hs' with rfl | ⟨rfl, hnd⟩
          · rw [q_g1 _ t1] at hn
            by_cases q : tx (i + k) = 59
            · exact q
            · rw [if_neg q] at hn; exact absurd rfl hn
          · rw [q_g6 _ t1] at hn
            rw [t2] at hnd
            rw [if_neg hnd] at hn
            by_cases q : tx (i + k) = 59
            · exact q
            · rw [if_neg q] at hn; exact absurd rfl hn
      have e239 := q239 (N := N) hN hT2 hk hend (i := i) (by omega) hne
      have a1 : Int32.ofNat done + 1 = Int32.ofNat (done + 1) := q_add done 1
      have e59 := q92 hT2 (j_ps0 h6) hk (c := 59) (by omega)
      have hcl2 : m13_L36 N (m1 + 1) D (Int32.ofNat done) (Int32.ofNat i) = m13_L36 N m1 D' (Int32.ofNat (done + 1)) (Int32.ofNat (i + k + 1)) := by
        rw [hcl, e1, Option.bind_some, if_neg (show ¬ (1 : Int32) = 0 by decide), e3, Option.bind_some]
        simp only [am_lt]
        rw [e239, Option.bind_some, a1]
      by_cases c : i + k = l
      · have cx : q_cx l tx (i + k) = 0 := (q_cx_le hT (i + k)).2.2 (by omega)
        rw [if_neg (by omega)] at e59
        obtain ⟨M2, g1, g2, g3⟩ := j_mv (F := fun M => m92 M (Int32.ofNat 59)) (fun D M => j92 _) e59
        have p2 : q_ps (q_hy D' M') (q_hy D' M2) (i + k) := by rw [← g2]; exact q_ps_6 (j_ps0 h6) _
        obtain ⟨E3, z1, z2⟩ := q96_n hT2 p2 hk (by omega) (by omega) (by omega) (by omega)
        obtain ⟨M3, y1, y2, y3⟩ := j_mv (F := m96) (fun D M => j96) z1
        obtain ⟨n', p', T', V', ha2⟩ := st.1
        have q2 := j_ps p2 rfl g3
        have ha2' := q_al_ps ha2 q2
        have hT3 := q_sp_T hT2 (q_sp_ps ha2 q2)
        have h63 : M2.1 106 6 = Int32.ofNat (i + k) := q2.2.2.1
        have q3 : q_ps M2 M3 (i + k) := by
          obtain ⟨E4, w1, w2⟩ := q96_n hT3 (j_ps0 h63) hk (by omega) (by omega) (by omega) (by omega)
          rw [z1] at w1
          have := congrArg Prod.snd (Option.some.inj w1)
          simp only at this
          rw [← this] at w2
          exact j_ps w2 y2 y3
        refine ⟨done + 1, D', M3, by omega, ?_, ?_, q_sp_tr sp2 (q_sp_tr (q_sp_ps ha2 q2) (q_sp_ps ha2' q3))⟩
        · rw [hcl2]
          obtain ⟨m, rfl⟩ : ∃ m, m1 = m + 1 := ⟨m1 - 1, by omega⟩
          refine q13_end ?_
          have e91' : D'.1 91 1 = Int32.ofNat l := hT2.2.1
          rw [e91']
          exact q_yle (by omega) (by omega)
        · rw [hml, e2, Option.bind_some]
          dsimp only
          rw [if_neg (show ¬ (1 : Int32) = 0 by decide)]
          simp only [am_lt]
          have g1' : m92 M' (59 : Int32) = _ := g1
          rw [g1', Option.bind_some, a1]
          obtain ⟨m, rfl⟩ : ∃ m, m2 = m + 1 := ⟨m2 - 1, by omega⟩
          rw [m101_L32, y1, Option.bind_some]
          exact if_pos rfl
      · have hlt : i + k < l := by omega
        obtain ⟨t1, t2⟩ := q_tx7 hT hlt
        have c59 := hend.resolve_left c
        rw [if_pos (by omega)] at e59
        obtain ⟨M2, g1, g2, g3⟩ := j_mv (F := fun M => m92 M (Int32.ofNat 59)) (fun D M => j92 _) e59
        have p2 : q_ps (q_hy D' M') (q_hy D' M2) (i + k + 1) := by rw [← g2]; exact q_ps_6 (j_ps0 h6) _
        obtain ⟨n', p', T', V', ha2⟩ := st.1
        have q2 := j_ps p2 rfl g3
        have sp3 := q_sp_tr sp2 (q_sp_ps ha2 q2)
        have ok2 : q_ok 0 tx 0 0 (i + k + 1) 0 := q_ok_tr (i + k) 1 0 ok' (by
          rw [Nat.zero_add]
          refine q_ok1 ?_ (by decide)
          rcases hs' with rfl | ⟨rfl, hnd⟩
          · rw [q_g1 _ t1, if_pos c59]
          · rw [q_g6 _ t1, if_neg (by omega), if_pos c59])
        have hlt2 : i + k + 1 < l := by
          by_cases cc : i + k + 1 = l
          · have un2 := (q_ok_un (i + k + 1) l 0 ok2 hv).2 cc
            subst un2
            rcases hs with q | q <;> exact absurd q (by decide)
          · omega
        obtain ⟨d, D'', M'', hd1, x1, x2, x3⟩ := q13_L hN hv hs r (i + k + 1) (done + 1) D' M2 m1 m2 hlt2 (by omega) (by omega) (by omega) (by omega) (q_sp_T hT sp3) (q_sp_B hB sp3) ⟨_, _, _, _, q_al_ps ha2 q2⟩ q2.2.2.1 ok2
        refine ⟨d, D'', M'', hd1, ?_, ?_, q_sp_tr sp3 x3⟩
        · rw [hcl2]; exact x1
        · rw [hml, e2, Option.bind_some]
          dsimp only
          rw [if_neg (show ¬ (1 : Int32) = 0 by decide)]
          simp only [am_lt]
          have g1' : m92 M' (59 : Int32) = _ := g1
          rw [g1', Option.bind_some, a1]
          exact x2
  | r + 1, _, _, _, _, 0, _, _, _, h1, _, _, _, _, _, _, _ => by omega
  | r + 1, _, _, _, _, _, 0, _, _, _, h2, _, _, _, _, _, _ => by omega
end NV
