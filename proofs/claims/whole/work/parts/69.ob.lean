/-! giveAll: the tiles one after the other, on both sides -/
section OB
variable {D M : am_D} {N n p l : Nat} {T V : Nat → Nat} {tx : Nat → Nat}
theorem j57_L (v : Int32) : ∀ (m : Nat) (a b : Int32), m57_L4 N (q_hy D M) v m a b = m57_L4 N M v m a b
  | 0, _, _ => rfl
  | m + 1, a, b => by
    rw [m57_L4, m57_L4]
    simp only [j57_L v m, q_hy_m (show 106 ≤ 107 by omega)]
theorem j77 (a b : Int32) : m77 N (q_hy D M) a b = m77 N M a b := by
  have e : ∀ v, m57 N (q_hy D M) v = m57 N M v := fun v => by
    unfold m57
    rw [j57_L]
  unfold m77
  rw [e, q_hy_m (show 106 ≤ 107 by omega)]
  rfl
/-- a tile is given on both sides -/
theorem p_give (hN : 2000 ≤ N) (h : q_al D M n p T V) {x t : Nat} (hx : x < 4) (ht : t < 28) : (m212 N D (Int32.ofNat x) (Int32.ofNat t) = some 0 ∧ m77 N M (Int32.ofNat x) (Int32.ofNat t) = some 0) ∨ (m212 N D (Int32.ofNat x) (Int32.ofNat t) = some 1 ∧ m77 N M (Int32.ofNat x) (Int32.ofNat t) = some 1 ∧ m213 D (Int32.ofNat x) (Int32.ofNat t) = am_uI D 7 t (Int32.ofNat x) ∧ q_st D M (am_uI D 7 t (Int32.ofNat x)) (am_uI M 107 (25 + t) (Int32.ofNat x))) := by
  have hK := q_al_K h
  have c1 := q212 hN hK ht (Int32.ofNat x)
  have c2 := q77 hN hK ht (Int32.ofNat x)
  rw [h212] at c1
  rw [j77] at c2
  by_cases hc : p = 0 ∧ q_P (q_hy D M) t = 5 ∧ q_cnt (q_P (q_hy D M)) (Int32.ofNat x) < 7
  · right
    rw [if_pos hc] at c1 c2
    obtain ⟨rfl, hc1, hc2⟩ := hc
    refine ⟨c1, c2, ?_, ?_, fun a ha => q_uI_ne _ (by omega), rfl, fun a ha => q_uI_ne _ ha, fun j hj => ?_, rfl⟩
    · unfold m213
      rw [q_rp_at _ _ _ _ (by omega) ht]
      rfl
    · rw [show q_c (am_uI D 7 t (Int32.ofNat x)) 1 = _ from q_c_up D 6 t _, q_s_up]
      exact ⟨n, 0, T, V, c_giv h hx ht hc1 hc2⟩
    · rw [q_uI_at, if_neg (by omega)]
  · left
    rw [if_neg hc] at c1 c2
    exact ⟨c1, c2⟩
/-- the model's step from the tile on -/
def q_m39 (N m : Nat) (Mr : am_D) (X v1 : Int32) : Option (Int32 × am_D) := ((m94 Mr).bind fun q23 => ((m77 N q23.2 X q23.1).bind fun q25 => (((if q25 = 0 then (if 0 ≤ ((25 : Int32) + q23.1) ∧ ((25 : Int32) + q23.1) < 1320 then (some (q23.2.1 107 (((25 : Int32) + q23.1)).toNatClampNeg)) else none) else (some X))).bind fun q27 => (if 0 ≤ ((25 : Int32) + q23.1) ∧ ((25 : Int32) + q23.1) < 1320 then (am_lt (am_uI q23.2 107 (((25 : Int32) + q23.1)).toNatClampNeg q27) fun D32 => (am_lt (if q25 = 0 then (0 : Int32) else (1 : Int32)) fun q35 => (am_lt (v1 + q35) fun x39 => ((m92 D32 (59 : Int32)).bind fun q41 => (((if q25 = 0 then (some ((0 : Int32), q41.2)) else (if q41.1 = 0 then ((m92 q41.2 (44 : Int32)).bind fun q48 => (if q48.1 = 0 then (some ((0 : Int32), q48.2)) else (some ((1 : Int32), q48.2)))) else (some ((1 : Int32), q41.2))))).bind fun q43 => (m102_L39 N m q43.2 x39 X q41.1 q43.1)))))) else none))))
theorem q102_u (m : Nat) (D : am_D) (v1 v2 v3 : Int32) : m102_L39 N (m + 1) D v1 v2 v3 1 = (((if v3 = 0 then (some (v2, D)) else ((m93 D (0 : Int32) (3 : Int32)).bind fun q19 => (some (q19.1, q19.2))))).bind fun q15 => ((m92 q15.2 (58 : Int32)).bind fun q21 => q_m39 N m q21.2 q15.1 v1)) := by
  rw [m102_L39, if_neg (show ¬ (1 : Int32) = 0 by decide)]
  rfl
theorem q102_0 (m : Nat) (D : am_D) (v1 v2 v3 : Int32) : m102_L39 N (m + 1) D v1 v2 v3 0 = some (v1, D) := by
  rw [m102_L39, if_pos rfl]
/-- a character that is taken, or not, by the model alone -/
theorem q92' (hT : q_T (q_hy D M) l tx) {i : Nat} (hM : M.1 106 6 = Int32.ofNat i) (hi : i ≤ l) {c : Nat} (hc : c < 1000) : ∃ b E, m92 M (Int32.ofNat c) = some (b, E) ∧ ((b = 1 ∧ q_cx l tx i = c ∧ q_ps M E (i + 1)) ∨ (b = 0 ∧ q_cx l tx i ≠ c ∧ q_ps M E i)) := by
  have e := q92 hT (j_ps0 hM) hi hc
  by_cases h : q_cx l tx i = c
  · rw [if_pos h] at e
    obtain ⟨E, g1, g2, g3⟩ := j_mv (F := fun M => m92 M (Int32.ofNat c)) (fun D M => j92 _) e
    exact ⟨1, E, g1, Or.inl ⟨rfl, h, j_ps (q_ps_6 (j_ps0 hM) _) g2 g3⟩⟩
  · rw [if_neg h] at e
    obtain ⟨E, g1, g2, g3⟩ := j_mv (F := fun M => m92 M (Int32.ofNat c)) (fun D M => j92 _) e
    exact ⟨0, E, g1, Or.inr ⟨rfl, h, j_ps (q_ps_6 (j_ps0 hM) _) g2 g3⟩⟩
/-- what is said of the loops from a place on -/
def q_g39 (N l : Nat) (tx : Nat → Nat) (r : Nat) : Prop := ∀ (i done : Nat) (D M : am_D) (m1 m2 : Nat) (c2 c3 f : Int32), i < l → l ≤ i + r → 2 * r < m1 → r < m2 → done ≤ i → q_T (q_hy D M) l tx → q_B M → (∃ n p T V, q_al D M n p T V) → M.1 106 6 = Int32.ofNat i → ((f = 1 ∧ q_ok 1 tx 0 0 i 0) ∨ (f = 0 ∧ q_ok 1 tx 0 0 i 2 ∧ c2 = c3 ∧ ∃ x, x < 4 ∧ c2 = Int32.ofNat x)) → ∃ d D' M' y, d < 1000 ∧ m39_L6 N m1 D (Int32.ofNat done) c2 (Int32.ofNat i) = some (y, Int32.ofNat d, D') ∧ m102_L39 N m2 M (Int32.ofNat done) c3 f 1 = some (Int32.ofNat d, M') ∧ q_sp D M D' M'
theorem q39_t (hN : 2000 ≤ N) {s : Int32} (hv : q_ok 1 tx 0 0 l s) (hs : s = 1 ∨ s = 6) {r : Nat} (IH : q_g39 N l tx r) {i done m1 m2 x : Nat} (hi : i < l) (hr : l ≤ i + r + 1) (h1 : 2 * r < m1) (h2 : r < m2) (hd : done ≤ i) (hT : q_T (q_hy D M) l tx) (hB : q_B M) (ha : q_al D M n p T V) (hM : M.1 106 6 = Int32.ofNat i) (ok : q_ok 1 tx 0 0 i 2) (hx : x < 4) : ∃ d D' M' y, d < 1000 ∧ m39_L6 N (m1 + 1) D (Int32.ofNat done) (Int32.ofNat x) (Int32.ofNat i) = some (y, Int32.ofNat d, D') ∧ q_m39 N m2 M (Int32.ofNat x) (Int32.ofNat done) = some (Int32.ofNat d, M') ∧ q_sp D M D' M' := by
  have h60 := hT.1
  have e91 : D.1 91 1 = Int32.ofNat l := hT.2.1
  -- the tile
  obtain ⟨z, E, k, s', e1, p1, hk, okk, hc⟩ := q94m hT (j_ps0 hM) (by omega)
  have ok' : q_ok 1 tx 0 0 (i + k) s' := q_ok_tr i k 0 ok (by rw [Nat.zero_add]; exact okk)
  have un := q_ok_un (i + k) l 0 ok' hv
  rw [Nat.zero_add] at un
  obtain ⟨rfl, rfl, hz⟩ : k = 2 ∧ s' = 1 ∧ z = m55 (Int32.ofNat (tx i - 48)) (Int32.ofNat (tx (i + 1) - 48)) := by
    rcases hc with ⟨-, n1, n6, herr⟩ | ⟨-, a1, a2, a3⟩
    · by_cases c : i + k < l
      · exact absurd (herr c) (un.1 c)
      · have := un.2 (by omega)
        subst this
        exact absurd hs (fun q => q.elim n1 n6)
    · exact ⟨a1, a2, a3⟩
  obtain ⟨M1, f1, rfl, f3⟩ := j_mv (F := m94) (fun D M => j94) e1
  have pM := j_ps p1 rfl f3
  have u1 := (q_tx7 hT hi).1
  have w1 := (q_tx7 hT (k := i + 1) (by omega)).1
  have r1 : 48 ≤ tx i ∧ tx i ≤ 54 := by
    by_cases c : 48 ≤ tx i ∧ tx i ≤ 54
    · exact c
    · have := okk.1
      rw [q_t2 _ u1, if_neg c] at this
      exact absurd rfl this
  have r2 : tx i ≤ tx (i + 1) ∧ tx (i + 1) ≤ 54 := by
    by_cases c : tx i ≤ tx (i + 1) ∧ tx (i + 1) ≤ 54
    · exact c
    · have := okk.2.1
      obtain ⟨a, ha⟩ : ∃ a, a = tx i - 48 := ⟨_, rfl⟩
      rw [q_t2 _ u1, if_pos r1, show tx i - 38 = a + 10 by omega, q_t10 a (by omega) _ w1, if_neg (by omega)] at this
      exact absurd rfl this
  obtain ⟨z1, t, ht, z3⟩ := q254t (tx i - 48) (by omega) (tx (i + 1) - 48) (by omega) (by omega)
  have hzt : z = Int32.ofNat t := hz.trans z3
  subst hzt
  have ha1 := q_al_ps ha pM
  have sp1 := q_sp_ps ha pM
  have hB1 := q_sp_B hB sp1
  have hT1 := q_sp_T hT sp1
  have a1 : Int32.ofNat i + 1 = Int32.ofNat (i + 1) := q_add i 1
  have a3 : Int32.ofNat i + 3 = Int32.ofNat (i + 3) := q_add i 3
  have d1 : Int32.ofNat done + 1 = Int32.ofNat (done + 1) := q_add done 1
  have d0 : Int32.ofNat done + 0 = Int32.ofNat done := Int32.add_zero _
  have b25 : (25 : Int32) + Int32.ofNat t = Int32.ofNat (25 + t) := by rw [q_l25, q_add]
  have i25 : 0 ≤ Int32.ofNat (25 + t) ∧ Int32.ofNat (25 + t) < 1320 := q_in (n := 1320) (by omega) (by omega)
  have n25 : (Int32.ofNat (25 + t)).toNatClampNeg = 25 + t := q_tn (by omega)
  have g236 : m236 D (Int32.ofNat i) = Int32.ofNat t := by
    unfold m236
    rw [a1, q235' hT hi (by omega), q235' hT (k := i + 1) (by omega) (by omega), z1, z3]
  have hcl : m39_L6 N (m1 + 1) D (Int32.ofNat done) (Int32.ofNat x) (Int32.ofNat i) = ((m212 N D (Int32.ofNat x) (Int32.ofNat t)).bind fun q9 => (if q9 = 0 then (some (1, Int32.ofNat done, D)) else (am_lt (m213 D (Int32.ofNat x) (Int32.ofNat t)) fun q12 => (am_lt (Int32.ofNat done + (1 : Int32)) fun x14 => (am_lt (Int32.ofNat i + (3 : Int32)) fun x16 => (m39_L6 N m1 q12 x14 (Int32.ofNat x) x16)))))) := by
    rw [m39_L6, e91, if_neg (q_nle (by omega) hi), a1, q234' hT (k := i + 1) (by omega), if_neg (show ¬ Int32.ofNat (tx (i + 1)) = (58 : Int32) from fun q => by
      have := q_ofN (b := 58) (by omega) (by omega) q
      omega)]
    simp only [am_lt]
    rw [g236]
  have hml : q_m39 N m2 M (Int32.ofNat x) (Int32.ofNat done) = ((m77 N M1 (Int32.ofNat x) (Int32.ofNat t)).bind fun q25 => (((if q25 = 0 then (some (M1.1 107 (25 + t))) else (some (Int32.ofNat x)))).bind fun q27 => ((m92 (am_uI M1 107 (25 + t) q27) (59 : Int32)).bind fun q41 => (((if q25 = 0 then (some ((0 : Int32), q41.2)) else (if q41.1 = 0 then ((m92 q41.2 (44 : Int32)).bind fun q48 => (if q48.1 = 0 then (some ((0 : Int32), q48.2)) else (some ((1 : Int32), q48.2)))) else (some ((1 : Int32), q41.2))))).bind fun q43 => (m102_L39 N m2 q43.2 (Int32.ofNat done + (if q25 = 0 then (0 : Int32) else (1 : Int32))) (Int32.ofNat x) q41.1 q43.1))))) := by
    unfold q_m39
    rw [f1, Option.bind_some]
    simp only [am_lt]
    rw [b25, n25]
    simp only [i25, and_self, if_true]
  obtain ⟨m, rfl⟩ : ∃ m, m2 = m + 1 := ⟨m2 - 1, by omega⟩
  rcases p_give hN ha1 hx ht with ⟨g1, g2⟩ | ⟨g1, g2, g3, st⟩
  · have hid : am_uI M1 107 (25 + t) (M1.1 107 (25 + t)) = M1 := by
      refine Prod.ext (funext fun a => funext fun j => ?_) rfl
      rw [q_uI_at]
      by_cases c : a = 107 ∧ j = 25 + t
      · rw [if_pos c, c.1, c.2]
      · rw [if_neg c]
    obtain ⟨b, E2, e2, hb⟩ := q92' hT1 (i := i + 2) pM.2.2.1 hk (c := 59) (by omega)
    have e2' : m92 M1 (59 : Int32) = some (b, E2) := e2
    have q2 : ∃ j, q_ps M1 E2 j := by
      rcases hb with ⟨-, -, h⟩ | ⟨-, -, h⟩
      · exact ⟨_, h⟩
      · exact ⟨_, h⟩
    obtain ⟨j, q2⟩ := q2
    refine ⟨done, D, E2, 1, by omega, ?_, ?_, q_sp_tr sp1 (q_sp_ps ha1 q2)⟩
    · rw [hcl, g1, Option.bind_some, if_pos rfl]
    · rw [hml, g2, Option.bind_some, if_pos rfl, Option.bind_some, hid, e2', Option.bind_some, if_pos rfl, Option.bind_some, if_pos rfl, d0]
      exact q102_0 _ _ _ _ _
  · have sp2 := q_sp_tr sp1 (q_sp_st st)
    have hT2 := q_sp_T hT sp2
    have hB2 := q_sp_B hB sp2
    obtain ⟨D2, hD2⟩ : ∃ D2, D2 = am_uI D 7 t (Int32.ofNat x) := ⟨_, rfl⟩
    obtain ⟨M2, hM2⟩ : ∃ M2, M2 = am_uI M1 107 (25 + t) (Int32.ofNat x) := ⟨_, rfl⟩
    rw [← hD2, ← hM2] at sp2 hT2
    rw [← hM2] at hB2
    rw [← hD2] at g3
    have h6 : M2.1 106 6 = Int32.ofNat (i + 2) := by rw [hM2, q_uI_ne _ (by omega)]; exact pM.2.2.1
    have hcl2 : m39_L6 N (m1 + 1) D (Int32.ofNat done) (Int32.ofNat x) (Int32.ofNat i) = m39_L6 N m1 D2 (Int32.ofNat (done + 1)) (Int32.ofNat x) (Int32.ofNat (i + 3)) := by
      rw [hcl, g1, Option.bind_some, if_neg (show ¬ (1 : Int32) = 0 by decide)]
      simp only [am_lt]
      rw [g3, d1, a3]
    obtain ⟨n', p', T', V', ha2⟩ := sp2.1
    have ha2 : q_al D2 M2 n' p' T' V' := ha2
    have hml2 : ∀ (b : Int32) (E2 : am_D), m92 M2 (59 : Int32) = some (b, E2) → q_m39 N (m + 1) M (Int32.ofNat x) (Int32.ofNat done) = ((if b = 0 then ((m92 E2 (44 : Int32)).bind fun q48 => (if q48.1 = 0 then (some ((0 : Int32), q48.2)) else (some ((1 : Int32), q48.2)))) else (some ((1 : Int32), E2)))).bind fun q43 => (m102_L39 N (m + 1) q43.2 (Int32.ofNat (done + 1)) (Int32.ofNat x) b q43.1) := fun b E2 q => by
      rw [hml, g2, Option.bind_some, if_neg (show ¬ (1 : Int32) = 0 by decide), Option.bind_some, ← hM2, q, Option.bind_some, if_neg (show ¬ (1 : Int32) = 0 by decide), if_neg (show ¬ (1 : Int32) = 0 by decide), d1]
    obtain ⟨b, E2, e2, hb⟩ := q92' hT2 h6 hk (c := 59) (by omega)
    have e2' : m92 M2 (59 : Int32) = some (b, E2) := e2
    by_cases c : i + 2 = l
    · have cx : q_cx l tx (i + 2) = 0 := (q_cx_le hT (i + 2)).2.2 (by omega)
      obtain ⟨rfl, -, q2⟩ := hb.resolve_left (fun q => by omega)
      have sp3 := q_sp_tr sp2 (q_sp_ps ha2 q2)
      obtain ⟨b', E3, e3, hb'⟩ := q92' (q_sp_T hT sp3) q2.2.2.1 hk (c := 44) (by omega)
      obtain ⟨rfl, -, q3⟩ := hb'.resolve_left (fun q => by omega)
      have e3' : m92 E2 (44 : Int32) = some (0, E3) := e3
      refine ⟨done + 1, D2, E3, 0, by omega, ?_, ?_, q_sp_tr sp3 (q_sp_ps (q_al_ps ha2 q2) q3)⟩
      · rw [hcl2]
        obtain ⟨m', rfl⟩ : ∃ m', m1 = m' + 1 := ⟨m1 - 1, by omega⟩
        have e91' : D2.1 91 1 = Int32.ofNat l := hT2.2.1
        rw [m39_L6, e91', if_pos (q_yle (by omega) (by omega))]
      · rw [hml2 0 E2 e2', if_pos rfl, e3', Option.bind_some]
        dsimp only
        rw [if_pos rfl, Option.bind_some]
        exact q102_0 _ _ _ _ _
    · have hlt : i + 2 < l := by omega
      obtain ⟨t1, t2⟩ := q_tx7 hT hlt
      have hn := un.1 hlt
      rw [q_t1 _ t1] at hn
      have fin : ∀ st, q_ok 1 tx 0 0 (i + 3) st → (st = 0 ∨ st = 2) → i + 3 < l := fun st ho hst => by
        by_cases cc : i + 3 = l
        · have un2 := (q_ok_un (i + 3) l 0 ho hv).2 cc
          subst un2
          rcases hst with rfl | rfl <;> rcases hs with q | q <;> exact absurd q (by decide)
        · omega
      by_cases c59 : tx (i + 2) = 59
      · obtain ⟨rfl, -, q2⟩ := hb.resolve_right (fun q => by omega)
        have ok2 : q_ok 1 tx 0 0 (i + 3) 0 := q_ok_tr (i + 2) 1 0 ok' (by
          rw [Nat.zero_add]
          exact q_ok1 (by rw [q_t1 _ t1, if_neg (by omega), if_pos c59]) (by decide))
        have sp3 := q_sp_tr sp2 (q_sp_ps ha2 q2)
        obtain ⟨d, D'', M'', y, hd1, x1, x2, x3⟩ := IH (i + 3) (done + 1) D2 E2 m1 (m + 1) (Int32.ofNat x) (Int32.ofNat x) 1 (fin 0 ok2 (Or.inl rfl)) (by omega) (by omega) (by omega) (by omega) (q_sp_T hT sp3) (q_sp_B hB sp3) ⟨_, _, _, _, q_al_ps ha2 q2⟩ q2.2.2.1 (Or.inl ⟨rfl, ok2⟩)
        refine ⟨d, D'', M'', y, hd1, hcl2.trans x1, ?_, q_sp_tr sp3 x3⟩
        rw [hml2 1 E2 e2', if_neg (show ¬ (1 : Int32) = 0 by decide), Option.bind_some]
        exact x2
      · have c44 : tx (i + 2) = 44 := by
          by_cases q : tx (i + 2) = 44
          · exact q
          · rw [if_neg q, if_neg c59] at hn
            exact absurd rfl hn
        obtain ⟨rfl, -, q2⟩ := hb.resolve_left (fun q => by omega)
        have sp3 := q_sp_tr sp2 (q_sp_ps ha2 q2)
        obtain ⟨b', E3, e3, hb'⟩ := q92' (q_sp_T hT sp3) q2.2.2.1 hk (c := 44) (by omega)
        obtain ⟨rfl, -, q3⟩ := hb'.resolve_right (fun q => by omega)
        have e3' : m92 E2 (44 : Int32) = some (1, E3) := e3
        have ok2 : q_ok 1 tx 0 0 (i + 3) 2 := q_ok_tr (i + 2) 1 0 ok' (by
          rw [Nat.zero_add]
          exact q_ok1 (by rw [q_t1 _ t1, if_pos c44]) (by decide))
        have sp4 := q_sp_tr sp3 (q_sp_ps (q_al_ps ha2 q2) q3)
        obtain ⟨d, D'', M'', y, hd1, x1, x2, x3⟩ := IH (i + 3) (done + 1) D2 E3 m1 (m + 1) (Int32.ofNat x) (Int32.ofNat x) 0 (fin 2 ok2 (Or.inr rfl)) (by omega) (by omega) (by omega) (by omega) (q_sp_T hT sp4) (q_sp_B hB sp4) ⟨_, _, _, _, q_al_ps (q_al_ps ha2 q2) q3⟩ q3.2.2.1 (Or.inr ⟨rfl, ok2, rfl, x, hx, rfl⟩)
        refine ⟨d, D'', M'', y, hd1, hcl2.trans x1, ?_, q_sp_tr sp4 x3⟩
        rw [hml2 0 E2 e2', if_pos rfl, e3', Option.bind_some]
        dsimp only
        rw [if_neg (show ¬ (1 : Int32) = 0 by decide), Option.bind_some]
        exact x2
theorem q39_L (hN : 2000 ≤ N) {s : Int32} (hv : q_ok 1 tx 0 0 l s) (hs : s = 1 ∨ s = 6) : ∀ r, q_g39 N l tx r
  | 0 => fun i done D M m1 m2 c2 c3 f hi hr => by omega
  | r + 1 => fun i done D M m1 m2 c2 c3 f hi hr h1 h2 hd hT hB ha hM hf => by
    have h60 := hT.1
    have IH := q39_L hN hv hs r
    obtain ⟨n, p, T, V, ha⟩ := ha
    have e91 : D.1 91 1 = Int32.ofNat l := hT.2.1
    obtain ⟨k2, rfl⟩ : ∃ k2, m2 = k2 + 1 := ⟨m2 - 1, by omega⟩
    rcases hf with ⟨rfl, ok⟩ | ⟨rfl, ok, rfl, x, hx, rfl⟩
    · -- a hand, ':'
      obtain ⟨k1, rfl⟩ : ∃ k1, m1 = k1 + 2 := ⟨m1 - 2, by omega⟩
      obtain ⟨t1, t2⟩ := q_tx7 hT hi
      have ex : ∀ j st, q_ok 1 tx 0 0 j st → st ≠ 1 → st ≠ 6 → j ≤ l → j < l := fun j st ho n1 n6 hj => by
        by_cases cc : j = l
        · have un2 := (q_ok_un j l 0 ho hv).2 cc
          subst un2
          exact absurd hs (fun q => q.elim n1 n6)
        · omega
      have un := (q_ok_un i l 0 ok hv).1 hi
      rw [Nat.zero_add, q_t0 _ t1] at un
      have r0 : 48 ≤ tx i ∧ tx i ≤ 51 := by
        by_cases c : 48 ≤ tx i ∧ tx i ≤ 51
        · exact c
        · rw [if_neg c] at un; exact absurd rfl un
      have ok1 : q_ok 1 tx 0 0 (i + 1) 7 := q_ok_tr i 1 0 ok (by rw [Nat.zero_add]; exact q_ok1 (by rw [q_t0 _ t1, if_pos r0]) (by decide))
      have hi1 := ex (i + 1) 7 ok1 (by decide) (by decide) (by omega)
      obtain ⟨u1, u2⟩ := q_tx7 hT hi1
      have un1 := (q_ok_un (i + 1) l 0 ok1 hv).1 hi1
      rw [Nat.zero_add, q_t7 _ u1] at un1
      have r1 : tx (i + 1) = 58 := by
        by_cases c : tx (i + 1) = 58
        · exact c
        · rw [if_neg c] at un1; exact absurd rfl un1
      have ok2 : q_ok 1 tx 0 0 (i + 2) 2 := q_ok_tr (i + 1) 1 0 ok1 (by rw [Nat.zero_add]; exact q_ok1 (by rw [q_t7 _ u1, if_pos r1]) (by decide))
      have hi2 := ex (i + 2) 2 ok2 (by decide) (by decide) (by omega)
      have e93 := q93 hT (j_ps0 hM) (by omega) (a := 0) (b := 3) (by omega) (by omega)
      rw [if_pos (by omega)] at e93
      obtain ⟨E1, g1, g2, g3⟩ := j_mv (F := fun M => m93 M (Int32.ofNat 0) (Int32.ofNat 3)) (fun D M => j93 _ _) e93
      have q1 := j_ps (q_ps_6 (j_ps0 hM) _) g2 g3
      have sp1 := q_sp_ps ha q1
      obtain ⟨b, E2, e2, hb⟩ := q92' (q_sp_T hT sp1) q1.2.2.1 (by omega) (c := 58) (by omega)
      obtain ⟨rfl, -, q2⟩ := hb.resolve_right (fun q => by omega)
      have sp2 := q_sp_tr sp1 (q_sp_ps (q_al_ps ha q1) q2)
      obtain ⟨d, D', M', y, hd1, x1, x2, x3⟩ := q39_t (done := done) (m1 := k1) (m2 := k2) (x := tx i - 48) hN hv hs IH hi2 (by omega) (by omega) (by omega) (by omega) (q_sp_T hT sp2) (q_sp_B hB sp2) (q_al_ps (q_al_ps ha q1) q2) q2.2.2.1 ok2 (by omega)
      refine ⟨d, D', M', y, hd1, ?_, ?_, q_sp_tr sp2 x3⟩
      · rw [m39_L6, e91, if_neg (q_nle (by omega) hi), show Int32.ofNat i + 1 = Int32.ofNat (i + 1) from q_add i 1, q234' hT hi1, r1, if_pos (show Int32.ofNat 58 = (58 : Int32) from rfl)]
        simp only [am_lt]
        rw [q235' hT hi (by omega), show Int32.ofNat i + 2 = Int32.ofNat (i + 2) from q_add i 2]
        exact x1
      · have g1' : m93 M (0 : Int32) (3 : Int32) = _ := g1
        have e2' : m92 E1 (58 : Int32) = some (1, E2) := e2
        rw [q102_u, if_neg (show ¬ (1 : Int32) = 0 by decide), g1', Option.bind_some, Option.bind_some, e2', Option.bind_some, t2]
        exact x2
    · -- a tile more
      obtain ⟨k1, rfl⟩ : ∃ k1, m1 = k1 + 1 := ⟨m1 - 1, by omega⟩
      obtain ⟨t1, t2⟩ := q_tx7 hT hi
      have un := (q_ok_un i l 0 ok hv).1 hi
      rw [Nat.zero_add, q_t2 _ t1] at un
      have r0 : 48 ≤ tx i ∧ tx i ≤ 54 := by
        by_cases c : 48 ≤ tx i ∧ tx i ≤ 54
        · exact c
        · rw [if_neg c] at un; exact absurd rfl un
      obtain ⟨b, E2, e2, hb⟩ := q92' hT hM (by omega) (c := 58) (by omega)
      obtain ⟨rfl, -, q2⟩ := hb.resolve_left (fun q => by omega)
      have sp2 := q_sp_ps ha q2
      obtain ⟨d, D', M', y, hd1, x1, x2, x3⟩ := q39_t (done := done) (m1 := k1) (m2 := k2) (x := x) hN hv hs IH hi (by omega) (by omega) (by omega) (by omega) (q_sp_T hT sp2) (q_sp_B hB sp2) (q_al_ps ha q2) q2.2.2.1 ok hx
      refine ⟨d, D', M', y, hd1, x1, ?_, q_sp_tr sp2 x3⟩
      have e2' : m92 M (58 : Int32) = some (0, E2) := e2
      rw [q102_u, if_pos rfl, Option.bind_some, e2', Option.bind_some]
      exact x2
end OB
