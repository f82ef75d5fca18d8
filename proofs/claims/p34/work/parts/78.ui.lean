/-! a deed of the law, whatever its two numbers -/
section UI
variable {D D' E F M : am_D} {N : Nat} {n p : Nat} {T V : Nat → Nat}
def u_da (D : am_D) (A : am_D → Option (Int32 × am_D)) (r : Nat) (D' : am_D) : Prop := A D = some (Int32.ofNat r, D') ∧ u_I D' ∧ u_sv D D' ∧ ∀ E, u_I E → (∀ a, a ≤ 22 → E.1 a = D.1 a) → ∃ E', A E = some (Int32.ofNat r, E') ∧ ∀ a, a ≤ 22 → E'.1 a = D'.1 a
theorem u_da_of {F : am_D → Option ((Int32 ⊕ Nat) × am_D)} {A : am_D → Option (Int32 × am_D)} {r : Nat} (h : u_dt D F r D') (hA : ∀ G : am_D, (∀ a, a ≤ 22 → G.1 a = D.1 a) → A G = (F G).bind fun q => (am_inl q.1).bind fun x => some (x, q.2)) : u_da D A r D' := by
  obtain ⟨h1, h2, h3, h4⟩ := h
  refine ⟨?_, h2, h3, fun E hE he => ?_⟩
  · rw [hA D (fun _ _ => rfl), h1]; rfl
  · obtain ⟨E', g1, g2⟩ := h4 E hE he
    refine ⟨E', ?_, g2⟩
    rw [hA E he, g1]; rfl
theorem u_and1 (v : Int32) : ∃ w, w < 2 ∧ v &&& 1 = Int32.ofNat w := by
  refine ⟨v.toBitVec.toNat &&& 1, Nat.lt_of_le_of_lt Nat.and_le_right (by omega), ?_⟩
  apply Int32.toBitVec_inj.mp
  show v.toBitVec &&& BitVec.ofNat 32 1 = BitVec.ofNat 32 (v.toBitVec.toNat &&& 1)
  apply BitVec.eq_of_toNat_eq
  rw [BitVec.toNat_and, BitVec.toNat_ofNat, BitVec.toNat_ofNat]
  have h := Nat.and_le_right (n := v.toBitVec.toNat) (m := 1)
  rw [Nat.mod_eq_of_lt (a := v.toBitVec.toNat &&& 1) (by omega)]
theorem a_act (hN : 2000 ≤ N) (hI : u_I D) (hk : D.1 0 7 = 1) (x y : Int32) : ∃ r D', u_da D (fun G => m292 N G x y) r D' ∧ r < 3000 := by
  obtain ⟨n, p, T, V, hK, hX⟩ := u_K hI
  have hp := k_p' hK
  have hp3 := k_p3 hK
  have r1 : ∀ G : am_D, (∀ a, a ≤ 22 → G.1 a = D.1 a) → G.1 1 6 = Int32.ofNat p := fun G hG => by rw [hG 1 (by omega)]; exact hp
  have hc : p = 2 ∨ p = 0 ∨ p = 1 := by omega
  rcases hc with rfl | rfl | rfl
  · by_cases c : (x &&& 3) = 0
    · obtain ⟨i, hi, ei⟩ := u_up y (m := 60) (by omega) (by omega)
      have ei' : m289 y 60 = some (Int32.ofNat i) := ei
      obtain ⟨r, D', h, hrb⟩ := a_set hI (w := 1 + i) (by omega) (by omega)
      refine ⟨r, D', u_da_of h fun G hG => ?_, by omega⟩
      show m292 N G x y = _
      unfold m292
      rw [w22_0, Option.bind_some, w_inl, Option.bind_some, r1 G hG, if_pos (show Int32.ofNat 2 = (2 : Int32) from rfl), if_pos c, ei', Option.bind_some, show (1 : Int32) + Int32.ofNat i = Int32.ofNat (1 + i) from q_add 1 i]
    · obtain ⟨r, D', h, hrb⟩ := a_gather hN hI (by rw [hp]; decide)
      refine ⟨r, D', u_da_of h fun G hG => ?_, by omega⟩
      show m292 N G x y = _
      unfold m292
      rw [w22_0, Option.bind_some, w_inl, Option.bind_some, r1 G hG, if_pos (show Int32.ofNat 2 = (2 : Int32) from rfl), if_neg c]
  · obtain ⟨u, hu, eu⟩ := u_up y (m := 4) (by omega) (by omega)
    obtain ⟨t, ht, et⟩ := u_up (y >>> ((2 : Int32) &&& 31)) (m := 28) (by omega) (by omega)
    obtain ⟨w, hw, ew⟩ := u_up y (m := 4096) (by omega) (by omega)
    have eu' : m289 y 4 = some (Int32.ofNat u) := eu
    have et' : m289 (y >>> ((2 : Int32) &&& 31)) 28 = some (Int32.ofNat t) := et
    have ew' : m289 y 4096 = some (Int32.ofNat w) := ew
    have h01 : D.1 1 6 = 0 := hp
    -- whether the tile can be given
    have can : ∀ G : am_D, (∀ a, a ≤ 22 → G.1 a = D.1 a) → (if G.1 7 t = (5 : Int32) then ((m21 N G (Int32.ofNat u) (0 : Int32)).bind fun q34 => ((am_inl q34.1).bind fun x36 => (if (7 : Int32) ≤ x36 then (some ((0 : Int32), q34.2)) else (some ((1 : Int32), q34.2))))) else (some ((0 : Int32), G))) = some ((if D.1 7 t = 5 ∧ q_cnt (D.1 7) (Int32.ofNat u) < 7 then 1 else 0), G) := fun G hG => by
      rw [w21c hN G hu, Option.bind_some, w_inl, Option.bind_some, hG 7 (by omega)]
      have := q_cnt_le (D.1 7) (Int32.ofNat u)
      by_cases c1 : D.1 7 t = 5
      · rw [if_pos c1]
        by_cases c2 : q_cnt (D.1 7) (Int32.ofNat u) < 7
        · rw [if_neg (show ¬ (7 : Int32) ≤ Int32.ofNat (q_cnt (D.1 7) (Int32.ofNat u)) from q_nle (b := 7) (by omega) c2), if_pos ⟨c1, c2⟩]
        · rw [if_pos (show (7 : Int32) ≤ Int32.ofNat (q_cnt (D.1 7) (Int32.ofNat u)) from q_yle (a := 7) (by omega) (by omega)), if_neg (fun q => c2 q.2)]
      · rw [if_neg c1, if_neg (fun q => c1 q.1)]
    have box : ∀ G : am_D, (∀ a, a ≤ 22 → G.1 a = D.1 a) → m22 N G 14 = some (Sum.inl (Int32.ofNat (q_cnt (D.1 7) 5))) := fun G hG => by
      rw [w22_14, q204 hN, Option.bind_some, hG 7 (by omega)]
    have b28 := q_cnt_le (D.1 7) 5
    by_cases c5 : q_cnt (D.1 7) 5 = 0
    · obtain ⟨r, D', h, hrb⟩ := a_begin hN hI hu h01 c5
      refine ⟨r, D', u_da_of h fun G hG => ?_, by omega⟩
      show m292 N G x y = _
      unfold m292
      rw [w22_0, Option.bind_some, w_inl, Option.bind_some, r1 G hG, if_neg (show ¬ Int32.ofNat 0 = (2 : Int32) by decide), Option.bind_some, w_inl, Option.bind_some, if_pos (show Int32.ofNat 0 = (0 : Int32) from rfl), eu', Option.bind_some, et', Option.bind_some, w18p G ht, Option.bind_some, w_inl, Option.bind_some, can G hG, Option.bind_some, box G hG, Option.bind_some, w_inl, Option.bind_some, c5, if_pos (show Int32.ofNat 0 = (0 : Int32) from rfl)]
    · have nb : ¬ Int32.ofNat (q_cnt (D.1 7) 5) = 0 := fun q => c5 (q_ofN (a := q_cnt (D.1 7) 5) (b := 0) (by omega) (by omega) q)
      by_cases c3 : (x &&& 3) ≤ 0
      · obtain ⟨r, D', h, hrb⟩ := a_deal hN hI (w := w) (by omega) h01
        refine ⟨r, D', u_da_of h fun G hG => ?_, by omega⟩
        show m292 N G x y = _
        unfold m292
        rw [w22_0, Option.bind_some, w_inl, Option.bind_some, r1 G hG, if_neg (show ¬ Int32.ofNat 0 = (2 : Int32) by decide), Option.bind_some, w_inl, Option.bind_some, if_pos (show Int32.ofNat 0 = (0 : Int32) from rfl), eu', Option.bind_some, et', Option.bind_some, w18p G ht, Option.bind_some, w_inl, Option.bind_some, can G hG, Option.bind_some, box G hG, Option.bind_some, w_inl, Option.bind_some, if_neg nb, if_pos c3, ew', Option.bind_some]
      · by_cases cg : D.1 7 t = 5 ∧ q_cnt (D.1 7) (Int32.ofNat u) < 7
        · obtain ⟨r, D', h, hrb⟩ := a_give hN hI hu ht h01 cg.1 cg.2
          refine ⟨r, D', u_da_of h fun G hG => ?_, by omega⟩
          show m292 N G x y = _
          unfold m292
          rw [w22_0, Option.bind_some, w_inl, Option.bind_some, r1 G hG, if_neg (show ¬ Int32.ofNat 0 = (2 : Int32) by decide), Option.bind_some, w_inl, Option.bind_some, if_pos (show Int32.ofNat 0 = (0 : Int32) from rfl), eu', Option.bind_some, et', Option.bind_some, w18p G ht, Option.bind_some, w_inl, Option.bind_some, can G hG, Option.bind_some, box G hG, Option.bind_some, w_inl, Option.bind_some, if_neg nb, if_neg c3, if_pos cg, if_neg (show ¬ (1 : Int32) = 0 by decide)]
        · obtain ⟨r, D', h, hrb⟩ := a_deal hN hI (w := w) (by omega) h01
          refine ⟨r, D', u_da_of h fun G hG => ?_, by omega⟩
          show m292 N G x y = _
          unfold m292
          rw [w22_0, Option.bind_some, w_inl, Option.bind_some, r1 G hG, if_neg (show ¬ Int32.ofNat 0 = (2 : Int32) by decide), Option.bind_some, w_inl, Option.bind_some, if_pos (show Int32.ofNat 0 = (0 : Int32) from rfl), eu', Option.bind_some, et', Option.bind_some, w18p G ht, Option.bind_some, w_inl, Option.bind_some, can G hG, Option.bind_some, box G hG, Option.bind_some, w_inl, Option.bind_some, if_neg nb, if_neg c3, if_neg cg, if_pos (show (0 : Int32) = 0 from rfl), ew', Option.bind_some]
  · obtain ⟨u, hu, hu1, hu2⟩ := k_tu hK
    rw [if_pos rfl] at hu2
    obtain ⟨f, hf, ef⟩ := u_up y (m := 56) (by omega) (by omega)
    obtain ⟨i, hi, ei⟩ := u_up x (m := 16) (by omega) (by omega)
    obtain ⟨j, hj, ej⟩ := u_up y (m := 9) (by omega) (by omega)
    have ef' : m289 y 56 = some (Int32.ofNat f) := ef
    have ei' : m289 x 16 = some (Int32.ofNat i) := ei
    have ej' : m289 y 9 = some (Int32.ofNat j) := ej
    obtain ⟨tm, htm, htm'⟩ := k_tw hK u hu
    have h8 : D.1 8 u = Int32.ofNat tm := (k_ti hK u hu).trans htm'
    have h16 : D.1 1 6 = 1 := hp
    obtain ⟨w1, hw1, ew1⟩ := u_and1 (y >>> ((3 : Int32) &&& 31))
    obtain ⟨w2, hw2, ew2⟩ := u_and1 y
    -- the beginning is alike for all
    have beg : ∀ (G : am_D) (R : Int32), (∀ a, a ≤ 22 → G.1 a = D.1 a) → m291 N D (Int32.ofNat u) (Int32.ofNat f) = some R → m292 N G x y = (if Int32.ofNat i = 0 then ((m289 y (9 : Int32)).bind fun q85 => ((n8 G ((1 : Int32) + q85)).bind fun q87 => ((am_inl q87.1).bind fun x89 => (some (x89, q87.2))))) else (if Int32.ofNat i = (1 : Int32) then (if (y &&& (7 : Int32)) = 0 then ((n16 G).bind fun q93 => ((am_inl q93.1).bind fun x95 => (some (x95, q93.2)))) else ((n7 G ((y >>> ((3 : Int32) &&& 31)) &&& (1 : Int32))).bind fun q97 => ((am_inl q97.1).bind fun x99 => (some (x99, q97.2))))) else (if (if Int32.ofNat tm ≤ 0 then (0 : Int32) else (1 : Int32)) = 0 then ((n6 N G (Int32.ofNat u)).bind fun q102 => ((am_inl q102.1).bind fun x104 => (some (x104, q102.2)))) else (if 0 ≤ R then ((m22 N G (15 : Int32)).bind fun q107 => ((am_inl q107).bind fun x109 => (if x109 = 0 then ((n7 G (y &&& (1 : Int32))).bind fun q112 => ((am_inl q112.1).bind fun x114 => (some (x114, q112.2)))) else ((n5 N G (Int32.ofNat u) (R / (2 : Int32)) (R - R / (2 : Int32) * (2 : Int32))).bind fun q116 => ((am_inl q116.1).bind fun x118 => (some (x118, q116.2))))))) else ((n6 N G (Int32.ofNat u)).bind fun q120 => ((am_inl q120.1).bind fun x122 => (some (x122, q120.2)))))))) := fun G R hG hR => by
      have hR' : m291 N G (Int32.ofNat u) (Int32.ofNat f) = some R := by rw [u_hz_eq hG, hz291]; exact hR
      unfold m292
      rw [w22_0, Option.bind_some, w_inl, Option.bind_some, r1 G hG, if_neg (show ¬ Int32.ofNat 1 = (2 : Int32) by decide), Option.bind_some, w_inl, Option.bind_some, if_neg (show ¬ Int32.ofNat 1 = (0 : Int32) by decide), w22_1, Option.bind_some, w_inl, Option.bind_some, hG 1 (by omega), hu2, ef', Option.bind_some, hR', Option.bind_some, w21t G hu, Option.bind_some, w_inl, Option.bind_some, hG 8 (by omega), h8]
      simp only [am_lt]
      rw [ei', Option.bind_some]
    have hpass : ∀ R, m291 N D (Int32.ofNat u) (Int32.ofNat f) = some R → (tm = 0 ∨ q_fit D (Int32.ofNat u) = 0) → m221 N D (Int32.ofNat u) = some 0 := fun R _ ho => by
      rw [q221 hN hK hu]
      have : q_np D 1 u = 0 := by
        unfold q_np
        rw [if_pos rfl, if_pos hu1]
        rcases ho with ho | ho
        · rw [if_pos (by rw [htm', ho]; decide)]
        · by_cases c : D.1 107 (13 + u) ≤ Int32.ofNat 0
          · rw [if_pos c]
          · rw [if_neg c, if_pos ho]
      rw [this]; rfl
    by_cases ci : i = 0
    · subst ci
      obtain ⟨R, hR⟩ : ∃ R, m291 N D (Int32.ofNat u) (Int32.ofNat f) = some R := by
        rcases u_choice hN hK hu hf with ⟨h1, -⟩ | ⟨e, -, -, h1⟩ <;> exact ⟨_, h1⟩
      obtain ⟨r, D', h, hrb⟩ := a_tick hI h16 (w := 1 + j) (by omega) (by omega)
      refine ⟨r, D', u_da_of h fun G hG => ?_, by omega⟩
      show m292 N G x y = _
      rw [beg G R hG hR, if_pos (show Int32.ofNat 0 = (0 : Int32) from rfl), ej', Option.bind_some, show (1 : Int32) + Int32.ofNat j = Int32.ofNat (1 + j) from q_add 1 j]
    · have ni : ¬ Int32.ofNat i = 0 := fun q => ci (q_ofN (a := i) (b := 0) (by omega) (by omega) q)
      by_cases ci1 : i = 1
      · subst ci1
        obtain ⟨R, hR⟩ : ∃ R, m291 N D (Int32.ofNat u) (Int32.ofNat f) = some R := by
          rcases u_choice hN hK hu hf with ⟨h1, -⟩ | ⟨e, -, -, h1⟩ <;> exact ⟨_, h1⟩
        by_cases c7 : (y &&& (7 : Int32)) = 0
        · obtain ⟨r, D', h, hrb⟩ := a_back hI hk
          refine ⟨r, D', u_da_of h fun G hG => ?_, by omega⟩
          show m292 N G x y = _
          rw [beg G R hG hR, if_neg ni, if_pos (show Int32.ofNat 1 = (1 : Int32) from rfl), if_pos c7]
        · obtain ⟨r, D', h, hrb⟩ := a_clock hI h16 hw1
          refine ⟨r, D', u_da_of h fun G hG => ?_, by omega⟩
          show m292 N G x y = _
          rw [beg G R hG hR, if_neg ni, if_pos (show Int32.ofNat 1 = (1 : Int32) from rfl), if_neg c7, ew1]
      · have ni1 : ¬ Int32.ofNat i = 1 := fun q => ci1 (q_ofN (a := i) (b := 1) (by omega) (by omega) q)
        by_cases ct : tm = 0
        · obtain ⟨R, hR⟩ : ∃ R, m291 N D (Int32.ofNat u) (Int32.ofNat f) = some R := by
            rcases u_choice hN hK hu hf with ⟨h1, -⟩ | ⟨e, -, -, h1⟩ <;> exact ⟨_, h1⟩
          obtain ⟨r, D', hrb, h, -⟩ := a_pass hN hI hu (hpass R hR (Or.inl ct))
          refine ⟨r + 1, D', u_da_of h fun G hG => ?_, by omega⟩
          show m292 N G x y = _
          rw [beg G R hG hR, if_neg ni, if_neg ni1, ct, if_pos (show (if Int32.ofNat 0 ≤ 0 then (0 : Int32) else 1) = 0 by decide)]
        · have nt : ¬ Int32.ofNat tm ≤ 0 := q_nle (a := 0) (by omega) (by omega)
          have nt2 : ¬ (if Int32.ofNat tm ≤ 0 then (0 : Int32) else (1 : Int32)) = 0 := by rw [if_neg nt]; decide
          rcases u_choice hN hK hu hf with ⟨hR, hno⟩ | ⟨e, he56, hft, hR⟩
          · obtain ⟨r, D', hrb, h, -⟩ := a_pass hN hI hu (hpass _ hR (Or.inr (u_nofit hK rfl hno)))
            refine ⟨r + 1, D', u_da_of h fun G hG => ?_, by omega⟩
            show m292 N G x y = _
            rw [beg G _ hG hR, if_neg ni, if_neg ni1, if_neg nt2, if_neg (show ¬ (0 : Int32) ≤ -1 by decide)]
          · have p0 : (0 : Int32) ≤ Int32.ofNat e := q_yle (a := 0) (by omega) (by omega)
            have ed : Int32.ofNat e / (2 : Int32) = Int32.ofNat (e / 2) := q_div (b := 2) (by omega) (by omega)
            have em : Int32.ofNat e - Int32.ofNat (e / 2) * (2 : Int32) = Int32.ofNat (e % 2) := by
              rw [← ed]
              exact q_mod (a := e) (b := 2) (by omega) (by omega)
            by_cases cn : m219 D = 0
            · obtain ⟨r, D', h, hrb⟩ := a_clock hI h16 hw2
              refine ⟨r, D', u_da_of h fun G hG => ?_, by omega⟩
              show m292 N G x y = _
              rw [beg G _ hG hR, if_neg ni, if_neg ni1, if_neg nt2, if_pos p0, w22_15, show m219 G = m219 D by rw [u_hz_eq hG, hz219], if_pos cn, Option.bind_some, w_inl, Option.bind_some, if_pos (show (0 : Int32) = 0 from rfl), ew2]
            · have h220 : m220 D (Int32.ofNat u) (Int32.ofNat (e / 2)) (Int32.ofNat (e % 2)) = 0 := by
                unfold m220
                rw [if_pos h16, if_pos hu2.symm, q203 D (by omega), if_pos hft.2.1, if_neg hft.2.2, if_neg cn, q_rt4 _ hu, h8, if_neg (show ¬ Int32.ofNat tm = 0 from fun q => ct (q_ofN (a := tm) (b := 0) (by omega) (by omega) q))]
              obtain ⟨w, D', hwb, -, h, -⟩ := a_lay hN hI hK hX hu (show e / 2 < 28 by omega) (show e % 2 < 2 by omega) h220
              have hgb : q_gain D u w < 3000 := by
                have := q_fi_le w hwb
                have := q_all_le (q_P D)
                unfold q_gain
                split <;> omega
              refine ⟨_, D', u_da_of h fun G hG => ?_, hgb⟩
              show m292 N G x y = _
              rw [beg G _ hG hR, if_neg ni, if_neg ni1, if_neg nt2, if_pos p0, w22_15, show m219 G = m219 D by rw [u_hz_eq hG, hz219], if_neg cn, Option.bind_some, w_inl, Option.bind_some, if_neg (show ¬ (1 : Int32) = 0 by decide), ed, em]
end UI
