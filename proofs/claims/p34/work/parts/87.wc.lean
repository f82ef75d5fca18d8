/-! ahead: open hands, the whole -/
section WC
variable {D E F G : am_D} {N : Nat} {n p : Nat} {T V : Nat → Nat}
theorem w_b0 {v k : Nat} (hk : k < 2147483648) (h : Int32.ofNat v = Int32.ofNat k) (hv : v < 2147483648) : v = k := q_ofN hv hk h
theorem a_ah3 (hN : 2000 ≤ N) (hI : u_I D) (hp : D.1 1 6 = 1) {u : Nat} (hu : u < 4) (hu1 : D.1 1 7 = Int32.ofNat u) : ∃ x195 F E, m29 N D (1 : Int32) = some (Sum.inl x195, F) ∧ (if (1 : Int32) = 0 then (some ((1 : Int32), F)) else (if x195 = (-1 : Int32) then (some ((1 : Int32), F)) else ((m29 N F (0 : Int32)).bind fun q202 => ((am_inl q202.1).bind fun x204 => ((m29 N q202.2 (2 : Int32)).bind fun q206 => ((am_inl q206.1).bind fun x208 => ((m28 N q206.2 (Int32.ofNat u) x195 x208 (0 : Int32)).bind fun q210 => ((am_inl q210).bind fun x212 => ((m18 N q206.2 x195 (3 : Int32)).bind fun q214 => ((am_inl q214).bind fun x216 => (am_lt (if x216 = (Int32.ofNat u) then (if x212 < 0 then (0 : Int32) else (1 : Int32)) else (0 : Int32)) fun q218 => (if q218 = 0 then (some (q218, q206.2)) else (am_lt (m23 q206.2 (Int32.ofNat u) x195 x208) fun q224 => ((am_inl q224).bind fun x226 => (if x226 = 0 then ((n5 N q206.2 (Int32.ofNat u) x195 x208).bind fun q229 => ((am_inl q229.1).bind fun x231 => ((m22 N q229.2 (0 : Int32)).bind fun q233 => ((am_inl q233).bind fun x235 => (((if x235 = (1 : Int32) then ((m29 N q229.2 (0 : Int32)).bind fun q241 => ((am_inl q241.1).bind fun x243 => (some (x243, q241.2)))) else (some ((0 : Int32), q229.2)))).bind fun q237 => (((if x204 = (x231 - q237.1) then ((n17 q237.2).bind fun q249 => ((am_inl q249.1).bind fun x251 => (if x251 < 0 then (some ((0 : Int32), q249.2)) else (some ((1 : Int32), q249.2))))) else (some ((0 : Int32), q237.2)))).bind fun q245 => (some (q245.1, q245.2)))))))) else (some (q218, q206.2))))))))))))))))) = some (1, E) ∧ u_J D E := by
  obtain ⟨n, p, T, V, hK, hX⟩ := u_K hI
  obtain rfl : p = 1 := u_p hK (by omega) hp
  obtain ⟨u', hu4, hu107, hu1'⟩ := k_tu hK
  rw [if_pos rfl] at hu1'
  obtain rfl : u' = u := q_ofN (by omega) (by omega) (hu1'.symm.trans hu1)
  obtain ⟨r, hr4, hr3, hr⟩ := k_row hK
  have hr3' := hr3 rfl
  obtain ⟨F, a1, a2⟩ := q29 (K := 44) hN rfl hK hu hu107 hr3 hr (w := 1) (by omega)
  have hF := q_Y3_E a2
  refine ⟨q_on 44 D n 1 T V u' r 1, F, ?_⟩
  have a1' : m29 N D (1 : Int32) = some (Sum.inl (q_on 44 D n 1 T V u' r 1), F) := a1
  by_cases h9 : q_all (q_cnt (q_P D)) ≤ 9
  case neg =>
    refine ⟨F, a1', ?_, u_J_E hI hF⟩
    rw [if_neg (show ¬ (1 : Int32) = 0 by decide), if_pos (show q_on 44 D n 1 T V u' r 1 = -1 by unfold q_on; rw [if_neg (fun q => h9 q.2)])]
  cases hb : q_fd (q_op (44 - 1)) (q_P D) (q_e0 V T) (q_e1 n V T) u' 56 0 none with
  | none =>
    refine ⟨F, a1', ?_, u_J_E hI hF⟩
    rw [if_neg (show ¬ (1 : Int32) = 0 by decide), if_pos (show q_on 44 D n 1 T V u' r 1 = -1 by unfold q_on; rw [if_pos ⟨rfl, h9⟩, if_neg (by omega), hb])]
  | some b =>
    obtain ⟨b56, blg, bov⟩ := o_fb (q_op (44 - 1)) (q_P D) (q_e0 V T) (q_e1 n V T) u' 56 0 none (by omega) (fun b q => by cases q) b hb
    have hn := q_n0 hK h9
    have hn0 : ¬ n = 0 := by omega
    have h28 := k_n28 hK
    have v1 : q_on 44 D n 1 T V u' r 1 = Int32.ofNat (b.2 / 2) := by unfold q_on; rw [if_pos ⟨rfl, h9⟩, if_neg (by omega), hb]; rfl
    have v2 : q_on 44 D n 1 T V u' r 2 = Int32.ofNat (b.2 % 2) := by unfold q_on; rw [if_pos ⟨rfl, h9⟩, if_neg (by omega), hb]; rfl
    have v0 : q_on 44 D n 1 T V u' r 0 = b.1 := by
      unfold q_on
      rw [if_pos ⟨rfl, h9⟩, if_pos rfl]
      show (match q_fd (q_op 43) (q_P D) (q_e0 V T) (q_e1 n V T) u' 56 0 none with | some b => b.1 | none => _) = _
      rw [show q_fd (q_op 43) (q_P D) (q_e0 V T) (q_e1 n V T) u' 56 0 none = some b from hb]
    have hb2 : 2 * (b.2 / 2) + b.2 % 2 = b.2 := by omega
    have ht : b.2 / 2 < 28 := by omega
    have he : b.2 % 2 < 2 := by omega
    obtain ⟨F2, c1, c2⟩ := q29 (K := 44) hN rfl (q_E_K hF hK) hu (by rw [hF.1 107 (by omega)]; exact hu107) hr3 (by rw [hF.1 107 (by omega)]; exact hr) (w := 0) (by omega)
    rw [q_on_cg (hF.1 107 (by omega)), v0] at c1
    have hF2 := hF.tr (q_Y3_E c2)
    obtain ⟨F3, d1, d2⟩ := q29 (K := 44) hN rfl (q_E_K hF2 hK) hu (by rw [hF2.1 107 (by omega)]; exact hu107) hr3 (by rw [hF2.1 107 (by omega)]; exact hr) (w := 2) (by omega)
    rw [q_on_cg (hF2.1 107 (by omega)), v2] at d1
    have hF3 := hF2.tr (q_Y3_E d2)
    have c1' : m29 N F (0 : Int32) = some (Sum.inl b.1, F2) := c1
    have d1' : m29 N F2 (2 : Int32) = some (Sum.inl (Int32.ofNat (b.2 % 2)), F3) := d1
    have hI3 := u_E_I hF3 hI
    have hK3 := q_E_K hF3 hK
    have hX3 : u_X (q_c F3 1) n 1 T V := by
      have ec := q_E_c hF3 (b := 1) (by omega)
      exact u_X_cg hX (fun k _ => by rw [ec 4 (by omega)]) (fun k _ => by rw [ec 5 (by omega)]) (fun k _ => by rw [ec 6 (by omega)]) (fun k _ => by rw [ec 8 (by omega)])
    have hP3 := q_E_P hF3
    have hP7 : F3.1 7 (b.2 / 2) = Int32.ofNat u' := by rw [k_pl hK3 _ ht, hP3]; exact blg.1
    obtain ⟨y1, y2, -⟩ := k_k hK 0 (by omega)
    obtain ⟨y3, y4, -⟩ := k_k hK (n - 1) (by omega)
    have w1 := (q_v7 y1 y2).1
    have w2 := (q_v7 y3 y4).2
    have m1 : q_e0 V T % 8 = V 0 := (o_wt _ w1 _ (q_dd2 (T 0))).2
    have m2 : q_e1 n V T % 8 = q_pip (T (n - 1)) - V (n - 1) := (o_wt _ w2 _ (q_dd2 (T (n - 1)))).2
    have hsh : q_sh (b.2 / 2) (m156 F3 (Int32.ofNat (b.2 % 2))) := by
      have h2 := blg.2
      obtain c | c : b.2 % 2 = 0 ∨ b.2 % 2 = 1 := by omega
      · rw [c]
        rw [if_pos c, m1] at h2
        show q_sh (b.2 / 2) (F3.1 2 5)
        rw [k_e0 hK3, if_neg hn0]
        rcases h2 with h2 | h2
        · exact Or.inl (by rw [h2])
        · exact Or.inr (by rw [h2])
      · rw [c]
        rw [if_neg (by omega), m2] at h2
        show q_sh (b.2 / 2) (F3.1 2 6)
        rw [k_e1 hK3, if_neg hn0]
        rcases h2 with h2 | h2
        · exact Or.inl (by rw [h2])
        · exact Or.inr (by rw [h2])
    have hft : u_ft F3 u' (b.2 / 2) (b.2 % 2) := ⟨by rw [hF3.1 1 (by omega)]; exact hp, hP7, by rw [q158 hK3 ht, if_pos (Or.inr hsh)]; decide⟩
    obtain ⟨w, hw, h161⟩ := q161s hK3 ht he (Or.inr hsh)
    have hgl : q_gain F3 u' w < 1000 := by
      have := q_fi_le w hw
      have := q_all_le (q_P F3)
      unfold q_gain
      split <;> omega
    rw [v1]
    have hz : (if (F3.1 7 (b.2 / 2)) = Int32.ofNat u' then (if Int32.ofNat (q_gain F3 u' w) < 0 then (0 : Int32) else (1 : Int32)) else (0 : Int32)) = 1 := by
      rw [if_pos hP7, if_neg (show ¬ Int32.ofNat (q_gain F3 u' w) < 0 from q_nlt (a := 0) (by omega) (by omega))]
    by_cases c : m220 F3 (Int32.ofNat u') (Int32.ofNat (b.2 / 2)) (Int32.ofNat (b.2 % 2)) = 0
    case neg =>
      refine ⟨F3, by rw [← v1]; exact a1', ?_, u_J_E hI hF3⟩
      rw [if_neg (show ¬ (1 : Int32) = 0 by decide), if_neg (q_nm (by omega)), c1', Option.bind_some, w_inl, Option.bind_some]
      dsimp only
      rw [d1', Option.bind_some, w_inl, Option.bind_some]
      dsimp only
      rw [w28g hN hK3 hu ht he hft hw h161, Option.bind_some, w_inl, Option.bind_some, w18p F3 ht, Option.bind_some, w_inl, Option.bind_some, w_lt, hz, if_neg (show ¬ (1 : Int32) = 0 by decide), w_lt, w23 F3 hu ht he, w_inl, Option.bind_some, if_neg c]
    obtain ⟨w', D', hw', h161', ⟨g1, gI, gsv, -⟩, hK', r1, r7, -, -⟩ := a_lay hN hI3 hK3 hX3 hu ht he c
    obtain rfl : w' = w := q_ofN (by omega) (by omega) (h161'.symm.trans h161)
    have g1' : n5 N F3 (Int32.ofNat u') (Int32.ofNat (b.2 / 2)) (Int32.ofNat (b.2 % 2)) = some (Sum.inl (Int32.ofNat (q_gain F3 u' w')), D') := g1
    have e11 : D'.1 1 11 = 0 := by rw [r1, if_neg (by omega), if_neg (by omega), if_neg (by omega), if_pos rfl]
    have e16 : D'.1 1 6 = if q_cnt (q_P F3) (Int32.ofNat u') = 1 then Int32.ofNat 2 else Int32.ofNat 1 := by rw [r1, if_neg (by omega), if_pos rfl]
    have e17 : D'.1 1 7 = if q_cnt (q_P F3) (Int32.ofNat u') = 1 then q_nn else Int32.ofNat ((u' + 1) % 4) := by rw [r1, if_pos rfl]
    have hnt : ∀ k, k < n → T k ≠ b.2 / 2 := fun k hk q => by
      have := (k_in hK3 _ ht).mpr ⟨k, hk, q⟩
      rw [← k_pl hK3 _ ht, hP7] at this
      have := q_ofN (by omega) (by omega) this
      omega
    have hn27 : n ≤ 27 := q_n27 ht (fun k hk => (k_k hK k hk).1) (k_inj hK) hnt
    -- the ends
    have e160 : m160 D' = Int32.ofNat w' := (q_sum1 hK3 ht he hn27 (Or.inr hsh) hK'.1).trans h161
    obtain ⟨q0, q1⟩ := o_e0 hK3 hn ht he (Or.inr hsh)
    rw [hb2] at q0 q1
    have ew := o_w hK' (by omega)
    rw [e160, q0, q1] at ew
    have egn : q_gn (q_e0 V T) (q_e1 n V T) b.2 = q_fi w' := by
      have hle : q_wt (q_l1' (q_e0 V T) b.2) + q_wt (q_r1' (q_e1 n V T) b.2) < 1000 := by
        obtain ⟨f1, f2, f3, f4⟩ := q_e_ok hK' (show 0 < n + 1 by omega)
        have g1 := q_wt_le _ f1 f2
        have g2 := q_wt_le _ f3 f4
        rw [q0] at g1
        rw [q1] at g2
        omega
      unfold q_gn
      rw [q_ofN (a := w') (by omega) (by omega) ew]
    -- the hands
    have hup : ∀ t, t < 28 → q_P D' t = upd (q_P D) (b.2 / 2) (Int32.ofNat 4) t := fun t h28 => by
      rw [← k_pl hK' t h28, r7, k_pl hK3 t h28, hP3]
      rfl
    have hout := q_out (f := q_P D) (g := upd (q_P D) (b.2 / 2) (Int32.ofNat 4)) ht hu blg.1 (fun j _ => rfl)
    obtain ⟨hw5, hall⟩ := q_up4 (q_pw5 hK) ht hu blg.1
    have hcu := hout.1 u' hu
    rw [if_pos rfl] at hcu
    have bov' : b.1 = Int32.ofNat (q_fi w') + (if q_cnt (upd (q_P D) (b.2 / 2) (Int32.ofNat 4)) (Int32.ofNat u') = 0 then Int32.ofNat (q_all (q_pips (upd (q_P D) (b.2 / 2) (Int32.ofNat 4))) / 5) else -q_op 43 (upd (q_P D) (b.2 / 2) (Int32.ofNat 4)) (q_l1' (q_e0 V T) b.2) (q_r1' (q_e1 n V T) b.2) ((u' + 1) % 4) 0) := by
      rw [bov]
      unfold q_ov
      rw [egn]
    obtain ⟨M, k1, k2, k3⟩ : ∃ M : Int32 × am_D, ((if D'.1 1 6 = (1 : Int32) then ((m29 N D' (0 : Int32)).bind fun q241 => ((am_inl q241.1).bind fun x243 => (some (x243, q241.2)))) else (some ((0 : Int32), D')))) = some (M.1, M.2) ∧ q_E D' M.2 ∧ b.1 = Int32.ofNat (q_gain F3 u' w') - M.1 := by
      unfold q_gain
      rw [hP3] at e16 e17 ⊢
      by_cases d : q_cnt (q_P D) (Int32.ofNat u') = 1
      · refine ⟨(0, D'), ?_, q_E.rf D', ?_⟩
        · rw [if_pos d] at e16
          rw [if_neg (show ¬ D'.1 1 6 = 1 by rw [e16]; decide)]
        · have hc0 : q_cnt (upd (q_P D) (b.2 / 2) (Int32.ofNat 4)) (Int32.ofNat u') = 0 := by omega
          have hps : q_all (q_pips (upd (q_P D) (b.2 / 2) (Int32.ofNat 4))) = q_all (q_pips (q_P D)) - q_pips (q_P D) (Int32.ofNat u') := by
            have e := q_pips_0 hc0
            have hp' := hout.2
            have p0 := hp' 0 (by omega)
            have p1 := hp' 1 (by omega)
            have p2 := hp' 2 (by omega)
            have p3 := hp' 3 (by omega)
            rw [q_all_eq, q_all_eq]
            obtain rfl | rfl | rfl | rfl : u' = 0 ∨ u' = 1 ∨ u' = 2 ∨ u' = 3 := by omega
            all_goals (
              simp only [if_true, if_false, Nat.zero_ne_one, Nat.one_ne_zero] at p0 p1 p2 p3
              simp (decide := true) only [if_false, if_true] at p0 p1 p2 p3
              omega)
          rw [bov', if_pos hc0, hps, if_pos d]
          show _ = Int32.ofNat _ - 0
          rw [Int32.sub_zero, q_add]
      · rw [if_neg d] at e16 e17
        have hc0 : ¬ q_cnt (upd (q_P D) (b.2 / 2) (Int32.ofNat 4)) (Int32.ofNat u') = 0 := by omega
        obtain ⟨u2, x1, x2, x3⟩ := k_tu hK'
        have p'1 : (if q_cnt (q_P F3) (Int32.ofNat u') = 1 then 2 else 1) = 1 := by rw [hP3, if_neg d]
        rw [p'1] at hK' x3
        rw [if_pos rfl, e17] at x3
        obtain rfl : (u' + 1) % 4 = u2 := q_ofN (by omega) (by omega) x3
        obtain ⟨M, o1, o2⟩ := q29 (K := 44) hN rfl hK' x1 x2 (r := 0) (fun _ => by omega) ((k_ro hK').symm.trans e11) (w := 0) (by omega)
        have hall' : q_all (q_cnt (q_P D')) ≤ 9 := by rw [(o_all hup).1]; omega
        have ev : q_on 44 D' (n + 1) 1 (q_T1 (b.2 % 2) n (b.2 / 2) T) (q_V1 (b.2 % 2) n (b.2 / 2) T V) ((u' + 1) % 4) 0 0 = q_op 43 (upd (q_P D) (b.2 / 2) (Int32.ofNat 4)) (q_l1' (q_e0 V T) b.2) (q_r1' (q_e1 n V T) b.2) ((u' + 1) % 4) 0 := by
          unfold q_on
          rw [if_pos ⟨rfl, hall'⟩, if_pos rfl, q0, q1]
          exact (o_op 43 44 _ _ _ _ _ 0 (fun t h => (hup t h).symm) hw5 (by omega) (by omega) (by omega) (by omega)).symm
        rw [ev] at o1
        refine ⟨(q_op 43 (upd (q_P D) (b.2 / 2) (Int32.ofNat 4)) (q_l1' (q_e0 V T) b.2) (q_r1' (q_e1 n V T) b.2) ((u' + 1) % 4) 0, M), ?_, q_Y3_E o2, ?_⟩
        · rw [if_pos (show D'.1 1 6 = 1 from e16), show m29 N D' (0 : Int32) = _ from o1, Option.bind_some, w_inl, Option.bind_some]
        · rw [bov', if_neg hc0, if_neg d, Nat.add_zero, Int32.sub_eq_add_neg]; rfl
    have gI2 := u_E_I k2 gI
    obtain ⟨r', E', z1, z2, z3, z4, z5, -⟩ := u_undo hI3.2.1 gI2 (u_sv_E gsv k2)
    refine ⟨E', by rw [← v1]; exact a1', ?_, z4, fun a ha => (z5 a ha).trans (hF3.1 a (by omega))⟩
    rw [if_neg (show ¬ (1 : Int32) = 0 by decide), if_neg (q_nm (by omega)), c1', Option.bind_some, w_inl, Option.bind_some]
    dsimp only
    rw [d1', Option.bind_some, w_inl, Option.bind_some]
    dsimp only
    rw [w28g hN hK3 hu ht he hft hw h161, Option.bind_some, w_inl, Option.bind_some, w18p F3 ht, Option.bind_some, w_inl, Option.bind_some, w_lt, hz, if_neg (show ¬ (1 : Int32) = 0 by decide), w_lt, w23 F3 hu ht he, w_inl, Option.bind_some, if_pos c, g1', Option.bind_some, w_inl, Option.bind_some]
    dsimp only
    rw [w22_0, Option.bind_some, w_inl, Option.bind_some, k1, Option.bind_some, if_pos k3, z1, Option.bind_some, w_inl, Option.bind_some, if_neg (show ¬ Int32.ofNat r' < 0 from q_nlt (a := 0) (by omega) (by omega)), Option.bind_some]
end WC
