/-! ahead: a lay, a pass, open hands -/
section WB
variable {D E F G : am_D} {N : Nat} {n p : Nat} {T V : Nat → Nat}
/-- as it was, but for scratch and the ring -/
def u_J (D E : am_D) : Prop := u_I E ∧ ∀ a, a ≤ 22 → E.1 a = D.1 a
theorem u_J_E (hI : u_I D) (h : q_E D E) : u_J D E := ⟨u_E_I h hI, fun a ha => h.1 a (by omega)⟩
theorem w23 (D : am_D) {u t e : Nat} (hu : u < 4) (ht : t < 28) (he : e < 2) : m23 D (Int32.ofNat u) (Int32.ofNat t) (Int32.ofNat e) = Sum.inl (m220 D (Int32.ofNat u) (Int32.ofNat t) (Int32.ofNat e)) := by
  unfold m23
  rw [if_neg (q_m40 hu), if_neg (by rw [q_m41 ht]; decide), if_neg (q_m43 he)]
theorem w219 {a b c : Int32} (h : m220 D a b c = 0) : ¬ m219 D = 0 := by
  unfold m220 at h
  repeat' split at h
  all_goals first | assumption | exact absurd h (by decide)
theorem w22u (D : am_D) {u : Nat} (hu : u < 4) : m22 N D ((7 : Int32) + ((Int32.ofNat u) - (Int32.ofNat u) / (2 : Int32) * (2 : Int32))) = some (Sum.inl (D.1 11 (u % 2))) := by
  rw [show (Int32.ofNat u) - (Int32.ofNat u) / (2 : Int32) * (2 : Int32) = Int32.ofNat (u % 2) from q_mod (b := 2) (by omega) (by omega)]
  obtain h | h : u % 2 = 0 ∨ u % 2 = 1 := by omega
  · rw [h]; exact w22_7 D
  · rw [h]; exact w22_8 D
theorem w_md4 {u : Nat} (hu : u < 4) : (((Int32.ofNat u) + (1 : Int32)) - ((Int32.ofNat u) + (1 : Int32)) / (4 : Int32) * (4 : Int32)) = Int32.ofNat ((u + 1) % 4) := by
  rw [show Int32.ofNat u + 1 = Int32.ofNat (u + 1) from q_add u 1]
  exact q_mod (b := 4) (by omega) (by omega)
theorem a_ah1 (hN : 2000 ≤ N) (hI : u_I D) (hK : q_K D n 1 T V) (hX : u_X (q_c D 1) n 1 T V) {u t e : Nat} (hu : u < 4) (ht : t < 28) (he : e < 2) (h : u_ft D u t e) : ∃ E, (am_lt (m23 D (Int32.ofNat u) (Int32.ofNat t) (Int32.ofNat e)) fun q36 => ((am_inl q36).bind fun x38 => (if x38 = 0 then ((m28 N D (Int32.ofNat u) (Int32.ofNat t) (Int32.ofNat e) (0 : Int32)).bind fun q41 => ((am_inl q41).bind fun x43 => ((m28 N D (Int32.ofNat u) (Int32.ofNat t) (Int32.ofNat e) (1 : Int32)).bind fun q45 => ((am_inl q45).bind fun x47 => ((m28 N D (Int32.ofNat u) (Int32.ofNat t) (Int32.ofNat e) (2 : Int32)).bind fun q49 => ((am_inl q49).bind fun x51 => ((m22 N D ((7 : Int32) + ((Int32.ofNat u) - (Int32.ofNat u) / (2 : Int32) * (2 : Int32)))).bind fun q53 => ((am_inl q53).bind fun x55 => ((m21 N D (Int32.ofNat u) (0 : Int32)).bind fun q57 => ((am_inl q57.1).bind fun x59 => (((if (1 : Int32) = 0 then (some ((0 : Int32), q57.2)) else ((m22 N q57.2 (15 : Int32)).bind fun q65 => ((am_inl q65).bind fun x67 => (if x67 = (1 : Int32) then ((n5 N q57.2 (Int32.ofNat u) (Int32.ofNat t) (Int32.ofNat e)).bind fun q70 => ((am_inl q70.1).bind fun x72 => (if x72 = x43 then ((m22 N q70.2 ((7 : Int32) + ((Int32.ofNat u) - (Int32.ofNat u) / (2 : Int32) * (2 : Int32)))).bind fun q75 => ((am_inl q75).bind fun x77 => (if x77 = (x55 + x43) then ((m22 N q70.2 (6 : Int32)).bind fun q80 => ((am_inl q80).bind fun x82 => (if x82 = x47 then ((m22 N q70.2 (12 : Int32)).bind fun q85 => ((am_inl q85).bind fun x87 => (if x87 = 0 then (if x59 = (1 : Int32) then ((m22 N q70.2 (0 : Int32)).bind fun q91 => ((am_inl q91).bind fun x93 => (am_lt (if x93 = (2 : Int32) then (1 : Int32) else (0 : Int32)) fun q95 => (am_lt (if x59 = (1 : Int32) then (1 : Int32) else (0 : Int32)) fun q99 => (if q95 = q99 then (if x59 = (1 : Int32) then ((n17 q70.2).bind fun q105 => ((am_inl q105.1).bind fun x107 => (if x107 < 0 then (some ((0 : Int32), q105.2)) else (some ((1 : Int32), q105.2))))) else ((m22 N q70.2 (1 : Int32)).bind fun q110 => ((am_inl q110).bind fun x112 => (if x112 = (((Int32.ofNat u) + (1 : Int32)) - ((Int32.ofNat u) + (1 : Int32)) / (4 : Int32) * (4 : Int32)) then ((n17 q70.2).bind fun q115 => ((am_inl q115.1).bind fun x117 => (if x117 < 0 then (some ((0 : Int32), q115.2)) else (some ((1 : Int32), q115.2))))) else (some ((0 : Int32), q70.2)))))) else (some ((0 : Int32), q70.2))))))) else ((m21 N q70.2 (((Int32.ofNat u) + (1 : Int32)) - ((Int32.ofNat u) + (1 : Int32)) / (4 : Int32) * (4 : Int32)) (4 : Int32)).bind fun q120 => ((am_inl q120.1).bind fun x122 => (if x122 = x51 then ((m22 N q120.2 (0 : Int32)).bind fun q125 => ((am_inl q125).bind fun x127 => (am_lt (if x127 = (2 : Int32) then (1 : Int32) else (0 : Int32)) fun q129 => (am_lt (if x59 = (1 : Int32) then (1 : Int32) else (0 : Int32)) fun q133 => (if q129 = q133 then (if x59 = (1 : Int32) then ((n17 q120.2).bind fun q139 => ((am_inl q139.1).bind fun x141 => (if x141 < 0 then (some ((0 : Int32), q139.2)) else (some ((1 : Int32), q139.2))))) else ((m22 N q120.2 (1 : Int32)).bind fun q144 => ((am_inl q144).bind fun x146 => (if x146 = (((Int32.ofNat u) + (1 : Int32)) - ((Int32.ofNat u) + (1 : Int32)) / (4 : Int32) * (4 : Int32)) then ((n17 q120.2).bind fun q149 => ((am_inl q149.1).bind fun x151 => (if x151 < 0 then (some ((0 : Int32), q149.2)) else (some ((1 : Int32), q149.2))))) else (some ((0 : Int32), q120.2)))))) else (some ((0 : Int32), q120.2))))))) else (some ((0 : Int32), q120.2)))))) else (some ((0 : Int32), q70.2))))) else (some ((0 : Int32), q70.2))))) else (some ((0 : Int32), q70.2))))) else (some ((0 : Int32), q70.2))))) else (some ((0 : Int32), q57.2))))))).bind fun q61 => (some (q61.1, q61.2))))))))))))) else (some ((1 : Int32), D))))) = some (1, E) ∧ u_J D E := by
  rw [w_lt, w23 D hu ht he, w_inl, Option.bind_some]
  by_cases c : m220 D (Int32.ofNat u) (Int32.ofNat t) (Int32.ofNat e) = 0
  · obtain ⟨w, D', hw, h161, ⟨g1, gI, gsv, -⟩, hK', r1, r7, r11, -⟩ := a_lay hN hI hK hX hu ht he c
    obtain ⟨-, -, hP, hf⟩ := q220z hK hu ht c
    have hf28 := k_n28 hK
    have hP7 : D.1 7 t = Int32.ofNat u := (k_pl hK t ht).trans hP
    have g1' : n5 N D (Int32.ofNat u) (Int32.ofNat t) (Int32.ofNat e) = some (Sum.inl (Int32.ofNat (q_gain D u w)), D') := g1
    obtain ⟨r', E', z1, z2, z3, z4, z5, -⟩ := u_undo hI.2.1 gI gsv
    have hcn : q_cnt (D.1 7) (Int32.ofNat u) = q_cnt (q_P D) (Int32.ofNat u) := q_cnt_congr (k_pl hK)
    have hnt : ∀ k, k < n → T k ≠ t := fun k hk q => by
      have := (k_in hK t ht).mpr ⟨k, hk, q⟩
      rw [hP] at this
      have := q_ofN (by omega) (by omega) this
      omega
    have hn : n ≤ 27 := q_n27 ht (fun k hk => (k_k hK k hk).1) (k_inj hK) hnt
    have e160 : m160 D' = Int32.ofNat w := (q_sum1 hK ht he hn hf hK'.1).trans h161
    have e11 : D'.1 11 (u % 2) = D.1 11 (u % 2) + Int32.ofNat (q_gain D u w) := by rw [r11, if_pos rfl]
    have e12 : D'.1 1 11 = 0 := by rw [r1, if_neg (by omega), if_neg (by omega), if_neg (by omega), if_pos rfl]
    have e16 : D'.1 1 6 = if q_cnt (q_P D) (Int32.ofNat u) = 1 then Int32.ofNat 2 else Int32.ofNat 1 := by rw [r1, if_neg (by omega), if_pos rfl]
    have e17 : D'.1 1 7 = if q_cnt (q_P D) (Int32.ofNat u) = 1 then q_nn else Int32.ofNat ((u + 1) % 4) := by rw [r1, if_pos rfl]
    have hcl := q_cnt_le (q_P D) (Int32.ofNat u)
    refine ⟨E', ?_, z4, z5⟩
    rw [if_pos c, w28g hN hK hu ht he h hw h161, Option.bind_some, w_inl, Option.bind_some, w28o hu ht he h, Option.bind_some, w_inl, Option.bind_some, w28f hN hu ht he h, Option.bind_some, w_inl, Option.bind_some, w22u D hu, Option.bind_some, w_inl, Option.bind_some, w21c hN D hu, Option.bind_some, w_inl, Option.bind_some, if_neg (show ¬ (1 : Int32) = 0 by decide)]
    dsimp only
    rw [w22_15, if_neg (w219 c), Option.bind_some, w_inl, Option.bind_some, if_pos rfl, g1', Option.bind_some, w_inl, Option.bind_some, if_pos rfl]
    dsimp only
    rw [w22u D' hu, Option.bind_some, w_inl, Option.bind_some, if_pos e11, w22_6, Option.bind_some, w_inl, Option.bind_some, if_pos (e160.trans h161.symm), w22_12, Option.bind_some, w_inl, Option.bind_some, if_pos e12, hcn]
    by_cases d : q_cnt (q_P D) (Int32.ofNat u) = 1
    · have d' : Int32.ofNat (q_cnt (q_P D) (Int32.ofNat u)) = (1 : Int32) := by rw [d]; rfl
      rw [if_pos d] at e16
      rw [if_pos d', w22_0, Option.bind_some, w_inl, Option.bind_some, w_lt, w_lt, if_pos (show D'.1 1 6 = (2 : Int32) from e16), if_pos d', if_pos rfl, if_pos d', z1, Option.bind_some, w_inl, Option.bind_some, if_neg (show ¬ Int32.ofNat r' < 0 from q_nlt (a := 0) (by omega) (by omega)), Option.bind_some]
    · have d' : ¬ Int32.ofNat (q_cnt (q_P D) (Int32.ofNat u)) = (1 : Int32) := fun q => d (q_ofN (b := 1) (by omega) (by omega) q)
      rw [if_neg d] at e16 e17
      have hfit := o_fit hK hK' hu ht he hf r7 hP7
      rw [if_neg d', w_md4 hu, w21f hN D' (by omega), Option.bind_some, w_inl, Option.bind_some, if_pos (by rw [hfit])]
      dsimp only
      rw [w22_0, Option.bind_some, w_inl, Option.bind_some, w_lt, w_lt, if_neg (show ¬ D'.1 1 6 = (2 : Int32) by rw [e16]; decide), if_neg d', if_pos rfl, if_neg d', w22_1, Option.bind_some, w_inl, Option.bind_some, if_pos e17, z1, Option.bind_some, w_inl, Option.bind_some, if_neg (show ¬ Int32.ofNat r' < 0 from q_nlt (a := 0) (by omega) (by omega)), Option.bind_some]
  · rw [if_neg c]
    exact ⟨D, rfl, hI, fun _ _ => rfl⟩
theorem a_ah2 (hN : 2000 ≤ N) (hI : u_I D) {u : Nat} (hu : u < 4) : ∃ E, (if (1 : Int32) = 0 then (some ((1 : Int32), D)) else ((m21 N D (Int32.ofNat u) (8 : Int32)).bind fun q158 => ((am_inl q158.1).bind fun x160 => (if x160 = 0 then ((n6 N q158.2 (Int32.ofNat u)).bind fun q163 => ((am_inl q163.1).bind fun x165 => ((m22 N q163.2 (12 : Int32)).bind fun q167 => ((am_inl q167).bind fun x169 => (((if x169 = x165 then ((m22 N q163.2 (0 : Int32)).bind fun q175 => ((am_inl q175).bind fun x177 => (am_lt (if x177 = (2 : Int32) then (1 : Int32) else (0 : Int32)) fun q179 => (am_lt (if x165 = (4 : Int32) then (1 : Int32) else (0 : Int32)) fun q183 => (if q179 = q183 then ((n17 q163.2).bind fun q188 => ((am_inl q188.1).bind fun x190 => (if x190 < 0 then (some ((0 : Int32), q188.2)) else (some ((1 : Int32), q188.2))))) else (some ((0 : Int32), q163.2))))))) else (some ((0 : Int32), q163.2)))).bind fun q171 => (some (q171.1, q171.2))))))) else (some ((1 : Int32), q158.2)))))) = some (1, E) ∧ u_J D E := by
  obtain ⟨n, p, T, V, hK, hX⟩ := u_K hI
  rw [if_neg (show ¬ (1 : Int32) = 0 by decide), w21p hN hK hu, Option.bind_some, w_inl, Option.bind_some]
  by_cases c : q_np D p u = 0
  · have h0 : m221 N D (Int32.ofNat u) = some 0 := by rw [q221 hN hK hu, c]; rfl
    obtain ⟨r, D', hr, ⟨g1, gI, gsv, -⟩, e11, e16⟩ := a_pass hN hI hu h0
    have g1' : n6 N D (Int32.ofNat u) = some (Sum.inl (Int32.ofNat (r + 1)), D') := g1
    obtain ⟨r', E', z1, z2, z3, z4, z5, -⟩ := u_undo hI.2.1 gI gsv
    have hc2 : (if D'.1 1 6 = (2 : Int32) then (1 : Int32) else 0) = (if Int32.ofNat (r + 1) = (4 : Int32) then (1 : Int32) else 0) := by
      rw [e16]
      obtain rfl | rfl | rfl | rfl : r = 0 ∨ r = 1 ∨ r = 2 ∨ r = 3 := by omega
      all_goals rfl
    refine ⟨E', ?_, z4, z5⟩
    rw [if_pos (show Int32.ofNat (q_np D p u) = 0 by rw [c]; rfl), g1', Option.bind_some, w_inl, Option.bind_some]
    dsimp only
    rw [w22_12, Option.bind_some, w_inl, Option.bind_some, if_pos e11, w22_0, Option.bind_some, w_inl, Option.bind_some, w_lt, w_lt, if_pos hc2, z1, Option.bind_some, w_inl, Option.bind_some, if_neg (show ¬ Int32.ofNat r' < 0 from q_nlt (a := 0) (by omega) (by omega)), Option.bind_some]
  · refine ⟨D, ?_, hI, fun _ _ => rfl⟩
    have : q_np D p u ≤ 3 := by
      unfold q_np
      repeat' split
      all_goals omega
    rw [if_neg (show ¬ Int32.ofNat (q_np D p u) = 0 from fun q => c (q_ofN (b := 0) (by omega) (by omega) q))]
end WB
