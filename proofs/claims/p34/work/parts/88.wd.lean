/-! ahead: the whole -/
section WD
variable {D E F G : am_D} {N : Nat} {n p : Nat} {T V : Nat → Nat}
theorem u_J.tr (h : u_J D E) (k : u_J E F) : u_J D F := ⟨k.1, fun a ha => (k.2 a ha).trans (h.2 a ha)⟩
theorem w_fit (hK : q_K D n 1 T V) {u t e : Nat} (hu : u < 4) (ht : t < 28) (he : e < 2) (h : u_ft D u t e) : ¬ q_fit D (Int32.ofNat u) = 0 := by
  intro q
  rw [q_fit_def, q_S_zero] at q
  have := q t (by omega) (by omega)
  obtain ⟨-, h2, h3⟩ := h
  have h159 : ¬ m159 D (Int32.ofNat t) = 0 := by
    rw [q159 hK ht]
    rw [q158 hK ht] at h3
    have hs : n = 0 ∨ q_sh t (m156 D (Int32.ofNat e)) := by
      by_cases c : n = 0 ∨ q_sh t (m156 D (Int32.ofNat e))
      · exact c
      · rw [if_neg c] at h3; exact absurd rfl h3
    have hs' : n = 0 ∨ q_sh t (D.1 2 5) ∨ q_sh t (D.1 2 6) := by
      rcases hs with hs | hs
      · exact Or.inl hs
      · obtain rfl | rfl : e = 0 ∨ e = 1 := by omega
        · exact Or.inr (Or.inl hs)
        · exact Or.inr (Or.inr hs)
    rw [if_pos hs']
    decide
  have this2 : (if D.1 7 t = Int32.ofNat u ∧ ¬ m159 D (Int32.ofNat t) = 0 then 1 else 0) = 0 := this
  rw [if_pos ⟨h2, h159⟩] at this2
  exact absurd this2 (by decide)
theorem lg_self (h : Int64) : lg_cmp h h = 0 := (q_cmp h h).mpr rfl
theorem a_ahead (hN : 2000 ≤ N) (hI : u_I D) (hp : D.1 1 6 = 1) (v : Int32) : ∃ E, m295 N D v = some (1, E) ∧ u_J D E := by
  obtain ⟨n, p, T, V, hK, hX⟩ := u_K hI
  obtain rfl : p = 1 := u_p hK (by omega) hp
  obtain ⟨u, hu, hu107, hu1⟩ := k_tu hK
  rw [if_pos rfl] at hu1
  obtain ⟨j, hj, ej⟩ := u_up v (m := 56) (by omega) (by omega)
  obtain ⟨h, l1, l2⟩ := a_looks hN hI
  obtain ⟨tm, htm, htm'⟩ := k_tw hK u hu
  have hnp : q_np D 1 u = if tm = 0 then 0 else if q_fit D (Int32.ofNat u) = 0 then 0 else 3 := by
    unfold q_np
    rw [if_pos rfl, if_pos hu107, htm']
    by_cases c : tm = 0
    · rw [if_pos c, if_pos (show Int32.ofNat tm ≤ Int32.ofNat 0 by rw [c]; decide)]
    · rw [if_neg c, if_neg (q_nle (by omega) (by omega))]
  have h8 : D.1 8 u = Int32.ofNat tm := by rw [k_ti hK u hu, htm']
  obtain ⟨q7, E1, b1, b2, b3⟩ : ∃ q7 E1, m291 N D (Int32.ofNat u) (Int32.ofNat j) = some q7 ∧ (((if q7 < 0 then (some ((1 : Int32), D)) else ((m21 N D (Int32.ofNat u) (2 : Int32)).bind fun q23 => ((am_inl q23.1).bind fun x25 => (if x25 = 0 then (some ((1 : Int32), q23.2)) else (some ((0 : Int32), q23.2))))))) = some ((if Int32.ofNat (q_np D 1 u) = 0 then (1 : Int32) else (0 : Int32)), D)) ∧ ((if q7 < 0 then (some ((1 : Int32), D)) else (am_lt (m23 D (Int32.ofNat u) (q7 / (2 : Int32)) (q7 - q7 / (2 : Int32) * (2 : Int32))) fun q36 => ((am_inl q36).bind fun x38 => (if x38 = 0 then ((m28 N D (Int32.ofNat u) (q7 / (2 : Int32)) (q7 - q7 / (2 : Int32) * (2 : Int32)) (0 : Int32)).bind fun q41 => ((am_inl q41).bind fun x43 => ((m28 N D (Int32.ofNat u) (q7 / (2 : Int32)) (q7 - q7 / (2 : Int32) * (2 : Int32)) (1 : Int32)).bind fun q45 => ((am_inl q45).bind fun x47 => ((m28 N D (Int32.ofNat u) (q7 / (2 : Int32)) (q7 - q7 / (2 : Int32) * (2 : Int32)) (2 : Int32)).bind fun q49 => ((am_inl q49).bind fun x51 => ((m22 N D ((7 : Int32) + ((Int32.ofNat u) - (Int32.ofNat u) / (2 : Int32) * (2 : Int32)))).bind fun q53 => ((am_inl q53).bind fun x55 => ((m21 N D (Int32.ofNat u) (0 : Int32)).bind fun q57 => ((am_inl q57.1).bind fun x59 => (((if (1 : Int32) = 0 then (some ((0 : Int32), q57.2)) else ((m22 N q57.2 (15 : Int32)).bind fun q65 => ((am_inl q65).bind fun x67 => (if x67 = (1 : Int32) then ((n5 N q57.2 (Int32.ofNat u) (q7 / (2 : Int32)) (q7 - q7 / (2 : Int32) * (2 : Int32))).bind fun q70 => ((am_inl q70.1).bind fun x72 => (if x72 = x43 then ((m22 N q70.2 ((7 : Int32) + ((Int32.ofNat u) - (Int32.ofNat u) / (2 : Int32) * (2 : Int32)))).bind fun q75 => ((am_inl q75).bind fun x77 => (if x77 = (x55 + x43) then ((m22 N q70.2 (6 : Int32)).bind fun q80 => ((am_inl q80).bind fun x82 => (if x82 = x47 then ((m22 N q70.2 (12 : Int32)).bind fun q85 => ((am_inl q85).bind fun x87 => (if x87 = 0 then (if x59 = (1 : Int32) then ((m22 N q70.2 (0 : Int32)).bind fun q91 => ((am_inl q91).bind fun x93 => (am_lt (if x93 = (2 : Int32) then (1 : Int32) else (0 : Int32)) fun q95 => (am_lt (if x59 = (1 : Int32) then (1 : Int32) else (0 : Int32)) fun q99 => (if q95 = q99 then (if x59 = (1 : Int32) then ((n17 q70.2).bind fun q105 => ((am_inl q105.1).bind fun x107 => (if x107 < 0 then (some ((0 : Int32), q105.2)) else (some ((1 : Int32), q105.2))))) else ((m22 N q70.2 (1 : Int32)).bind fun q110 => ((am_inl q110).bind fun x112 => (if x112 = (((Int32.ofNat u) + (1 : Int32)) - ((Int32.ofNat u) + (1 : Int32)) / (4 : Int32) * (4 : Int32)) then ((n17 q70.2).bind fun q115 => ((am_inl q115.1).bind fun x117 => (if x117 < 0 then (some ((0 : Int32), q115.2)) else (some ((1 : Int32), q115.2))))) else (some ((0 : Int32), q70.2)))))) else (some ((0 : Int32), q70.2))))))) else ((m21 N q70.2 (((Int32.ofNat u) + (1 : Int32)) - ((Int32.ofNat u) + (1 : Int32)) / (4 : Int32) * (4 : Int32)) (4 : Int32)).bind fun q120 => ((am_inl q120.1).bind fun x122 => (if x122 = x51 then ((m22 N q120.2 (0 : Int32)).bind fun q125 => ((am_inl q125).bind fun x127 => (am_lt (if x127 = (2 : Int32) then (1 : Int32) else (0 : Int32)) fun q129 => (am_lt (if x59 = (1 : Int32) then (1 : Int32) else (0 : Int32)) fun q133 => (if q129 = q133 then (if x59 = (1 : Int32) then ((n17 q120.2).bind fun q139 => ((am_inl q139.1).bind fun x141 => (if x141 < 0 then (some ((0 : Int32), q139.2)) else (some ((1 : Int32), q139.2))))) else ((m22 N q120.2 (1 : Int32)).bind fun q144 => ((am_inl q144).bind fun x146 => (if x146 = (((Int32.ofNat u) + (1 : Int32)) - ((Int32.ofNat u) + (1 : Int32)) / (4 : Int32) * (4 : Int32)) then ((n17 q120.2).bind fun q149 => ((am_inl q149.1).bind fun x151 => (if x151 < 0 then (some ((0 : Int32), q149.2)) else (some ((1 : Int32), q149.2))))) else (some ((0 : Int32), q120.2)))))) else (some ((0 : Int32), q120.2))))))) else (some ((0 : Int32), q120.2)))))) else (some ((0 : Int32), q70.2))))) else (some ((0 : Int32), q70.2))))) else (some ((0 : Int32), q70.2))))) else (some ((0 : Int32), q70.2))))) else (some ((0 : Int32), q57.2))))))).bind fun q61 => (some (q61.1, q61.2))))))))))))) else (some ((1 : Int32), D)))))) = some (1, E1) ∧ u_J D E1) := by
    rcases u_choice hN hK hu hj with ⟨c1, c2⟩ | ⟨e, e56, c1, c2⟩
    · refine ⟨-1, D, c1, ?_, ?_, hI, fun _ _ => rfl⟩
      · rw [if_pos (by decide), hnp, u_nofit hK rfl c2, if_pos rfl, ite_self]
        rfl
      · rw [if_pos (by decide)]
    · obtain ⟨E1, a1, a2⟩ := a_ah1 hN hI hK hX hu (t := e / 2) (e := e % 2) (by omega) (by omega) c1
      have ed : Int32.ofNat e / (2 : Int32) = Int32.ofNat (e / 2) := q_div (b := 2) (by omega) (by omega)
      have em : Int32.ofNat e - Int32.ofNat e / (2 : Int32) * (2 : Int32) = Int32.ofNat (e % 2) := q_mod (b := 2) (by omega) (by omega)
      have hneg : ¬ Int32.ofNat e < 0 := q_nlt (a := 0) (by omega) (by omega)
      refine ⟨Int32.ofNat e, E1, c2, ?_, ?_, a2⟩
      · rw [if_neg hneg, w21t D hu, Option.bind_some, w_inl, Option.bind_some, h8, hnp, if_neg (w_fit hK hu (by omega) (by omega) c1)]
        by_cases c : tm = 0
        · rw [if_pos (show Int32.ofNat tm = 0 by rw [c]; rfl), if_pos c]; rfl
        · rw [if_neg (show ¬ Int32.ofNat tm = 0 from fun q => c (q_ofN (b := 0) (by omega) (by omega) q)), if_neg c]; rfl
      · rw [if_neg hneg, em, ed]
        exact a1
  obtain ⟨E2, d1, d2⟩ := a_ah2 hN b3.2.1 hu
  obtain ⟨b3, hJ1⟩ := b3
  have hJ2 := hJ1.tr d2
  obtain ⟨x195, F, E3, f1, f2, f3⟩ := a_ah3 hN hJ2.1 (by rw [hJ2.2 1 (by omega)]; exact hp) hu (by rw [hJ2.2 1 (by omega)]; exact hu1)
  have hJ3 := hJ2.tr f3
  have l3 := l2 E3 hJ3.2
  refine ⟨E3, ?_, hJ3⟩
  unfold m295
  rw [w22_1, Option.bind_some, w_inl, Option.bind_some, hu1, show m289 v (56 : Int32) = _ from ej, Option.bind_some, b1, Option.bind_some, l1, Option.bind_some]
  dsimp only
  rw [w21p hN hK hu, Option.bind_some, w_inl, Option.bind_some, w_lt]
  dsimp only
  rw [b2, Option.bind_some, w_lt, if_pos rfl]
  dsimp only
  rw [b3, Option.bind_some]
  dsimp only
  rw [d1, Option.bind_some]
  dsimp only
  rw [f1, Option.bind_some, w_inl, Option.bind_some]
  dsimp only
  rw [f2, Option.bind_some, if_neg (show ¬ (1 : Int32) = 0 by decide), l3, Option.bind_some, if_pos (lg_self h)]
end WD
