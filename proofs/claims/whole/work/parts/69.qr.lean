/-! digest: the model, hands and after; the call -/
section QR
variable {D : am_D} {N n p K : Nat} {T V : Nat → Nat}
theorem q149_2 {Hd : Nat → Nat → Int32} (hH : ∀ x w, x < 4 → w < 10 → q_ha N D x w (Hd x w)) (hN : 2000 ≤ N) (hB : q_B D) (hK : q_K D n p T V) {E : am_D} {h : Int64} (hE : q_M D E h) : ∃ E', m149_L2 N N E 0 = some E' ∧ q_M D E' (q_H4 D Hd h) :=
  q_lpM (m149_L2 N) (fun x h => q_31 (q_31 (q_iH Hd x h) (Int32.ofNat (q_dv D (-1) (-1) x))) (Int32.ofNat (q_dv D (-1) (-1) x))) 4 (fun m E h _ => by rw [m149_L2, if_pos (show (4 : Int32) ≤ Int32.ofNat 4 by decide)]) (fun x m E h hx hE => by
    obtain ⟨E1, a1, a2⟩ := q_lpM (N := N) (D := D) (m149_L9 N (Int32.ofNat x)) (fun w h => q_31 h (Hd x w)) 10 (fun m E h _ => by rw [m149_L9, if_pos (show (10 : Int32) ≤ Int32.ofNat 10 by decide)]) (fun k m E h hk hE => by
      obtain ⟨E', b1, b2, b3⟩ := (hH x k hx hk).2 E hE.1
      refine ⟨_, ?_, q_M_x (h := h) ⟨b2, by rw [b3]; exact hE.2⟩ _⟩
      rw [m149_L9, if_neg (show ¬ (10 : Int32) ≤ Int32.ofNat k from q_nle (a := k) (b := 10) (by omega) (by omega)), b1, Option.bind_some]
      show m149_L9 N _ m _ (Int32.ofNat k + 1) = _
      rw [q_s1]) (by omega) hE 0 10 rfl
    obtain ⟨E2, c1, c2⟩ := q121' (r := -1) (h := -1) hN (q_E_B a2.1 hB) (q_E_K a2.1 hK) hx q_hr1
    rw [q_dv_cg (a2.1.1 107 (by omega))] at c1
    have hM2 : q_M D E2 (q_iH Hd x h) := q_M_E a2 (q_X_E c2) c2.2
    refine ⟨_, ?_, q_M_x (q_M_x hM2 (Int32.ofNat (q_dv D (-1) (-1) x))) (Int32.ofNat (q_dv D (-1) (-1) x))⟩
    have a1' : m149_L9 N (Int32.ofNat x) N E 0 = _ := a1
    rw [m149_L2, if_neg (show ¬ (4 : Int32) ≤ Int32.ofNat x from q_nle (a := x) (b := 4) (by omega) hx), a1', Option.bind_some, c1, Option.bind_some]
    show m149_L2 N m _ (Int32.ofNat x + 1) = _
    rw [q_s1]) (by omega) hE 0 4 rfl
theorem q149_60 (hN : 2000 ≤ N) (hB : q_B D) (hK : q_K D n p T V) {E : am_D} {h : Int64} (hE : q_M D E h) : ∃ E', m149_L60 N N E 1 = some E' ∧ q_M D E' (q_iF (q_F5 D) 1 3 h) :=
  q_lpM (m149_L60 N) (q_F5 D) 4 (fun m E h _ => by rw [m149_L60, if_pos (show (4 : Int32) ≤ Int32.ofNat 4 by decide)]) (fun x m E h hx hE => by
    obtain ⟨E1, a1, a2⟩ := q124 (x := 0) (t := 0) hN (q_E_B hE.1 hB) (q_E_K hE.1 hK) (by omega) hx (by omega)
    rw [q_hv_cg (hE.1.1 107 (by omega))] at a1
    have hM1 := q_M_x (q_M_E hE (q_X_E a2) a2.2) (Int32.ofNat (q_hv D 0 x 0))
    obtain ⟨E2, b1, b2⟩ := q124 (x := 0) (t := 13) hN (q_E_B hM1.1 hB) (q_E_K hM1.1 hK) (by omega) hx (by omega)
    rw [q_hv_cg (hM1.1.1 107 (by omega))] at b1
    have hM2 := q_M_x (q_M_E hM1 (q_X_E b2) b2.2) (Int32.ofNat (q_hv D 0 x 13))
    obtain ⟨E3, c1, c2⟩ := q124 (x := 0) (t := 27) hN (q_E_B hM2.1 hB) (q_E_K hM2.1 hK) (by omega) hx (by omega)
    rw [q_hv_cg (hM2.1.1 107 (by omega))] at c1
    have hM3 := q_M_x (q_M_E hM2 (q_X_E c2) c2.2) (Int32.ofNat (q_hv D 0 x 27))
    refine ⟨_, ?_, hM3⟩
    have a1' : m124 N E 0 (Int32.ofNat x) 0 = _ := a1
    have b1' : m124 N (m146 E1 (Int32.ofNat (q_hv D 0 x 0)).toInt64) 0 (Int32.ofNat x) 13 = _ := b1
    have c1' : m124 N (m146 E2 (Int32.ofNat (q_hv D 0 x 13)).toInt64) 0 (Int32.ofNat x) 27 = _ := c1
    rw [m149_L60, if_neg (show ¬ (4 : Int32) ≤ Int32.ofNat x from q_nle (a := x) (b := 4) (by omega) hx), a1', Option.bind_some]
    dsimp only [am_lt]
    rw [b1', Option.bind_some]
    dsimp only [am_lt]
    rw [c1', Option.bind_some]
    show m149_L60 N m _ (Int32.ofNat x + 1) = _
    rw [q_s1]) (by omega) hE 1 3 rfl
theorem q149_111 (hN : 2000 ≤ N) (hB : q_B D) (hK : q_K D n p T V) {E : am_D} {h : Int64} (hE : q_M D E h) : ∃ E', m149_L111 N N E 0 = some E' ∧ q_M D E' (q_iF (q_F6 D) 0 4 h) :=
  q_lpM (m149_L111 N) (q_F6 D) 4 (fun m E h _ => by rw [m149_L111, if_pos (show (4 : Int32) ≤ Int32.ofNat 4 by decide)]) (fun x m E h hx hE => by
    obtain ⟨E1, a1, a2⟩ := q126 (x := 1) (h := x) hN (q_E_B hE.1 hB) (q_E_K hE.1 hK) (by omega) hx
    rw [q_su_cg (hE.1.1 107 (by omega))] at a1
    refine ⟨_, ?_, q_M_x (q_M_E hE (q_X_E a2) a2.2) (Int32.ofNat (q_su D 1 x))⟩
    have a1' : m126 N E 1 (Int32.ofNat x) = _ := a1
    rw [m149_L111, if_neg (show ¬ (4 : Int32) ≤ Int32.ofNat x from q_nle (a := x) (b := 4) (by omega) hx), a1', Option.bind_some]
    show m149_L111 N m _ (Int32.ofNat x + 1) = _
    rw [q_s1]) (by omega) hE 0 4 rfl
theorem q149 {Hd : Nat → Nat → Int32} (hH : ∀ x w, x < 4 → w < 10 → q_ha N D x w (Hd x w)) (hN : 2000 ≤ N) (hB : q_B D) (hK : q_K D n p T V) {E : am_D} {h : Int64} (hE : q_M D E h) : ∃ E', m149 N E = some E' ∧ q_M D E' (q_H5 D (q_H4 D Hd h)) := by
  obtain ⟨E1, a1, a2⟩ := q149_2 hH hN hB hK hE
  obtain ⟨E2, b1, b2⟩ := q149_60 hN hB hK a2
  obtain ⟨E3, c1, c2⟩ := q149_111 hN hB hK b2
  refine ⟨E3, ?_, c2⟩
  unfold m149
  rw [a1, Option.bind_some, b1, Option.bind_some, c1, Option.bind_some]
theorem q150_124 (hN : 2000 ≤ N) (hK44 : K = 44) (hC : q_Cc K ≤ N) (hB : q_B D) (hK : q_K D n p T V) {u r : Nat} (hu4 : u < 4) (hu : D.1 107 1 = Int32.ofNat u) (hr3 : p = 1 → r ≤ 3) (hr : D.1 107 4 = Int32.ofNat r) {E : am_D} {h : Int64} (hE : q_M D E h) : ∃ E', m150_L124 N N E 0 = some E' ∧ q_M D E' (q_H6 K D n p T V u r h) :=
  q_lpM (m150_L124 N) (fun w h => q_31 h (q_on K D n p T V u r w)) 3 (fun m E h _ => by rw [m150_L124, if_pos (show (3 : Int32) ≤ Int32.ofNat 3 by decide)]) (fun w m E h hw hE => by
    obtain ⟨E1, a1, a2⟩ := q142 (w := w) hN hK44 hC (q_E_B hE.1 hB) (q_E_K hE.1 hK) hu4 ((by rw [hE.1.1 107 (by omega)]; exact hu)) hr3 (by rw [hE.1.1 107 (by omega)]; exact hr) hw
    rw [q_on_cg (hE.1.1 107 (by omega))] at a1
    refine ⟨_, ?_, q_M_x (q_M_E hE (q_Z_E a2) a2.2.2.2) _⟩
    rw [m150_L124, if_neg (show ¬ (3 : Int32) ≤ Int32.ofNat w from q_nle (a := w) (b := 3) (by omega) hw), a1, Option.bind_some]
    show m150_L124 N m _ (Int32.ofNat w + 1) = _
    rw [q_s1]) (by omega) hE 0 3 rfl
theorem q150_199 (hN : 2000 ≤ N) {l : Nat} {tx : Nat → Nat} (hT : q_T D l tx) {E : am_D} {h : Int64} (hE : q_M D E h) : ∃ E', m150_L199 N N E 0 = some E' ∧ q_M D E' (q_iF (fun k h => q_31 h (Int32.ofNat (tx k))) 0 l h) := by
  obtain ⟨t1, t2, t3, t4⟩ := hT
  have hl : ∀ E h, q_M D E h → E.1 106 5 = Int32.ofNat l := fun E h hE => hE.1.2.1.2.2.trans t3
  exact q_lpM (m150_L199 N) _ l (fun m E h hE => by rw [m150_L199, hl E h hE, if_pos (show Int32.ofNat l ≤ Int32.ofNat l from q_yle (by omega) (Nat.le_refl _))]) (fun k m E h hk hE => by
    refine ⟨_, ?_, q_M_x hE _⟩
    rw [m150_L199, hl E h hE, if_neg (show ¬ Int32.ofNat l ≤ Int32.ofNat k from q_nle (by omega) hk), if_pos (show 0 ≤ Int32.ofNat k ∧ Int32.ofNat k < 60 from q_in (n := 60) (by omega) (by omega)), q_tn (by omega), hE.1.1 108 (by omega), (t4 k hk).2.1]
    show m150_L199 N m _ (Int32.ofNat k + 1) = _
    rw [q_s1]) (by omega) hE 0 l (by omega)
theorem q_ifL (P : Prop) [Decidable P] : (if P then Int64.ofNat 0 else Int64.ofNat 1) = (if P then (0 : Int32) else 1).toInt64 := by split <;> rfl
theorem q150 (hF1 : q_F1) (hN : 2000 ≤ N) (hK44 : K = 44) (hC : q_Cc K ≤ N) (hI : q_I D) (hK : q_K D n p T V) {Hd : Nat → Nat → Int32} (hH : ∀ x w, x < 4 → w < 10 → q_ha N D x w (Hd x w)) {u r : Nat} (hu4 : u < 4) (hu : D.1 107 1 = Int32.ofNat u) (hr3 : p = 1 → r ≤ 3) (hr : D.1 107 4 = Int32.ofNat r) {y : Int64} (hy : ∀ E : am_D, m147 N E (q_lv D 2 3 6) = some y) {z : Int32} (hz : ∀ E : am_D, m148 N E (q_mn (q_all (q_pips (q_P D))) (q_all (q_cnt (q_P D)))) = some z) {l : Nat} {tx : Nat → Nat} (hT : q_T D l tx) {E : am_D} (hE : q_E D E) : ∃ F, m150 N E = some (q_dg K D n p T V Hd u r y z tx l, F) ∧ q_E D F := by
  have hB := hI.1
  have hM0 : q_M D (am_uJ (am_uI E 106 0 0) 106 25 (Int64.ofNat 3793)) (Int64.ofNat 3793) := ⟨hE.tr ((q_hE E 0).tr (q_E_uJ (by omega))), rfl⟩
  obtain ⟨E1, a1, a2⟩ := q150_14 hN hB hK hM0
  obtain ⟨E2, b1, b2⟩ := q150_38 hN hB hK a2
  obtain ⟨E3, c1, c2⟩ := q150_77 hN hB hK b2
  obtain ⟨E4, d1, d2⟩ := q149 hH hN hB hK c2
  obtain ⟨E5, e1, e2⟩ := q150_124 hN hK44 hC hB hK hu4 hu hr3 hr d2
  obtain ⟨E6, f1, f2⟩ := q128 (x := 2) (h := 3) (t := 6) hF1 hN (q_E_B e2.1 hB) (q_E_K e2.1 hK) (by omega) (by omega) (by omega)
  rw [q_lv_cg (e2.1.1 107 (by omega))] at f1
  have f1' : m128 N E5 2 3 6 = _ := f1
  have hM6 := q_M_v (q_M_E e2 (q_X_E f2) f2.2) y
  have hM7 := q_M_x hM6 z
  have hM8 := q_M_x hM7 (if D.1 106 3 = 0 then 0 else 1)
  have hM9 := q_M_x hM8 (Int32.ofNat l)
  obtain ⟨E7, g1, g2⟩ := q150_199 hN hT hM9
  refine ⟨E7, ?_, g2.1⟩
  unfold m150
  simp only [am_lt]
  rw [a1, Option.bind_some, b1, Option.bind_some, c1, Option.bind_some, d1, Option.bind_some, e1, Option.bind_some, f1', Option.bind_some]
  dsimp only
  rw [hy, Option.bind_some, q144 hN (q_E_B hM6.1 hB) (q_E_K hM6.1 hK), Option.bind_some, q_E_P hM6.1, hz, Option.bind_some, hM7.1.2.1.2.1, q_ifL, hM8.1.2.1.2.2, hT.2.2.1, g1, Option.bind_some, g2.2]
  rfl
theorem g_digest (hF1 : q_F1) (hF2 : q_F2) (hF3 : q_F3) (hN : 2000 ≤ N) (hK44 : K = 44) (hC : q_Cc K ≤ N) (hI : q_I D) : ∃ x E F, m31 N D = some (x, E) ∧ m150 N E = some (x, F) ∧ q_I F := by
  obtain ⟨n, p, T, V, hK⟩ := q_I_K hI
  have hB := hI.1
  obtain ⟨u, hu4, hu, -⟩ := k_tu hK
  obtain ⟨r, hr4, hr3, hr⟩ := k_row hK
  obtain ⟨l, tx, hT⟩ := q_I_T hI
  obtain ⟨y, hy1, hy2⟩ := q_lvb hF2 hN hK (x := 2) (h := 3) (t := 6) (by omega)
  have ha := q_a168 (k_pw hK)
  have hb := q_part (k_pw hK)
  obtain ⟨hz0, z, hz1, hz2⟩ := hF3 N hN (q_all (q_pips (q_P D))) (by omega) (q_all (q_cnt (q_P D))) (by omega)
  have hex : ∀ x w, ∃ v, x < 4 → w < 10 → q_ha N D x w v := fun x w => by
    by_cases c : x < 4 ∧ w < 10
    · obtain ⟨v, hv⟩ := q_ha_ex hN hB hK c.1 c.2
      exact ⟨v, fun _ _ => hv⟩
    · exact ⟨0, fun h1 h2 => absurd ⟨h1, h2⟩ c⟩
  have hH : ∀ x w, x < 4 → w < 10 → q_ha N D x w ((fun x w => Classical.choose (hex x w)) x w) := fun x w => Classical.choose_spec (hex x w)
  obtain ⟨E, a1, a2⟩ := q31 hF1 hN hK44 hI hK hH hu4 hu hr3 hr hy1 hz0 hz1 hT
  obtain ⟨F, b1, b2⟩ := q150 hF1 hN hK44 hC hI hK hH hu4 hu hr3 hr hy2 hz2 hT a2
  exact ⟨_, E, F, a1, b1, q_E_I b2 hI⟩
end QR
