/-! digest: the class whole; the model's parts -/
section QP
variable {D : am_D} {N n p K : Nat} {T V : Nat → Nat}
def q_F2 : Prop := ∀ N, 2000 ≤ N → ∀ a b : Nat, a ≤ b → b ≤ 399072960 → b ≠ 0 → ∃ x : Int64, (∀ D : am_D, m36 N D (FP.ddiv (FP.i2d (Int32.ofNat a)) (FP.i2d (Int32.ofNat b))) 52 1023 = some x) ∧ ∀ D : am_D, m147 N D (FP.ddiv (FP.i2d (Int32.ofNat a)) (FP.i2d (Int32.ofNat b))) = some x
def q_F3 : Prop := ∀ N, 2000 ≤ N → ∀ a, a < 169 → ∀ b, b < 29 → FP.f2d (q_mn a b) &&& 0x7fffffffffffffff ≤ 0x7ff0000000000000 ∧ ∃ x : Int32, (∀ D : am_D, m36 N D (FP.f2d (q_mn a b)) 23 127 = some x.toInt64) ∧ ∀ D : am_D, m148 N D (q_mn a b) = some x
theorem q_lvb (hF : q_F2) (hN : 2000 ≤ N) (hK : q_K D n p T V) {x h t : Nat} (hx : x < 4) : ∃ y : Int64, (∀ E : am_D, m36 N E (q_lv D x h t) 52 1023 = some y) ∧ ∀ E : am_D, m147 N E (q_lv D x h t) = some y := by
  unfold q_lv
  by_cases c : q_dv D (-1) (-1) x = 0
  · rw [if_pos c]
    refine ⟨Int64.ofNat 0, fun E => ?_, fun E => ?_⟩
    · unfold m36
      rw [if_neg (show ¬ 0 < Op.cmpValue (FP.dcmp FP.dconst0 FP.dconst0) .g by decide +kernel)]
    · unfold m147
      rw [if_pos (show Op.cmpValue (FP.dcmp FP.dconst0 FP.dconst0) .l = 0 by decide +kernel)]
  · rw [if_neg c]
    exact hF N hN _ _ (q_hv_all x h t) (q_dv_le hK hx (-1) (-1)) c
/-- the number of a game, as both make it -/
noncomputable def q_dg (K : Nat) (D : am_D) (n p : Nat) (T V : Nat → Nat) (Hd : Nat → Nat → Int32) (u r : Nat) (y : Int64) (z : Int32) (tx : Nat → Nat) (l : Nat) : Int64 := q_H8 tx l (q_31 (q_31 (Int64.ofNat 31 * q_H6 K D n p T V u r (q_H5 D (q_H4 D Hd (q_H3 D n T V (q_H2 D n T (q_H1 D p (Int64.ofNat 3793)))))) + y) z) (if D.1 106 3 = 0 then 0 else 1))
theorem q31 (hF1 : q_F1) (hN : 2000 ≤ N) (hK44 : K = 44) (hI : q_I D) (hK : q_K D n p T V) {Hd : Nat → Nat → Int32} (hH : ∀ x w, x < 4 → w < 10 → q_ha N D x w (Hd x w)) {u r : Nat} (hu4 : u < 4) (hu : D.1 107 1 = Int32.ofNat u) (hr3 : p = 1 → r ≤ 3) (hr : D.1 107 4 = Int32.ofNat r) {y : Int64} (hy : ∀ E : am_D, m36 N E (q_lv D 2 3 6) 52 1023 = some y) {z : Int32} (hz0 : FP.f2d (q_mn (q_all (q_pips (q_P D))) (q_all (q_cnt (q_P D)))) &&& 0x7fffffffffffffff ≤ 0x7ff0000000000000) (hz : ∀ E : am_D, m36 N E (FP.f2d (q_mn (q_all (q_pips (q_P D))) (q_all (q_cnt (q_P D))))) 23 127 = some z.toInt64) {l : Nat} {tx : Nat → Nat} (hT : q_T D l tx) : ∃ E, m31 N D = some (q_dg K D n p T V Hd u r y z tx l, E) ∧ q_E D E := by
  have hD := q_I_tb hI
  have hs : D.1 23 2 = D.1 106 2 := by
    obtain ⟨-, -, -, ⟨o, m, h1, h2, h3, h4, h5, h6⟩, -⟩ := hI
    rw [h4, h5]
  have hk : D.1 0 7 = D.1 106 3 := hI.2.2.1.1
  obtain ⟨E1, a1, a2⟩ := q33 hH hN hD hK (q_E.rf D) (q_H3 D n T V (q_H2 D n T (q_H1 D p (Int64.ofNat 3793))))
  obtain ⟨E2, b1, b2⟩ := q34 hN hD hK a2 (q_H4 D Hd (q_H3 D n T V (q_H2 D n T (q_H1 D p (Int64.ofNat 3793)))))
  obtain ⟨E3, c1, c2⟩ := q31_51 hN hK44 hK hu4 hu hr3 hr b2 (q_H5 D (q_H4 D Hd (q_H3 D n T V (q_H2 D n T (q_H1 D p (Int64.ofNat 3793))))))
  obtain ⟨E4, d1, d2⟩ := q27 (x := 2) (h := 3) (t := 6) hF1 hN (q_E_tb c2 hD) (q_E_K c2 hK) (by omega) (by omega) (by omega)
  rw [q_lv_cg (c2.1 107 (by omega))] at d1
  have d1' : m27 N E3 2 3 6 = _ := d1
  have hE4 := c2.tr d2
  refine ⟨E4, ?_, hE4⟩
  have hT4 : q_T E4 l tx := by
    obtain ⟨t1, t2, t3, t4⟩ := hT
    exact ⟨t1, (hE4.1 91 (by omega)) ▸ t2, hE4.2.1.2.2.trans t3, fun k hk => by rw [hE4.1 92 (by omega), hE4.1 108 (by omega)]; exact t4 k hk⟩
  unfold m31
  simp only [am_lt]
  rw [q31_6 hN hK hs, Option.bind_some, q32 hN hK, Option.bind_some, a1, Option.bind_some]
  dsimp only
  rw [b1, Option.bind_some]
  dsimp only
  rw [c1, Option.bind_some]
  dsimp only
  rw [d1', Option.bind_some]
  dsimp only [am_inl]
  rw [Option.bind_some, hy, Option.bind_some, q30 hN (q_E_K hE4 hK), Option.bind_some, q_E_P hE4, if_pos hz0, hz, Option.bind_some, q35 hN hT4, Option.bind_some, hE4.1 0 (by omega), hk]
  rfl
/-! the model -/
def q_M (D E : am_D) (h : Int64) : Prop := q_E D E ∧ E.2.1 106 25 = h
theorem q146 (E : am_D) (v : Int64) : m146 E v = am_uJ E 106 25 (Int64.ofNat 31 * E.2.1 106 25 + v) := rfl
theorem q_M_v {E : am_D} {h : Int64} (hM : q_M D E h) (v : Int64) : q_M D (m146 E v) (Int64.ofNat 31 * h + v) := by
  rw [q146]
  refine ⟨hM.1.tr (q_E_uJ (by omega)), ?_⟩
  show (if 106 = 106 ∧ 25 = 25 then Int64.ofNat 31 * E.2.1 106 25 + v else E.2.1 106 25) = _
  rw [if_pos ⟨rfl, rfl⟩, hM.2]
theorem q_M_x {E : am_D} {h : Int64} (hM : q_M D E h) (x : Int32) : q_M D (m146 E x.toInt64) (q_31 h x) := q_M_v hM _
theorem q_M_E {E F : am_D} {h : Int64} (hM : q_M D E h) (hE : q_E E F) (h2 : F.2 = E.2) : q_M D F h := ⟨hM.1.tr hE, by rw [h2]; exact hM.2⟩
theorem q_lpM (L : Nat → am_D → Int32 → Option am_D) (F : Nat → Int64 → Int64) (b : Nat) (hend : ∀ m E h, q_M D E h → L (m + 1) E (Int32.ofNat b) = some E) (hstep : ∀ k m E h, k < b → q_M D E h → ∃ E', L (m + 1) E (Int32.ofNat k) = L m E' (Int32.ofNat (k + 1)) ∧ q_M D E' (F k h)) (hb : b < N) {E : am_D} {h : Int64} (hE : q_M D E h) (k c : Nat) (hk : k + c = b) : ∃ E', L N E (Int32.ofNat k) = some E' ∧ q_M D E' (q_iF F k c h) := by
  exact q_lp L (q_M D) (q_M D) F b (fun m s h e => ⟨s, hend m s h e, e⟩) hstep c k N E h hk (by omega) hE
theorem q150_14 (hN : 2000 ≤ N) (hB : q_B D) (hK : q_K D n p T V) {E : am_D} {h : Int64} (hE : q_M D E h) : ∃ E', m150_L14 N N E 0 = some E' ∧ q_M D E' (q_H1 D p h) :=
  q_lpM (m150_L14 N) (fun w h => q_31 h (q_nb D p w)) 19 (fun m E h _ => by rw [m150_L14, if_pos (show (19 : Int32) ≤ Int32.ofNat 19 by decide)]) (fun k m E h hk hE => by
    refine ⟨_, ?_, q_M_x hE _⟩
    rw [m150_L14, if_neg (show ¬ (19 : Int32) ≤ Int32.ofNat k from q_nle (a := k) (b := 19) (by omega) (by omega)), q117 hN (q_E_B hE.1 hB) (q_E_K hE.1 hK) (by omega), q_E_nb hE.1, Option.bind_some]
    show m150_L14 N m _ (Int32.ofNat k + 1) = _
    rw [q_s1]) (by omega) hE 0 19 rfl
theorem q150_38 (hN : 2000 ≤ N) (hB : q_B D) (hK : q_K D n p T V) {E : am_D} {h : Int64} (hE : q_M D E h) : ∃ E', m150_L38 N N E 0 = some E' ∧ q_M D E' (q_H2 D n T h) :=
  q_lpM (m150_L38 N) (fun t h => q_iF (fun w h => q_31 h (q_tl D n T t w)) 0 7 h) 28 (fun m E h _ => by rw [m150_L38, if_pos (show (28 : Int32) ≤ Int32.ofNat 28 by decide)]) (fun t m E h ht hE => by
    obtain ⟨E', g1, g2⟩ := q_lpM (N := N) (D := D) (m150_L46 N (Int32.ofNat t)) (fun w h => q_31 h (q_tl D n T t w)) 7 (fun m E h _ => by rw [m150_L46, if_pos (show (7 : Int32) ≤ Int32.ofNat 7 by decide)]) (fun k m E h hk hE => by
      refine ⟨_, ?_, q_M_x hE _⟩
      rw [m150_L46, if_neg (show ¬ (7 : Int32) ≤ Int32.ofNat k from q_nle (a := k) (b := 7) (by omega) (by omega)), q107 hN (q_E_B hE.1 hB) (q_E_K hE.1 hK) ht (by omega), q_E_tl hE.1, Option.bind_some]
      show m150_L46 N _ m _ (Int32.ofNat k + 1) = _
      rw [q_s1]) (by omega) hE 0 7 rfl
    refine ⟨E', ?_, g2⟩
    have g1' : m150_L46 N (Int32.ofNat t) N E 0 = _ := g1
    rw [m150_L38, if_neg (show ¬ (28 : Int32) ≤ Int32.ofNat t from q_nle (a := t) (b := 28) (by omega) ht), g1', Option.bind_some]
    show m150_L38 N m _ (Int32.ofNat t + 1) = _
    rw [q_s1]) (by omega) hE 0 28 rfl
theorem q150_77 (hN : 2000 ≤ N) (hB : q_B D) (hK : q_K D n p T V) {E : am_D} {h : Int64} (hE : q_M D E h) : ∃ E', m150_L77 N N E 0 = some E' ∧ q_M D E' (q_H3 D n T V h) := by
  have h28 := k_n28 hK
  have hn : ∀ E h, q_M D E h → E.1 107 12 = Int32.ofNat n := fun E h hE => by rw [hE.1.1 107 (by omega)]; exact k_n hK
  exact q_lpM (m150_L77 N) (fun k h => q_iF (fun w h => q_31 h (q_pc D T V k w)) 0 4 h) n (fun m E h hE => by rw [m150_L77, hn E h hE, if_pos (show Int32.ofNat n ≤ Int32.ofNat n from q_yle (by omega) (Nat.le_refl _))]) (fun t m E h ht hE => by
    obtain ⟨E', g1, g2⟩ := q_lpM (N := N) (D := D) (m150_L90 N (Int32.ofNat t)) (fun w h => q_31 h (q_pc D T V t w)) 4 (fun m E h _ => by rw [m150_L90, if_pos (show (4 : Int32) ≤ Int32.ofNat 4 by decide)]) (fun k m E h hk hE => by
      refine ⟨_, ?_, q_M_x hE _⟩
      rw [m150_L90, if_neg (show ¬ (4 : Int32) ≤ Int32.ofNat k from q_nle (a := k) (b := 4) (by omega) (by omega)), q110 (q_E_B hE.1 hB) (q_E_K hE.1 hK) ht (by omega), q_E_pc hE.1, Option.bind_some]
      show m150_L90 N _ m _ (Int32.ofNat k + 1) = _
      rw [q_s1]) (by omega) hE 0 4 rfl
    refine ⟨E', ?_, g2⟩
    have g1' : m150_L90 N (Int32.ofNat t) N E 0 = _ := g1
    rw [m150_L77, hn E h hE, if_neg (show ¬ Int32.ofNat n ≤ Int32.ofNat t from q_nle (by omega) ht), g1', Option.bind_some]
    show m150_L77 N m _ (Int32.ofNat t + 1) = _
    rw [q_s1]) (by omega) hE 0 n (by omega)
end QP
