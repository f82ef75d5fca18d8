/-! digest: the class, hands and after -/
section QO
variable {D : am_D} {N n p K : Nat} {T V : Nat → Nat}
/-- a loop of the class that goes on with what it looked up -/
theorem q_lpS (L : Nat → am_D → Int64 → Int32 → Option (Int64 × am_D)) (F : Nat → Int64 → Int64) (b : Nat) (hend : ∀ m E s, L (m + 1) E s (Int32.ofNat b) = some (s, E)) (hstep : ∀ k m E s, k < b → q_E D E → ∃ E', L (m + 1) E s (Int32.ofNat k) = L m E' (F k s) (Int32.ofNat (k + 1)) ∧ q_E D E') (hb : b < N) {E : am_D} (hE : q_E D E) (k c : Nat) (hk : k + c = b) (s : Int64) : ∃ E', L N E s (Int32.ofNat k) = some (q_iF F k c s, E') ∧ q_E D E' := by
  obtain ⟨r, h1, h2, h3⟩ := q_lp (σ := am_D × Int64) (fun m s k => L m s.1 s.2 k) (fun s h => q_E D s.1 ∧ s.2 = h) (fun r h => q_E D r.2 ∧ r.1 = h) F b (fun m s h e => ⟨(s.2, s.1), hend m s.1 s.2, e.1, e.2⟩) (fun k m s h hk e => by
    obtain ⟨E', g1, g2⟩ := hstep k m s.1 s.2 hk e.1
    exact ⟨(E', F k s.2), g1, g2, by rw [e.2]⟩) c k N (E, s) s hk (by omega) ⟨hE, rfl⟩
  have h1' : L N E s (Int32.ofNat k) = some r := h1
  refine ⟨r.2, ?_, h2⟩
  rw [h1', ← h3]
def q_iH (Hd : Nat → Nat → Int32) (x : Nat) (h : Int64) : Int64 := q_iF (fun w h => q_31 h (Hd x w)) 0 10 h
noncomputable def q_H4 (D : am_D) (Hd : Nat → Nat → Int32) (h : Int64) : Int64 := q_iF (fun x h => q_31 (q_31 (q_iH Hd x h) (Int32.ofNat (q_dv D (-1) (-1) x))) (Int32.ofNat (q_dv D (-1) (-1) x))) 0 4 h
theorem q_E_tb {E : am_D} (hE : q_E D E) (hD : q_tb D) : q_tb E := fun f hf t ht => by rw [hE.2.2]; exact hD f hf t ht
theorem q24 (hN : 2000 ≤ N) (hD : q_tb D) (hK : q_K D n p T V) {x w : Nat} (hx : x < 4) (hw : w < 2) : ∃ E, m24 N D (Int32.ofNat x) (Int32.ofNat w) = some (Sum.inl (Int32.ofNat (q_dv D (-1) (-1) x)), E) ∧ q_E D E := by
  have e40 : ∀ x, x < 4 → m40 (Int32.ofNat x) = 1 := by decide +kernel
  have e43 : ∀ x, x < 2 → m43 (Int32.ofNat x) = 1 := by decide +kernel
  obtain ⟨E, a1, a2⟩ := q189 hN hK hx
  have hE := q_lk1_E a2
  obtain rfl | rfl : w = 0 ∨ w = 1 := by omega
  · obtain ⟨E', b1, b2, b3, b4⟩ := q192 hN hK hx a2
    refine ⟨E', ?_, q_ER hE b2 b4⟩
    unfold m24
    rw [if_neg (by rw [e40 x hx]; decide), if_neg (by rw [e43 0 hw]; decide), a1, Option.bind_some, if_pos (show Int32.ofNat 0 = 0 from rfl), b1, Option.bind_some]
    dsimp only
    rw [q_j32, q_V_all hK x (-1)]
  · refine ⟨E, ?_, hE⟩
    unfold m24
    rw [if_neg (by rw [e40 x hx]; decide), if_neg (by rw [e43 1 hw]; decide), a1, Option.bind_some, if_neg (show ¬ Int32.ofNat 1 = 0 by decide), q196a hD hN hK hx a2, Option.bind_some, q_j32]
theorem q33 {Hd : Nat → Nat → Int32} (hH : ∀ x w, x < 4 → w < 10 → q_ha N D x w (Hd x w)) (hN : 2000 ≤ N) (hD : q_tb D) (hK : q_K D n p T V) {E : am_D} (hE : q_E D E) (h : Int64) : ∃ E', m33 N E h = some (q_H4 D Hd h, E') ∧ q_E D E' := by
  obtain ⟨E', g1, g2⟩ := q_lpS (N := N) (D := D) (m33_L5 N) (fun x h => q_31 (q_31 (q_iH Hd x h) (Int32.ofNat (q_dv D (-1) (-1) x))) (Int32.ofNat (q_dv D (-1) (-1) x))) 4 (fun m E s => by rw [m33_L5, if_pos (show (4 : Int32) ≤ Int32.ofNat 4 by decide)]) (fun x m E s hx hE => by
    obtain ⟨E1, a1, a2⟩ := q_lpS (N := N) (D := D) (m33_L14 N (Int32.ofNat x)) (fun w h => q_31 h (Hd x w)) 10 (fun m E s => by rw [m33_L14, if_pos (show (9 : Int32) < Int32.ofNat 10 by decide)]) (fun k m E s hk hE => by
      obtain ⟨E', b1, b2⟩ := (hH x k hx hk).1 E hE
      refine ⟨E', ?_, b2⟩
      rw [m33_L14, if_neg (show ¬ (9 : Int32) < Int32.ofNat k from q_nlt (a := k) (b := 9) (by omega) (by omega)), b1, Option.bind_some]
      show m33_L14 N _ m _ _ (Int32.ofNat k + 1) = _
      rw [q_s1]
      rfl) (by omega) hE 0 10 rfl s
    obtain ⟨E2, c1, c2⟩ := q24 (w := 0) hN (q_E_tb a2 hD) (q_E_K a2 hK) hx (by omega)
    obtain ⟨E3, d1, d2⟩ := q24 (w := 1) hN (q_E_tb (a2.tr c2) hD) (q_E_K (a2.tr c2) hK) hx (by omega)
    rw [q_dv_cg (a2.1 107 (by omega))] at c1
    rw [q_dv_cg ((a2.tr c2).1 107 (by omega))] at d1
    refine ⟨E3, ?_, (a2.tr c2).tr d2⟩
    have a1' : m33_L14 N (Int32.ofNat x) N E s 0 = _ := a1
    have c1' : m24 N E1 (Int32.ofNat x) 0 = _ := c1
    have d1' : m24 N E2 (Int32.ofNat x) 1 = _ := d1
    rw [m33_L5, if_neg (show ¬ (4 : Int32) ≤ Int32.ofNat x from q_nle (a := x) (b := 4) (by omega) hx), a1', Option.bind_some]
    dsimp only
    rw [c1', Option.bind_some]
    dsimp only [am_inl, am_lt]
    rw [Option.bind_some, d1', Option.bind_some]
    show m33_L5 N m _ _ (Int32.ofNat x + 1) = _
    rw [q_s1]
    rfl) (by omega) hE 0 4 rfl h
  refine ⟨E', ?_, g2⟩
  unfold m33
  have g1' : m33_L5 N N E h 0 = _ := g1
  rw [g1', Option.bind_some]
  rfl
noncomputable def q_F5 (D : am_D) (j : Nat) (h : Int64) : Int64 := q_31 (q_31 (q_31 h (Int32.ofNat (q_hv D 0 j 0))) (Int32.ofNat (q_hv D 0 j 13))) (Int32.ofNat (q_hv D 0 j 27))
noncomputable def q_F6 (D : am_D) (j : Nat) (h : Int64) : Int64 := q_31 h (Int32.ofNat (q_su D 1 j))
noncomputable def q_H5 (D : am_D) (h : Int64) : Int64 := q_iF (q_F6 D) 0 4 (q_iF (q_F5 D) 1 3 h)
theorem q34 (hN : 2000 ≤ N) (hD : q_tb D) (hK : q_K D n p T V) {E : am_D} (hE : q_E D E) (h : Int64) : ∃ E', m34 N E h = some (q_H5 D h, E') ∧ q_E D E' := by
  obtain ⟨E1, g1, g2⟩ := q_lpS (N := N) (D := D) (m34_L5 N) (q_F5 D) 4 (fun m E s => by rw [m34_L5, if_pos (show (4 : Int32) ≤ Int32.ofNat 4 by decide)]) (fun x m E s hx hE => by
    obtain ⟨E1, a1, a2⟩ := q25 (x := 0) (t := 0) hN (q_E_tb hE hD) (q_E_K hE hK) (by omega) hx (by omega)
    have hE1 := hE.tr a2
    obtain ⟨E2, b1, b2⟩ := q25 (x := 0) (t := 13) hN (q_E_tb hE1 hD) (q_E_K hE1 hK) (by omega) hx (by omega)
    have hE2 := hE1.tr b2
    obtain ⟨E3, c1, c2⟩ := q25 (x := 0) (t := 27) hN (q_E_tb hE2 hD) (q_E_K hE2 hK) (by omega) hx (by omega)
    rw [q_hv_cg (hE.1 107 (by omega))] at a1
    rw [q_hv_cg (hE1.1 107 (by omega))] at b1
    rw [q_hv_cg (hE2.1 107 (by omega))] at c1
    refine ⟨E3, ?_, hE2.tr c2⟩
    have a1' : m25 N E 0 (Int32.ofNat x) 0 = _ := a1
    have b1' : m25 N E1 0 (Int32.ofNat x) 13 = _ := b1
    have c1' : m25 N E2 0 (Int32.ofNat x) 27 = _ := c1
    rw [m34_L5, if_neg (show ¬ (4 : Int32) ≤ Int32.ofNat x from q_nle (a := x) (b := 4) (by omega) hx), a1', Option.bind_some]
    dsimp only [am_inl, am_lt]
    rw [Option.bind_some, b1', Option.bind_some]
    dsimp only [am_inl, am_lt]
    rw [Option.bind_some, c1', Option.bind_some]
    show m34_L5 N m _ _ (Int32.ofNat x + 1) = _
    rw [q_s1]
    rfl) (by omega) hE 1 3 rfl h
  obtain ⟨E2, k1, k2⟩ := q_lpS (N := N) (D := D) (m34_L70 N) (q_F6 D) 4 (fun m E s => by rw [m34_L70, if_pos (show (4 : Int32) ≤ Int32.ofNat 4 by decide)]) (fun x m E s hx hE => by
    obtain ⟨E1, a1, a2⟩ := q26 (x := 1) (h := x) hN (q_E_tb hE hD) (q_E_K hE hK) (by omega) hx
    rw [q_su_cg (hE.1 107 (by omega))] at a1
    refine ⟨E1, ?_, hE.tr a2⟩
    have a1' : m26 N E 1 (Int32.ofNat x) = _ := a1
    rw [m34_L70, if_neg (show ¬ (4 : Int32) ≤ Int32.ofNat x from q_nle (a := x) (b := 4) (by omega) hx), a1', Option.bind_some]
    show m34_L70 N m _ _ (Int32.ofNat x + 1) = _
    rw [q_s1]
    rfl) (by omega) g2 0 4 rfl (q_iF (q_F5 D) 1 3 h)
  refine ⟨E2, ?_, k2⟩
  unfold m34
  have g1' : m34_L5 N N E h 1 = _ := g1
  have k1' : m34_L70 N N E1 (q_iF (q_F5 D) 1 3 h) 0 = _ := k1
  rw [g1', Option.bind_some]
  dsimp only
  rw [k1', Option.bind_some]
  rfl
noncomputable def q_H6 (K : Nat) (D : am_D) (n p : Nat) (T V : Nat → Nat) (u r : Nat) (h : Int64) : Int64 := q_iF (fun w h => q_31 h (q_on K D n p T V u r w)) 0 3 h
theorem q31_51 (hN : 2000 ≤ N) (hK44 : K = 44) (hK : q_K D n p T V) {u r : Nat} (hu4 : u < 4) (hu : D.1 107 1 = Int32.ofNat u) (hr3 : p = 1 → r ≤ 3) (hr : D.1 107 4 = Int32.ofNat r) {E : am_D} (hE : q_E D E) (h : Int64) : ∃ E', m31_L51 N N E h 0 = some (q_H6 K D n p T V u r h, E') ∧ q_E D E' := by
  exact q_lpS (N := N) (D := D) (m31_L51 N) (fun w h => q_31 h (q_on K D n p T V u r w)) 3 (fun m E s => by rw [m31_L51, if_pos (show (2 : Int32) < Int32.ofNat 3 by decide)]) (fun w m E s hw hE => by
    obtain ⟨E1, a1, a2⟩ := q29 (w := w) hN hK44 (q_E_K hE hK) hu4 ((by rw [hE.1 107 (by omega)]; exact hu)) hr3 (by rw [hE.1 107 (by omega)]; exact hr) hw
    rw [q_on_cg (hE.1 107 (by omega))] at a1
    refine ⟨E1, ?_, hE.tr (q_Y3_E a2)⟩
    rw [m31_L51, if_neg (show ¬ (2 : Int32) < Int32.ofNat w from q_nlt (a := w) (b := 2) (by omega) (by omega)), a1, Option.bind_some]
    show m31_L51 N m _ _ (Int32.ofNat w + 1) = _
    rw [q_s1]
    rfl) (by omega) hE 0 3 rfl h
def q_H8 (tx : Nat → Nat) (l : Nat) (h : Int64) : Int64 := q_iF (fun k h => q_31 h (Int32.ofNat (tx k))) 0 l (q_31 h (Int32.ofNat l))
theorem q35 (hN : 2000 ≤ N) {l : Nat} {tx : Nat → Nat} (hT : q_T D l tx) (h : Int64) : m35 N D h = some (q_H8 tx l h) := by
  have hl := hT.1
  unfold m35
  simp only [am_lt]
  rw [hT.2.1, q_lpP (N := N) (m35_L18 N D) (fun k h => q_31 h (Int32.ofNat (tx k))) l (fun m s => ?_) (fun k m s hk => ?_) (by omega)]
  · rfl
  · rw [m35_L18, hT.2.1, if_pos (show Int32.ofNat l ≤ Int32.ofNat l from q_yle (by omega) (Nat.le_refl _))]
  · rw [m35_L18, hT.2.1, if_neg (show ¬ Int32.ofNat l ≤ Int32.ofNat k from q_nle (by omega) hk), q234 hT hk]
    show m35_L18 N D m _ (Int32.ofNat k + 1) = _
    rw [q_s1]
    rfl
/-- fewer ways where less is allowed -/
theorem q_St_mono {a b : Nat} (h0 : a % 2 ≤ b % 2) (h1 : a / 2 % 2 ≤ b / 2 % 2) (h2 : a / 4 % 2 ≤ b / 4 % 2) {f g : Nat → Nat → Nat} (hf : ∀ x y, f x y ≤ g x y) (x y : Nat) : q_St a f x y ≤ q_St b g x y := by
  unfold q_St
  have := hf x y
  have := hf (x - 1) y
  have := hf x (y - 1)
  repeat' split
  all_goals omega
theorem q_V_mono {κ κ' : Nat → Nat} : ∀ (L : List Nat), (∀ t, t ∈ L → κ t % 2 ≤ κ' t % 2 ∧ κ t / 2 % 2 ≤ κ' t / 2 % 2 ∧ κ t / 4 % 2 ≤ κ' t / 4 % 2) → ∀ (a b : Nat), q_V κ L a b ≤ q_V κ' L a b
  | [], _, _, _ => Nat.le_refl _
  | t :: L, h, a, b => q_St_mono (h t (by simp)).1 (h t (by simp)).2.1 (h t (by simp)).2.2 (q_V_mono L (fun s hs => h s (by simp [hs]))) a b
theorem q_dv_all (r h : Int32) (x : Nat) : q_dv D r h x ≤ q_dv D (-1) (-1) x := by
  unfold q_dv
  refine q_V_mono _ (fun t ht => ?_) _ _
  have ht28 := ((q_ls_m 28 t).mp ht).1
  have e : ∀ o, q_pm D r h o t ≤ q_pm D (-1) (-1) o t := fun o => by
    unfold q_pm
    rw [if_neg (c := Int32.ofNat t = -1 ∧ ¬ (-1 : Int32) = Int32.ofNat o) (fun q => q_nm (k := t) (by omega) q.1)]
    split <;> omega
  have l : ∀ o, q_pm D (-1) (-1) o t ≤ 1 := fun o => q_pm_le D _ _ o t
  have e1 := e ((x + 1) % 4)
  have e2 := e ((x + 2) % 4)
  have e3 := e ((x + 3) % 4)
  have l1 := l ((x + 1) % 4)
  have l2 := l ((x + 2) % 4)
  have l3 := l ((x + 3) % 4)
  unfold q_kr
  omega
theorem q_hv_all (x h t : Nat) : q_hv D x h t ≤ q_dv D (-1) (-1) x := by
  have := q_dv_all (D := D) (Int32.ofNat t) (Int32.ofNat h) x
  unfold q_hv
  repeat' split
  all_goals omega
end QO
