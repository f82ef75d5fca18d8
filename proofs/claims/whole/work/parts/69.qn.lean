/-! digest: the class -/
section QN
variable {D : am_D} {N n p K : Nat} {T V : Nat → Nat}
def q_31 (h : Int64) (x : Int32) : Int64 := Int64.ofNat 31 * h + x.toInt64
def q_iF (F : Nat → Int64 → Int64) : Nat → Nat → Int64 → Int64
  | _, 0, h => h
  | k, c + 1, h => q_iF F (k + 1) c (F k h)
/-- a loop that takes place after place into a number -/
theorem q_lp {σ ρ : Type} (L : Nat → σ → Int32 → Option ρ) (I : σ → Int64 → Prop) (J : ρ → Int64 → Prop) (F : Nat → Int64 → Int64) (b : Nat) (hend : ∀ m s h, I s h → ∃ r, L (m + 1) s (Int32.ofNat b) = some r ∧ J r h) (hstep : ∀ k m s h, k < b → I s h → ∃ s', L (m + 1) s (Int32.ofNat k) = L m s' (Int32.ofNat (k + 1)) ∧ I s' (F k h)) : ∀ (c k m : Nat) (s : σ) (h : Int64), k + c = b → c < m → I s h → ∃ r, L m s (Int32.ofNat k) = some r ∧ J r (q_iF F k c h)
  | 0, k, m + 1, s, h, hk, hm, hI => by
    obtain rfl : k = b := by omega
    exact hend m s h hI
  | c + 1, k, m + 1, s, h, hk, hm, hI => by
    obtain ⟨s', h1, h2⟩ := hstep k m s h (by omega) hI
    obtain ⟨r, h3, h4⟩ := q_lp L I J F b hend hstep c (k + 1) m s' (F k h) (by omega) (by omega) h2
    exact ⟨r, h1.trans h3, h4⟩
  | _, _, 0, _, _, _, hm, _ => by omega
theorem q_s1 (k : Nat) : Int32.ofNat k + 1 = Int32.ofNat (k + 1) := q_add k 1
/-- one for numbers alone -/
theorem q_lpP (L : Nat → Int64 → Int32 → Option Int64) (F : Nat → Int64 → Int64) (b : Nat) (hend : ∀ m s, L (m + 1) s (Int32.ofNat b) = some s) (hstep : ∀ k m s, k < b → L (m + 1) s (Int32.ofNat k) = L m (F k s) (Int32.ofNat (k + 1))) (hb : b < N) (s : Int64) : L N s 0 = some (q_iF F 0 b s) := by
  obtain ⟨r, h1, h2⟩ := q_lp L (fun s h => s = h) (fun r h => r = h) F b (fun m s h e => ⟨s, hend m s, e⟩) (fun k m s h hk e => ⟨F k s, hstep k m s hk, by rw [e]⟩) b 0 N s s (by omega) hb rfl
  have h1' : L N s 0 = some r := h1
  rw [h1', h2]
noncomputable def q_H1 (D : am_D) (p : Nat) (h : Int64) : Int64 := q_iF (fun w h => q_31 h (q_nb D p w)) 0 19 h
theorem q31_6 (hN : 2000 ≤ N) (hK : q_K D n p T V) (hs : D.1 23 2 = D.1 106 2) (h : Int64) : m31_L6 N D N h 0 = some (q_H1 D p h) := by
  refine q_lpP (m31_L6 N D) _ 19 (fun m s => ?_) (fun k m s hk => ?_) (by omega) h
  · rw [m31_L6, if_pos (show (18 : Int32) < Int32.ofNat 19 by decide)]
  · rw [m31_L6, if_neg (show ¬ (18 : Int32) < Int32.ofNat k from q_nlt (a := k) (b := 18) (by omega) (by omega)), q22 hN hK hs (by omega), Option.bind_some]
    show m31_L6 N D m _ (Int32.ofNat k + 1) = _
    rw [q_s1]
    rfl
noncomputable def q_H2 (D : am_D) (n : Nat) (T : Nat → Nat) (h : Int64) : Int64 := q_iF (fun t h => q_iF (fun w h => q_31 h (q_tl D n T t w)) 0 7 h) 0 28 h
theorem q32_5 (hN : 2000 ≤ N) (hK : q_K D n p T V) (h : Int64) : m32_L5 N D N h 0 = some (q_H2 D n T h) := by
  refine q_lpP (m32_L5 N D) _ 28 (fun m s => ?_) (fun t m s ht => ?_) (by omega) h
  · rw [m32_L5, if_pos (show (28 : Int32) ≤ Int32.ofNat 28 by decide)]
  · have h15 : m32_L15 N D (Int32.ofNat t) N s 0 = some (q_iF (fun w h => q_31 h (q_tl D n T t w)) 0 7 s) := by
      refine q_lpP (m32_L15 N D (Int32.ofNat t)) _ 7 (fun m s => ?_) (fun k m s hk => ?_) (by omega) s
      · rw [m32_L15, if_pos (show (6 : Int32) < Int32.ofNat 7 by decide)]
      · rw [m32_L15, if_neg (show ¬ (6 : Int32) < Int32.ofNat k from q_nlt (a := k) (b := 6) (by omega) (by omega)), q18 hN hK ht (by omega), Option.bind_some]
        show m32_L15 N D _ m _ (Int32.ofNat k + 1) = _
        rw [q_s1]
        rfl
    rw [m32_L5, if_neg (show ¬ (28 : Int32) ≤ Int32.ofNat t from q_nle (a := t) (b := 28) (by omega) ht), h15, Option.bind_some]
    show m32_L5 N D m _ (Int32.ofNat t + 1) = _
    rw [q_s1]
noncomputable def q_H3 (D : am_D) (n : Nat) (T V : Nat → Nat) (h : Int64) : Int64 := q_iF (fun k h => q_iF (fun w h => q_31 h (q_pc D T V k w)) 0 4 h) 0 n h
theorem q32_53 (hN : 2000 ≤ N) (hK : q_K D n p T V) (h : Int64) : m32_L53 N D N h 0 = some (q_H3 D n T V h) := by
  have h28 := k_n28 hK
  refine q_lpP (m32_L53 N D) _ n (fun m s => ?_) (fun t m s ht => ?_) (by omega) h
  · rw [m32_L53, k_n' hK, if_pos (show Int32.ofNat n ≤ Int32.ofNat n from q_yle (by omega) (Nat.le_refl _))]
  · have h15 : m32_L71 N D (Int32.ofNat t) N s 0 = some (q_iF (fun w h => q_31 h (q_pc D T V t w)) 0 4 s) := by
      refine q_lpP (m32_L71 N D (Int32.ofNat t)) _ 4 (fun m s => ?_) (fun k m s hk => ?_) (by omega) s
      · rw [m32_L71, if_pos (show (3 : Int32) < Int32.ofNat 4 by decide)]
      · rw [m32_L71, if_neg (show ¬ (3 : Int32) < Int32.ofNat k from q_nlt (a := k) (b := 3) (by omega) (by omega)), q20 hK ht (by omega)]
        show m32_L71 N D _ m _ (Int32.ofNat k + 1) = _
        rw [q_s1]
        rfl
    rw [m32_L53, k_n' hK, if_neg (show ¬ Int32.ofNat n ≤ Int32.ofNat t from q_nle (by omega) ht), h15, Option.bind_some]
    show m32_L53 N D m _ (Int32.ofNat t + 1) = _
    rw [q_s1]
theorem q32 (hN : 2000 ≤ N) (hK : q_K D n p T V) (h : Int64) : m32 N D h = some (q_H3 D n T V (q_H2 D n T h)) := by
  unfold m32
  rw [q32_5 hN hK, Option.bind_some, q32_53 hN hK, Option.bind_some]
/-- what the class and the model answer of a hand, wherever they stand -/
def q_ha (N : Nat) (D : am_D) (x w : Nat) (y : Int32) : Prop := (∀ E, q_E D E → ∃ E', m21 N E (Int32.ofNat x) (Int32.ofNat w) = some (Sum.inl y, E') ∧ q_E D E') ∧ (∀ E, q_E D E → ∃ E', m115 N E (Int32.ofNat x) (Int32.ofNat w) = some (y, E') ∧ q_E D E' ∧ E'.2 = E.2)
theorem q_ha_ex (hN : 2000 ≤ N) (hB : q_B D) (hK : q_K D n p T V) {x w : Nat} (hx : x < 4) (hw : w < 10) : ∃ y, q_ha N D x w y := by
  have ne1 : ¬ m40 (Int32.ofNat x) = 0 := by
    have : ∀ x, x < 4 → ¬ m40 (Int32.ofNat x) = 0 := by decide +kernel
    exact this x hx
  have i1320 : ∀ a, a < 1320 → 0 ≤ Int32.ofNat a ∧ Int32.ofNat a < 1320 := fun a ha => q_in (n := 1320) (by omega) ha
  have a13 : (13 : Int32) + Int32.ofNat x = Int32.ofNat (13 + x) := by rw [q_l13, q_add]
  have a17 : (17 : Int32) + Int32.ofNat x = Int32.ofNat (17 + x) := by rw [q_l17, q_add]
  have a21 : (21 : Int32) + Int32.ofNat x = Int32.ofNat (21 + x) := by rw [q_l21, q_add]
  have rd : ∀ y : Int32, (∀ E, q_E D E → q_B E → q_K E n p T V → m21 N E (Int32.ofNat x) (Int32.ofNat w) = some (Sum.inl y, E) ∧ m115 N E (Int32.ofNat x) (Int32.ofNat w) = some (y, E)) → ∃ y, q_ha N D x w y := fun y h => ⟨y, fun E hE => ⟨E, (h E hE (q_E_B hE hB) (q_E_K hE hK)).1, hE⟩, fun E hE => ⟨E, (h E hE (q_E_B hE hB) (q_E_K hE hK)).2, hE, rfl⟩⟩
  have fcnt : ∀ E, q_E D E → q_K E n p T V → q_cnt (E.1 7) = q_cnt (q_P D) := fun E hE hKE => by rw [← q_E_P hE]; exact funext fun v => q_cnt_congr (k_pl hKE)
  have fpip : ∀ E, q_E D E → q_K E n p T V → q_pips (E.1 7) = q_pips (q_P D) := fun E hE hKE => by rw [← q_E_P hE]; exact funext fun v => q_pips_congr (k_pl hKE)
  have fdbl : ∀ E, q_E D E → q_K E n p T V → q_dbl (E.1 7) = q_dbl (q_P D) := fun E hE hKE => by rw [← q_E_P hE]; exact funext fun v => q_dbl_congr (k_pl hKE)
  have ffst : ∀ E, q_E D E → q_K E n p T V → q_fst (E.1 7) (Int32.ofNat x) 0 28 = q_fst (q_P D) (Int32.ofNat x) 0 28 := fun E hE hKE => by rw [← q_E_P hE]; exact q_fst_congr 28 0 (fun t _ ht => k_pl hKE t (by omega))
  obtain rfl | rfl | rfl | rfl | rfl | rfl | rfl | rfl | rfl | rfl : w = 0 ∨ w = 1 ∨ w = 2 ∨ w = 3 ∨ w = 4 ∨ w = 5 ∨ w = 6 ∨ w = 7 ∨ w = 8 ∨ w = 9 := by omega
  · refine rd (Int32.ofNat (q_cnt (q_P D) (Int32.ofNat x))) (fun E hE hBE hKE => ⟨?_, ?_⟩)
    · unfold m21
      rw [if_neg ne1, if_pos rfl, q204 hN, fcnt E hE hKE]; rfl
    · unfold m115
      rw [if_pos rfl, q57 hN, q_E_P hE]; rfl
  · refine rd (Int32.ofNat (q_pips (q_P D) (Int32.ofNat x))) (fun E hE hBE hKE => ⟨?_, ?_⟩)
    · unfold m21
      rw [if_neg ne1, if_neg (by decide), if_pos rfl, q205 hN, fpip E hE hKE]; rfl
    · unfold m115
      rw [if_neg (by decide), if_pos rfl, q58 hN hBE, q_E_P hE]; rfl
  · refine rd (D.1 107 (13 + x)) (fun E hE hBE hKE => ⟨?_, ?_⟩)
    · unfold m21
      rw [if_neg ne1, if_neg (by decide), if_neg (by decide), if_pos rfl, q_rt4 _ hx, k_ti hKE x hx, hE.1 107 (by omega)]
    · unfold m115
      rw [if_neg (by decide), if_neg (by decide), if_pos rfl, a13, if_pos (i1320 _ (by omega)), q_tn (by omega), hE.1 107 (by omega)]
  · refine rd (D.1 107 (17 + x)) (fun E hE hBE hKE => ⟨?_, ?_⟩)
    · unfold m21
      rw [if_neg ne1, if_neg (by decide), if_neg (by decide), if_neg (by decide), if_pos rfl, q_rt4 _ hx, k_la hKE x hx, hE.1 107 (by omega)]
    · unfold m115
      rw [if_neg (by decide), if_neg (by decide), if_neg (by decide), if_pos rfl, a17, if_pos (i1320 _ (by omega)), q_tn (by omega), hE.1 107 (by omega)]
  · refine rd (Int32.ofNat (q_fit D (Int32.ofNat x))) (fun E hE hBE hKE => ⟨?_, ?_⟩)
    · unfold m21
      rw [if_neg ne1, if_neg (by decide), if_neg (by decide), if_neg (by decide), if_neg (by decide), if_pos rfl, q208 hN, q_E_fit hE]; rfl
    · unfold m115
      rw [if_neg (by decide), if_neg (by decide), if_neg (by decide), if_neg (by decide), if_pos rfl, q68 hN hBE hKE, q_E_fit hE]; rfl
  · refine rd (D.1 107 (21 + x)) (fun E hE hBE hKE => ⟨?_, ?_⟩)
    · unfold m21
      rw [if_neg ne1, if_neg (by decide), if_neg (by decide), if_neg (by decide), if_neg (by decide), if_neg (by decide), if_pos rfl, q_rt4 _ hx, k_pa hKE x hx, hE.1 107 (by omega)]
    · unfold m115
      rw [if_neg (by decide), if_neg (by decide), if_neg (by decide), if_neg (by decide), if_neg (by decide), if_pos rfl, a21, if_pos (i1320 _ (by omega)), q_tn (by omega), hE.1 107 (by omega)]
  · refine rd (Int32.ofNat (q_dbl (q_P D) (Int32.ofNat x))) (fun E hE hBE hKE => ⟨?_, ?_⟩)
    · unfold m21
      rw [if_neg ne1, if_neg (by decide), if_neg (by decide), if_neg (by decide), if_neg (by decide), if_neg (by decide), if_neg (by decide), if_pos rfl, q206 hN, fdbl E hE hKE]; rfl
    · unfold m115
      rw [if_neg (by decide), if_neg (by decide), if_neg (by decide), if_neg (by decide), if_neg (by decide), if_neg (by decide), if_pos rfl, q81 hN hBE, q_E_P hE]; rfl
  · refine rd (q_fst (q_P D) (Int32.ofNat x) 0 28) (fun E hE hBE hKE => ⟨?_, ?_⟩)
    · unfold m21
      rw [if_neg ne1, if_neg (by decide), if_neg (by decide), if_neg (by decide), if_neg (by decide), if_neg (by decide), if_neg (by decide), if_neg (by decide), if_pos rfl, q207 hN, ffst E hE hKE]; rfl
    · unfold m115
      rw [if_neg (by decide), if_neg (by decide), if_neg (by decide), if_neg (by decide), if_neg (by decide), if_neg (by decide), if_neg (by decide), if_pos rfl, q114 hN, q_E_P hE]; rfl
  · refine rd (Int32.ofNat (q_np D p x)) (fun E hE hBE hKE => ⟨?_, ?_⟩)
    · unfold m21
      rw [if_neg ne1, if_neg (by decide), if_neg (by decide), if_neg (by decide), if_neg (by decide), if_neg (by decide), if_neg (by decide), if_neg (by decide), if_neg (by decide), if_pos rfl, q221 hN hKE hx, q_E_np hE]; rfl
    · unfold m115
      rw [if_neg (by decide), if_neg (by decide), if_neg (by decide), if_neg (by decide), if_neg (by decide), if_neg (by decide), if_neg (by decide), if_neg (by decide), if_pos rfl, q69 hN hBE hKE hx, q_E_np hE]; rfl
  · have h7 := k_h7 hK x hx
    obtain ⟨l0, D0, -, f2, -, -⟩ := q258 (N := N) hN (f := q_P D) (v := Int32.ofNat x) (k_pl hK) h7
    refine ⟨Int32.ofNat l0, fun E hE => ?_, fun E hE => ?_⟩
    · obtain ⟨l, D', g1, g2, g3, g4⟩ := q258 (N := N) hN (f := q_P D) (v := Int32.ofNat x) (fun t ht => by rw [← q_E_P hE]; exact k_pl (q_E_K hE hK) t ht) h7
      obtain rfl := q_top_un f2 g2
      refine ⟨D', ?_, hE.tr ⟨fun a ha => g3 a (by omega) (by omega), ⟨by rw [g3 106 (by omega) (by omega)], by rw [g3 106 (by omega) (by omega)], by rw [g3 106 (by omega) (by omega)]⟩, by rw [g4]⟩⟩
      unfold m21
      rw [if_neg ne1, if_neg (by decide), if_neg (by decide), if_neg (by decide), if_neg (by decide), if_neg (by decide), if_neg (by decide), if_neg (by decide), if_neg (by decide), if_neg (by decide), if_pos rfl, g1]
      rfl
    · obtain ⟨l, D2, k1, k2, k3, k4⟩ := q113 (N := N) (D := E) hN (q_E_B hE hB) (f := q_P D) (v := Int32.ofNat x) (fun t _ => by rw [q_E_P hE]) h7
      obtain rfl := q_top_un f2 k2
      refine ⟨D2, ?_, hE.tr ⟨fun a ha => k3 a (by omega) (by omega), ⟨by rw [k3 106 (by omega) (by omega)], by rw [k3 106 (by omega) (by omega)], by rw [k3 106 (by omega) (by omega)]⟩, by rw [k4]⟩, k4⟩
      unfold m115
      rw [if_neg (by decide), if_neg (by decide), if_neg (by decide), if_neg (by decide), if_neg (by decide), if_neg (by decide), if_neg (by decide), if_neg (by decide), if_neg (by decide), k1]; rfl
end QN
