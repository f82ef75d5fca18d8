/-! deals: what the law asks -/
section VB
variable {D E F G : am_D} {N : Nat} {n p : Nat} {T V : Nat → Nat}
theorem v_tb (h : q_E D E) (k : q_tb D) : q_tb E := fun f hf t ht => by rw [h.2.2]; exact k f hf t ht
theorem q24c (hN : 2000 ≤ N) (hK : q_K D n p T V) {x : Nat} (hx : x < 4) : ∃ E, m24 N D (Int32.ofNat x) 0 = some (Sum.inl (Int32.ofNat (q_dv D (-1) (-1) x)), E) ∧ q_E D E := by
  have e40 : ∀ x, x < 4 → m40 (Int32.ofNat x) = 1 := by decide +kernel
  obtain ⟨E, a1, a2⟩ := q189 hN hK hx
  obtain ⟨E', b1, b2, b3, b4⟩ := q192 hN hK hx a2
  refine ⟨E', ?_, q_ER (q_lk1_E a2) b2 b4⟩
  unfold m24
  rw [if_neg (by rw [e40 x hx]; decide), if_neg (show ¬ m43 0 = 0 by decide), a1, Option.bind_some, if_pos rfl, b1, Option.bind_some]
  dsimp only
  rw [q_j32, q_V_all hK x (-1)]
theorem v_hx (D : am_D) (x t : Nat) : q_hv D x x t = if q_P D t = Int32.ofNat x then q_dv D (-1) (-1) x else 0 := by
  unfold q_hv
  rw [if_pos rfl]
theorem v_ho (D : am_D) {x h t : Nat} (hne : h ≠ x) : q_hv D x h t = if q_sc (q_P D) x t = 1 then q_dv D (Int32.ofNat t) (Int32.ofNat h) x else 0 := by
  unfold q_hv
  rw [if_neg hne]
theorem v_hs (hK : q_K D n p T V) {x t : Nat} (hx : x < 4) (ht : t < 28) : q_hv D x ((x + 1) % 4) t + q_hv D x ((x + 2) % 4) t + q_hv D x ((x + 3) % 4) t = if q_sc (q_P D) x t = 1 then q_dv D (-1) (-1) x else 0 := by
  rw [v_ho D (by omega), v_ho D (by omega), v_ho D (by omega)]
  by_cases c : q_sc (q_P D) x t = 1
  · rw [if_pos c, if_pos c, if_pos c, if_pos c]; exact v_sum hK hx ht c
  · rw [if_neg c, if_neg c, if_neg c, if_neg c]
/-- what falls to the others together -/
noncomputable def v_f (D : am_D) (x t : Nat) : Nat → Nat := fun h => if h = x then 0 else q_hv D x h t
theorem v_fs (hK : q_K D n p T V) {x t : Nat} (hx : x < 4) (ht : t < 28) : q_S (v_f D x t) 0 4 = if q_sc (q_P D) x t = 1 then q_dv D (-1) (-1) x else 0 := by
  have := v_hs hK hx ht
  rw [← this]
  show v_f D x t 0 + (v_f D x t 1 + (v_f D x t 2 + (v_f D x t 3 + 0))) = _
  unfold v_f
  obtain rfl | rfl | rfl | rfl : x = 0 ∨ x = 1 ∨ x = 2 ∨ x = 3 := by omega
  all_goals simp only [Nat.reduceEqDiff, if_true, if_false, Nat.reduceAdd, Nat.reduceMod, Nat.zero_add, Nat.add_zero, show ¬ (0 : Nat) = 1 from by decide, show ¬ (0 : Nat) = 2 from by decide, show ¬ (0 : Nat) = 3 from by decide, show ¬ (1 : Nat) = 0 from by decide, show ¬ (2 : Nat) = 0 from by decide, show ¬ (3 : Nat) = 0 from by decide]
  all_goals omega
theorem v_le (hK : q_K D n p T V) {x h t : Nat} (hx : x < 4) (hh : h < 4) (ht : t < 28) : q_hv D x h t ≤ q_dv D (-1) (-1) x := by
  by_cases c : h = x
  · subst c
    rw [v_hx]
    split <;> omega
  · have := v_hs hK hx ht
    have e : h = (x + 1) % 4 ∨ h = (x + 2) % 4 ∨ h = (x + 3) % 4 := by omega
    have b : (if q_sc (q_P D) x t = 1 then q_dv D (-1) (-1) x else 0) ≤ q_dv D (-1) (-1) x := by split <;> omega
    rcases e with rfl | rfl | rfl <;> omega
theorem v_hp (hK : q_K D n p T V) (hX : u_X (q_c D 1) n p T V) {x t w : Nat} (hx : x < 4) (ht : t < 28) (hw : w < 4) (e : q_P D t = Int32.ofNat w) : 0 < q_hv D x w t := by
  by_cases c : w = x
  · subst c
    rw [v_hx, if_pos e]
    exact v_dv_pos hK hX hx (fun s hs q => absurd q (q_nm (by omega)))
  · rw [v_ho D c, if_pos (by rw [q_sc_w (by omega) e, if_pos ⟨hw, c⟩])]
    exact v_dv_pos hK hX hx (fun s hs q => by rw [q_ofN (by omega) (by omega) q]; exact e)
theorem v_sx (hK : q_K D n p T V) (hX : u_X (q_c D 1) n p T V) {x : Nat} (hx : x < 4) : q_su D x x = q_cnt (q_P D) (Int32.ofNat x) := by
  have hp := v_dv_pos hK hX hx (r := -1) (h := -1) (fun s hs q => absurd q (q_nm (by omega)))
  unfold q_su
  rw [if_neg (by omega), q_cnt_def]
  refine q_S_congr 28 0 fun t _ ht => ?_
  rw [v_hx]
  by_cases c : q_P D t = Int32.ofNat x
  · rw [if_pos c, if_pos c, if_pos rfl]
  · rw [if_neg c, if_neg c, if_neg (by omega)]
theorem v_so (hK : q_K D n p T V) (hX : u_X (q_c D 1) n p T V) {x h : Nat} (hx : x < 4) (hh : h < 4) (hne : h ≠ x) : q_su D x h ≤ q_cnt (q_P D) (Int32.ofNat h) := by
  have hp := v_dv_pos hK hX hx (r := -1) (h := -1) (fun s hs q => absurd q (q_nm (by omega)))
  unfold q_su
  rw [if_neg (by omega), q_cnt_def]
  refine q_S_le 28 0 fun t _ ht => ?_
  by_cases c : q_P D t = Int32.ofNat h
  · rw [if_pos c]; split <;> omega
  · rw [if_neg c]
    by_cases d : q_hv D x h t = q_dv D (-1) (-1) x
    · exfalso
      obtain ⟨w, hw, e⟩ := k_pw hK t (by omega)
      have hsc : q_sc (q_P D) x t = 1 := by
        by_cases f : q_sc (q_P D) x t = 1
        · exact f
        · rw [v_ho D hne, if_neg f] at d; omega
      rw [q_sc_w hw e] at hsc
      have hw' : w < 4 ∧ w ≠ x := by
        by_cases f : w < 4 ∧ w ≠ x
        · exact f
        · rw [if_neg f] at hsc; omega
      have hwh : w ≠ h := fun q => c (by rw [e, q])
      have h1 := v_hp hK hX hx (t := t) (by omega) hw'.1 e
      have h2 := v_hs hK hx (t := t) (by omega)
      rw [q_sc_w hw e, if_pos hw', if_pos rfl] at h2
      have e1 : h = (x + 1) % 4 ∨ h = (x + 2) % 4 ∨ h = (x + 3) % 4 := by omega
      have e2 : w = (x + 1) % 4 ∨ w = (x + 2) % 4 ∨ w = (x + 3) % 4 := by omega
      rcases e1 with a1 | a1 | a1 <;> rcases e2 with a2 | a2 | a2 <;> first | (exfalso; exact hwh (a2.trans a1.symm)) | (rw [a1] at d; rw [a2] at h1; omega)
    · rw [if_neg d]; exact Nat.le_refl 0
/-- the loop over the hands -/
theorem u294_102 (hN : 2000 ≤ N) (hD : q_tb D) (hK : q_K D n p T V) (hX : u_X (q_c D 1) n p T V) {x t : Nat} (hx : x < 4) (ht : t < 28) (v2 v5 : Int32) : ∀ (k i m s : Nat) (G : am_D), i + k = 4 → k < m → q_E D G → ∃ G', m294_L102 N (Int32.ofNat x) v2 (Int32.ofNat (q_dv D (-1) (-1) x)) v5 (Int32.ofNat t) (q_P D t) m G 1 (Int32.ofNat s) (Int32.ofNat i) = some (1, Int32.ofNat (s + q_S (v_f D x t) i k), G') ∧ q_E D G'
  | 0, i, m + 1, s, G, hi, hm, hE => by
    obtain rfl : i = 4 := by omega
    rw [m294_L102, if_pos (by decide)]
    exact ⟨G, rfl, hE⟩
  | k + 1, i, m + 1, s, G, hi, hm, hE => by
    have hi4 : i < 4 := by omega
    have hp := v_dv_pos hK hX hx (r := -1) (h := -1) (fun s hs q => absurd q (q_nm (by omega)))
    have hdl := q_dv_le hK hx (-1) (-1)
    have hle := v_le hK hx hi4 ht
    obtain ⟨E, a1, a2⟩ := q25 hN (v_tb hE hD) (q_E_K hE hK) hx hi4 ht
    rw [q_hv_cg (hE.1 107 (by omega))] at a1
    have hE1 := hE.tr a2
    obtain ⟨F, b1, b2⟩ := q27 f_F1 hN (v_tb hE1 hD) (q_E_K hE1 hK) hx hi4 ht
    rw [q_lv_cg (hE1.1 107 (by omega))] at b1
    have hE2 := hE1.tr b2
    have hnz : ¬ Int32.ofNat (q_dv D (-1) (-1) x) = 0 := fun q => absurd (q_ofN (b := 0) (by omega) (by omega) q) (by omega)
    have hlv : q_lv D x i t = FP.ddiv (FP.i2d (Int32.ofNat (q_hv D x i t))) (FP.i2d (Int32.ofNat (q_dv D (-1) (-1) x))) := by
      unfold q_lv
      rw [if_neg (by omega)]
    rw [hlv] at b1
    rw [m294_L102, if_neg (show ¬ (4 : Int32) ≤ Int32.ofNat i from q_nle (b := 4) (by omega) hi4), a1, Option.bind_some, w_inl, Option.bind_some, w_lt, w_lt, if_neg (show ¬ (1 : Int32) = 0 by decide), if_neg (show ¬ Int32.ofNat (q_hv D x i t) < 0 from q_nlt (a := 0) (by omega) (by omega)), if_neg (show ¬ Int32.ofNat (q_dv D (-1) (-1) x) < Int32.ofNat (q_hv D x i t) from q_nlt (by omega) hle)]
    have hs : Int32.ofNat s + (if Int32.ofNat i = Int32.ofNat x then (0 : Int32) else Int32.ofNat (q_hv D x i t)) = Int32.ofNat (s + v_f D x t i) := by
      unfold v_f
      by_cases c : i = x
      · rw [if_pos c, if_pos (by rw [c])]; exact q_add s 0
      · rw [if_neg c, if_neg (fun q => c (q_ofN (by omega) (by omega) q)), q_add]
    have hq : (if Int32.ofNat i = Int32.ofNat x then Int32.ofNat (q_hv D x i t) = (if q_P D t = Int32.ofNat x then Int32.ofNat (q_dv D (-1) (-1) x) else (0 : Int32)) else True) := by
      by_cases c : i = x
      · subst c
        rw [if_pos rfl, v_hx]
        by_cases d : q_P D t = Int32.ofNat i
        · rw [if_pos d, if_pos d]
        · rw [if_neg d, if_neg d]; rfl
      · rw [if_neg (fun q => c (q_ofN (by omega) (by omega) q))]; trivial
    obtain ⟨G', g1, g2⟩ := u294_102 hN hD hK hX hx ht v2 v5 k (i + 1) m (s + v_f D x t i) F (by omega) (by omega) hE2
    refine ⟨G', ?_, g2⟩
    have hfin : s + q_S (v_f D x t) i (k + 1) = s + v_f D x t i + q_S (v_f D x t) (i + 1) k := by
      show s + (v_f D x t i + q_S (v_f D x t) (i + 1) k) = _
      omega
    rw [hfin, ← g1, hs]
    by_cases c : Int32.ofNat i = Int32.ofNat x
    · rw [if_pos c] at hq
      rw [if_pos c, w_lt, if_pos hq, b1, Option.bind_some, w_inl, Option.bind_some, if_neg hnz, if_pos (f_F1 _ _ hnz), Option.bind_some, if_pos (f_fn _ _ hnz), Option.bind_some, w_lt, show Int32.ofNat i + 1 = Int32.ofNat (i + 1) from q_add i 1]
    · rw [if_neg c, b1, Option.bind_some, w_inl, Option.bind_some, if_neg hnz, if_pos (f_F1 _ _ hnz), Option.bind_some, if_pos (f_fn _ _ hnz), Option.bind_some, w_lt, show Int32.ofNat i + 1 = Int32.ofNat (i + 1) from q_add i 1]
  | _, _, 0, _, _, _, hm, _ => by omega
/-- the loop over the tiles -/
theorem u294_70 (hN : 2000 ≤ N) (hD : q_tb D) (hK : q_K D n p T V) (hX : u_X (q_c D 1) n p T V) {x f : Nat} (hx : x < 4) (hf : f < 28) : ∀ (k i m : Nat) (G : am_D), i + k = 5 → k < m → q_E D G → ∃ G', m294_L70 N (Int32.ofNat x) (Int32.ofNat f) (Int32.ofNat (q_dv D (-1) (-1) x)) m G 1 (Int32.ofNat i) = some (1, G') ∧ q_E D G'
  | 0, i, m + 1, G, hi, hm, hE => by
    obtain rfl : i = 5 := by omega
    rw [m294_L70, if_pos (by decide)]
    exact ⟨G, rfl, hE⟩
  | k + 1, i, m + 1, G, hi, hm, hE => by
    have hi5 : i < 5 := by omega
    have ht : (f + 5 * i) % 28 < 28 := by omega
    have eq1 : (Int32.ofNat f + (5 : Int32) * Int32.ofNat i) - (Int32.ofNat f + (5 : Int32) * Int32.ofNat i) / (28 : Int32) * (28 : Int32) = Int32.ofNat ((f + 5 * i) % 28) := by
      rw [show (5 : Int32) * Int32.ofNat i = Int32.ofNat (5 * i) from q_mul 5 i, q_add]
      exact q_mod (b := 28) (by omega) (by omega)
    have hKG := q_E_K hE hK
    have hp := v_dv_pos hK hX hx (r := -1) (h := -1) (fun s hs q => absurd q (q_nm (by omega)))
    have hdl := q_dv_le hK hx (-1) (-1)
    generalize (f + 5 * i) % 28 = t at ht eq1
    have eP : G.1 7 t = q_P D t := by rw [hE.1 7 (by omega)]; exact k_pl hK t ht
    obtain ⟨w, hw, ew⟩ := k_pw hK t ht
    obtain ⟨F, a1, a2⟩ := u294_102 hN hD hK hX hx ht (Int32.ofNat f) (Int32.ofNat i) 4 0 N 0 G (by omega) (by omega) hE
    rw [Nat.zero_add, v_fs hK hx ht, q_sc_w hw ew] at a1
    have a1' : m294_L102 N (Int32.ofNat x) (Int32.ofNat f) (Int32.ofNat (q_dv D (-1) (-1) x)) (Int32.ofNat i) (Int32.ofNat t) (q_P D t) N G 1 0 0 = _ := a1
    have es : (if (4 : Int32) ≤ q_P D t then (0 : Int32) else (if q_P D t = Int32.ofNat x then (0 : Int32) else Int32.ofNat (q_dv D (-1) (-1) x))) = Int32.ofNat (if (if w < 4 ∧ w ≠ x then 1 else 0) = 1 then q_dv D (-1) (-1) x else 0) := by
      rw [ew]
      by_cases c : w < 4
      · rw [if_neg (show ¬ (4 : Int32) ≤ Int32.ofNat w from q_nle (b := 4) (by omega) c)]
        by_cases d : w = x
        · rw [if_pos (by rw [d]), if_neg (show ¬ (w < 4 ∧ w ≠ x) from fun q => q.2 d), if_neg (by decide)]; rfl
        · rw [if_neg (fun q => d (q_ofN (by omega) (by omega) q)), if_pos (show w < 4 ∧ w ≠ x from ⟨c, d⟩), if_pos rfl]
      · rw [if_pos (show (4 : Int32) ≤ Int32.ofNat w from q_yle (a := 4) (by omega) (by omega)), if_neg (show ¬ (w < 4 ∧ w ≠ x) from fun q => c q.1), if_neg (by decide)]; rfl
    obtain ⟨M, m1, m2⟩ : ∃ M, ((if F.1 1 6 = (1 : Int32) then (if (3 : Int32) < q_P D t then (some ((1 : Int32), F)) else ((m25 N F (Int32.ofNat x) (q_P D t) (Int32.ofNat t)).bind fun q111 => ((am_inl q111.1).bind fun x113 => (if x113 ≤ 0 then (some ((0 : Int32), q111.2)) else (some ((1 : Int32), q111.2)))))) else (some ((1 : Int32), F)))) = some (1, M) ∧ q_E D M := by
      by_cases c : F.1 1 6 = (1 : Int32)
      · rw [if_pos c]
        by_cases d : w < 4
        · obtain ⟨M, m1, m2⟩ := q25 hN (v_tb a2 hD) (q_E_K a2 hK) hx d ht
          rw [q_hv_cg (a2.1 107 (by omega))] at m1
          have hpos := v_hp hK hX hx ht d ew
          have hle := v_le hK hx d ht
          refine ⟨M, ?_, a2.tr m2⟩
          rw [ew, if_neg (show ¬ (3 : Int32) < Int32.ofNat w from q_nlt (b := 3) (by omega) (by omega)), m1, Option.bind_some, w_inl, Option.bind_some, if_neg (show ¬ Int32.ofNat (q_hv D x w t) ≤ 0 from q_nle (a := 0) (by omega) hpos)]
        · refine ⟨F, ?_, a2⟩
          rw [ew, if_pos (show (3 : Int32) < Int32.ofNat w from q_ylt (a := 3) (by omega) (by omega))]
      · rw [if_neg c]
        exact ⟨F, rfl, a2⟩
    obtain ⟨G', g1, g2⟩ := u294_70 hN hD hK hX hx hf k (i + 1) m M (by omega) (by omega) m2
    refine ⟨G', ?_, g2⟩
    rw [m294_L70, if_neg (show ¬ (5 : Int32) ≤ Int32.ofNat i from q_nle (b := 5) (by omega) hi5), w_lt, eq1, w18p G ht, Option.bind_some, w_inl, Option.bind_some, eP, a1', Option.bind_some, if_neg (show ¬ (1 : Int32) = 0 by decide)]
    dsimp only
    rw [w_lt, if_pos es.symm, w22_0, Option.bind_some, w_inl, Option.bind_some, m1, Option.bind_some, w_lt, show Int32.ofNat i + 1 = Int32.ofNat (i + 1) from q_add i 1]
    exact g1
  | _, _, 0, _, _, hm, _ => by omega
theorem a_deals (hN : 2000 ≤ N) (hI : u_I D) {x f : Nat} (hx : x < 4) (hf : f < 28) : ∃ E, m294 N D (Int32.ofNat x) (Int32.ofNat f) = some (1, E) ∧ q_E D E := by
  obtain ⟨n, p, T, V, hK, hX⟩ := u_K hI
  have hD : q_tb D := hI.2.2.2.2.2
  have hp := v_dv_pos hK hX hx (r := -1) (h := -1) (fun s hs q => absurd q (q_nm (by omega)))
  have hdl := q_dv_le hK hx (-1) (-1)
  have hnz : ¬ Int32.ofNat (q_dv D (-1) (-1) x) = 0 := fun q => absurd (q_ofN (b := 0) (by omega) (by omega) q) (by omega)
  obtain ⟨E1, a1, a2⟩ := q24c hN hK hx
  obtain ⟨E2, b1, b2⟩ := q24k hN (v_tb a2 hD) (q_E_K a2 hK) hx
  rw [q_dv_cg (a2.1 107 (by omega))] at b1
  have h2 := a2.tr b2
  obtain ⟨E3, c1, c2⟩ := q26 hN (v_tb h2 hD) (q_E_K h2 hK) hx hx
  rw [q_su_cg (h2.1 107 (by omega)), v_sx hK hX hx] at c1
  have h3 := h2.tr c2
  have cn : ∀ {G : am_D}, q_E D G → ∀ {y : Nat}, y < 4 → m21 N G (Int32.ofNat y) 0 = some (Sum.inl (Int32.ofNat (q_cnt (q_P D) (Int32.ofNat y))), G) := fun {G} hG {y} hy => by
    rw [w21c hN G hy, q_cnt_congr (g := q_P D) (fun t ht => by rw [hG.1 7 (by omega)]; exact k_pl hK t ht)]
  have hs : (if E2.1 1 6 = (1 : Int32) then (if Int32.ofNat (q_dv D (-1) (-1) x) < (1 : Int32) then (some ((0 : Int32), E2)) else (if Int32.ofNat (q_dv D (-1) (-1) x) = 0 then (some ((1 : Int32), E2)) else ((m26 N E2 (Int32.ofNat x) (Int32.ofNat x)).bind fun q22 => ((am_inl q22.1).bind fun x24 => ((m21 N q22.2 (Int32.ofNat x) (0 : Int32)).bind fun q26 => ((am_inl q26.1).bind fun x28 => (if x24 = x28 then (some ((1 : Int32), q26.2)) else (some ((0 : Int32), q26.2))))))))) else (if Int32.ofNat (q_dv D (-1) (-1) x) = 0 then (some ((1 : Int32), E2)) else ((m26 N E2 (Int32.ofNat x) (Int32.ofNat x)).bind fun q32 => ((am_inl q32.1).bind fun x34 => ((m21 N q32.2 (Int32.ofNat x) (0 : Int32)).bind fun q36 => ((am_inl q36.1).bind fun x38 => (if x34 = x38 then (some ((1 : Int32), q36.2)) else (some ((0 : Int32), q36.2))))))))) = some (1, E3) := by
    rw [if_neg (show ¬ Int32.ofNat (q_dv D (-1) (-1) x) < (1 : Int32) from q_nlt (a := 1) (by omega) (by omega)), if_neg hnz, c1, Option.bind_some, w_inl, Option.bind_some]
    dsimp only
    rw [cn h3 hx, Option.bind_some, w_inl, Option.bind_some, if_pos rfl]
    exact ite_self _
  obtain ⟨E4, d1, d2⟩ := u294_70 hN hD hK hX hx hf 5 0 N E3 (by omega) (by omega) h3
  have d1' : m294_L70 N (Int32.ofNat x) (Int32.ofNat f) (Int32.ofNat (q_dv D (-1) (-1) x)) N E3 1 0 = _ := d1
  have hy : (x + 1) % 4 < 4 := by omega
  obtain ⟨E5, e1, e2⟩ := q26 hN (v_tb d2 hD) (q_E_K d2 hK) hx hy
  rw [q_su_cg (d2.1 107 (by omega))] at e1
  have h5 := d2.tr e2
  obtain ⟨E6, f1, f2⟩ := q26 hN (v_tb h5 hD) (q_E_K h5 hK) hx hy
  rw [q_su_cg (h5.1 107 (by omega))] at f1
  have hso := v_so hK hX hx hy (by omega)
  have hcl := q_cnt_le (q_P D) (Int32.ofNat ((x + 1) % 4))
  refine ⟨E6, ?_, h5.tr f2⟩
  unfold m294
  rw [show m24 N D (Int32.ofNat x) (0 : Int32) = _ from a1, Option.bind_some, w_inl, Option.bind_some]
  dsimp only
  rw [show m24 N E1 (Int32.ofNat x) (1 : Int32) = _ from b1, Option.bind_some, w_inl, Option.bind_some, if_pos rfl, if_neg (show ¬ Int32.ofNat (q_dv D (-1) (-1) x) < 0 from q_nlt (a := 0) (by omega) (by omega)), if_neg (show ¬ Int32.ofNat 399072960 < Int32.ofNat (q_dv D (-1) (-1) x) from q_nlt (by omega) hdl)]
  dsimp only
  rw [w22_0, Option.bind_some, w_inl, Option.bind_some, hs, Option.bind_some, d1', Option.bind_some, w_lt, show (Int32.ofNat x + (1 : Int32)) - (Int32.ofNat x + (1 : Int32)) / (4 : Int32) * (4 : Int32) = Int32.ofNat ((x + 1) % 4) by
    rw [show Int32.ofNat x + 1 = Int32.ofNat (x + 1) from q_add x 1]; exact q_mod (b := 4) (by omega) (by omega), if_neg (show ¬ (1 : Int32) = 0 by decide), e1, Option.bind_some, w_inl, Option.bind_some]
  dsimp only
  rw [cn h5 hy, Option.bind_some, w_inl, Option.bind_some, if_neg (q_nlt (by omega) hso), f1, Option.bind_some, w_inl, Option.bind_some, if_neg (show ¬ Int32.ofNat (q_su D x ((x + 1) % 4)) < 0 from q_nlt (a := 0) (by omega) (by omega))]
end VB
