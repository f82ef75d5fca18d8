/-! deals: the real one is one of them, and they fall to the hands -/
section VA
variable {D E : am_D} {N : Nat} {n p : Nat} {T V : Nat → Nat}
theorem f_nn {x : UInt64} (h : FP.Core.dIsNaN x = false) : x &&& 0x7fffffffffffffff ≤ 0x7ff0000000000000 := by
  have h1 : ¬ 9218868437227405312 < x.toNat % 2 ^ 63 := fun q => by
    rw [(FP.Core.isNaN_bits x).mpr q] at h
    cases h
  rw [UInt64.le_iff_toNat_le, UInt64.toNat_and]
  show x.toNat &&& (2 ^ 63 - 1) ≤ 9218868437227405312
  rw [Nat.and_two_pow_sub_one_eq_mod]
  omega
theorem f_dn (a b : Int32) (hb : ¬ b = 0) : FP.Core.dIsNaN (FP.ddiv (FP.i2d a) (FP.i2d b)) = false := FP.Core.ddiv_out (by
  obtain ⟨s, c, q, h⟩ := FP.Core.i2d_fin a
  exact (FP.Core.notNaN_iff _).mpr (by rw [show FP.i2d a = FP.Core.i2d a from rfl, h]; intro q; cases q)) (FP.Core.i2d_fin b) (fun hz => FP.Core.i2d_ne_zero hb ((FP.Core.zero_bits2 _).mp hz))
theorem f_F1 : q_F1 := fun a b hb => f_nn (f_dn a b hb)
theorem f_fn (a b : Int32) (hb : ¬ b = 0) : Op.cmpValue (FP.dcmp (FP.ddiv (FP.i2d a) (FP.i2d b)) (FP.ddiv (FP.i2d a) (FP.i2d b))) .l = 0 := by
  have h := (FP.Core.notNaN_iff _).mp (f_dn a b hb)
  show Op.cmpValue (FP.Core.order (FP.Core.val64 _) (FP.Core.val64 _)) .l = 0
  generalize FP.Core.val64 (FP.ddiv (FP.i2d a) (FP.i2d b)) = y at h
  cases y with
  | nan => exact absurd rfl h
  | inf s => cases s <;> decide
  | fin s c q =>
    have : FP.Core.order (.fin s c q) (.fin s c q) = some .eq := by
      cases s
      all_goals (
        show some (compareOfLessAndEq _ _) = some .eq
        unfold compareOfLessAndEq
        rw [if_neg (by omega), if_pos rfl])
    rw [this]
    decide
/-- one deal more -/
theorem v_St {k j a b : Nat} {f : Nat → Nat → Nat} (hj : j < 3) (hk : k / 2 ^ j % 2 = 1) (h : 0 < f a b) : 0 < q_St k f (a + if j = 0 then 1 else 0) (b + if j = 1 then 1 else 0) := by
  unfold q_St
  obtain rfl | rfl | rfl : j = 0 ∨ j = 1 ∨ j = 2 := by omega
  · rw [if_pos (show k % 2 = 1 ∧ 0 < a + if 0 = 0 then 1 else 0 from ⟨by rw [Nat.pow_zero, Nat.div_one] at hk; exact hk, by rw [if_pos rfl]; omega⟩)]
    show 0 < f (a + 1 - 1) (b + 0) + _ + _
    rw [Nat.add_sub_cancel, Nat.add_zero]
    omega
  · rw [if_pos (show k / 2 % 2 = 1 ∧ 0 < b + if 1 = 1 then 1 else 0 from ⟨hk, by rw [if_pos rfl]; omega⟩)]
    show 0 < _ + f (a + 0) (b + 1 - 1) + _
    rw [Nat.add_sub_cancel, Nat.add_zero]
    omega
  · rw [if_pos (show k / 4 % 2 = 1 from hk)]
    show 0 < _ + _ + f (a + 0) (b + 0)
    rw [Nat.add_zero, Nat.add_zero]
    omega
theorem v_pos {κ g : Nat → Nat} : ∀ L : List Nat, (∀ t, t ∈ L → g t < 3 ∧ κ t / 2 ^ g t % 2 = 1) → 0 < q_V κ L (L.countP (fun t => g t = 0)) (L.countP (fun t => g t = 1))
  | [], _ => Nat.lt_succ_self 0
  | t :: L, h => by
    have ih := v_pos L (fun s hs => h s (List.mem_cons_of_mem _ hs))
    obtain ⟨h1, h2⟩ := h t (List.mem_cons_self)
    rw [List.countP_cons, List.countP_cons]
    have := v_St (k := κ t) (j := g t) h1 h2 ih
    show 0 < q_St (κ t) (q_V κ L) _ _
    simp only [decide_eq_true_eq]
    exact this
/-- how many of the tiles of others are a hand's -/
theorem v_cnt {f : Nat → Int32} {x h : Nat} (hh : h < 4) (hne : h ≠ x) (hf : ∀ t, t < 28 → ∃ w, w < 6 ∧ f t = Int32.ofNat w) : ∀ k, k ≤ 28 → (q_ls f x k).countP (fun t => f t = Int32.ofNat h) = q_S (fun t => if f t = Int32.ofNat h then 1 else 0) 0 k
  | 0, _ => rfl
  | k + 1, hk => by
    have ih := v_cnt hh hne hf k (by omega)
    obtain ⟨w, hw, e⟩ := hf k (by omega)
    rw [q_S_last, Nat.zero_add]
    show (if q_sc f x k = 1 then k :: q_ls f x k else q_ls f x k).countP _ = _
    rw [q_sc_w hw e]
    by_cases c : w < 4 ∧ w ≠ x
    · rw [if_pos c, if_pos rfl, List.countP_cons, ih]
      simp only [decide_eq_true_eq]
    · rw [if_neg c, if_neg (by decide), ih, if_neg (fun q => c ?_)]
      · rfl
      · have : w = h := q_ofN (by omega) (by omega) (e.symm.trans q)
        subst this
        exact ⟨hh, hne⟩
/-- which of the three others -/
def v_g (x w : Nat) : Nat := (w + 3 - x) % 4
theorem v_g_i : ∀ x, x < 4 → ∀ w, w < 4 → w ≠ x → v_g x w < 3 ∧ (x + 1 + v_g x w) % 4 = w ∧ ∀ j, j < 3 → (v_g x w = j ↔ w = (x + 1 + j) % 4) := by decide
theorem v_kr (D : am_D) (r h : Int32) (x t : Nat) {j : Nat} (hj : j < 3) : q_kr D r h x t / 2 ^ j % 2 = q_pm D r h ((x + 1 + j) % 4) t := by
  have h1 := q_pm_le D r h ((x + 1) % 4) t
  have h2 := q_pm_le D r h ((x + 2) % 4) t
  have h3 := q_pm_le D r h ((x + 3) % 4) t
  unfold q_kr
  obtain rfl | rfl | rfl : j = 0 ∨ j = 1 ∨ j = 2 := by omega
  · rw [Nat.pow_zero, Nat.div_one]; show _ = q_pm D r h ((x + 1) % 4) t; omega
  · rw [Nat.pow_one]; show _ = q_pm D r h ((x + 2) % 4) t; omega
  · show _ / 4 % 2 = q_pm D r h ((x + 3) % 4) t; omega
theorem v_dv_pos (hK : q_K D n p T V) (hX : u_X (q_c D 1) n p T V) {x : Nat} (hx : x < 4) {r h : Int32} (hr : ∀ t, t < 28 → Int32.ofNat t = r → q_P D t = h) : 0 < q_dv D r h x := by
  have hf := k_pw hK
  unfold q_dv
  have c0 : q_cnt (q_P D) (Int32.ofNat ((x + 1) % 4)) = (q_ls (q_P D) x 28).countP (fun t => v_g x (q_P D t).toNatClampNeg = 0) := by
    rw [q_cnt_def, ← v_cnt (x := x) (by omega) (by omega) hf 28 (by omega)]
    refine List.countP_congr fun t ht => ?_
    obtain ⟨h1, h2⟩ := (q_ls_m 28 t).mp ht
    obtain ⟨w, hw, e⟩ := hf t h1
    rw [q_sc_w hw e] at h2
    have hw' : w < 4 ∧ w ≠ x := by
      by_cases c : w < 4 ∧ w ≠ x
      · exact c
      · rw [if_neg c] at h2; omega
    simp only [decide_eq_true_eq]
    rw [e, q_tn (by omega), (v_g_i x hx w hw'.1 hw'.2).2.2 0 (by omega)]
    exact ⟨fun q => q_ofN (by omega) (by omega) q, fun q => by rw [q]⟩
  have c1 : q_cnt (q_P D) (Int32.ofNat ((x + 2) % 4)) = (q_ls (q_P D) x 28).countP (fun t => v_g x (q_P D t).toNatClampNeg = 1) := by
    rw [q_cnt_def, ← v_cnt (x := x) (by omega) (by omega) hf 28 (by omega)]
    refine List.countP_congr fun t ht => ?_
    obtain ⟨h1, h2⟩ := (q_ls_m 28 t).mp ht
    obtain ⟨w, hw, e⟩ := hf t h1
    rw [q_sc_w hw e] at h2
    have hw' : w < 4 ∧ w ≠ x := by
      by_cases c : w < 4 ∧ w ≠ x
      · exact c
      · rw [if_neg c] at h2; omega
    simp only [decide_eq_true_eq]
    rw [e, q_tn (by omega), (v_g_i x hx w hw'.1 hw'.2).2.2 1 (by omega)]
    exact ⟨fun q => q_ofN (by omega) (by omega) q, fun q => by rw [q]⟩
  rw [c0, c1]
  refine v_pos (g := fun t => v_g x (q_P D t).toNatClampNeg) _ fun t ht => ?_
  obtain ⟨h1, h2⟩ := (q_ls_m 28 t).mp ht
  obtain ⟨w, hw, e⟩ := hf t h1
  rw [q_sc_w hw e] at h2
  have hw' : w < 4 ∧ w ≠ x := by
    by_cases c : w < 4 ∧ w ≠ x
    · exact c
    · rw [if_neg c] at h2; omega
  obtain ⟨g1, g2, -⟩ := v_g_i x hx w hw'.1 hw'.2
  rw [e, q_tn (by omega), v_kr _ _ _ _ _ g1, g2]
  refine ⟨g1, ?_⟩
  unfold q_pm
  rw [if_neg (fun q => q.2 ((hr t h1 q.1).symm.trans e))]
  have h6 := hX.2.2.2.1 w t hw'.1 h1 (by
    show D.1 7 t = _
    rw [k_pl hK t h1]; exact e)
  have h9 : q_lkm D w = (q_c D 1 8 w).toNatClampNeg := by
    unfold q_lkm
    show _ = (D.1 9 w).toNatClampNeg
    rw [k_la hK w hw'.1]
  rw [h9]
  exact h6
/-- a tile taken out -/
theorem v_er {κ κ' : Nat → Nat} {t0 : Nat} (h : ∀ t, t ≠ t0 → κ' t = κ t) : ∀ L : List Nat, t0 ∈ L → L.Nodup → q_V κ' L = q_St (κ' t0) (q_V κ (L.erase t0))
  | [], h0, _ => by cases h0
  | t :: L, h0, hn => by
    obtain ⟨n1, n2⟩ := List.nodup_cons.mp hn
    by_cases c : t = t0
    · subst c
      rw [List.erase_cons_head]
      show q_St (κ' t) (q_V κ' L) = _
      rw [q_V_cg L (fun s hs => h s (fun q => n1 (q ▸ hs)))]
    · rw [List.erase_cons_tail (by simpa using c)]
      have hm : t0 ∈ L := by
        rcases List.mem_cons.mp h0 with q | q
        · exact absurd q.symm c
        · exact q
      show q_St (κ' t) (q_V κ' L) = q_St (κ' t0) (q_St (κ t) (q_V κ (L.erase t0)))
      rw [v_er h L hm n2, h t c, q_St_c]
theorem v_St3 (f : Nat → Nat → Nat) (a b : Nat) {u0 u1 u2 : Nat} (h0 : u0 ≤ 1) (h1 : u1 ≤ 1) (h2 : u2 ≤ 1) : q_St (u0 + 2 * 0 + 4 * 0) f a b + q_St (0 + 2 * u1 + 4 * 0) f a b + q_St (0 + 2 * 0 + 4 * u2) f a b = q_St (u0 + 2 * u1 + 4 * u2) f a b := by
  obtain rfl | rfl : u0 = 0 ∨ u0 = 1 := by omega
  all_goals (
    obtain rfl | rfl : u1 = 0 ∨ u1 = 1 := by omega
    all_goals (
      obtain rfl | rfl : u2 = 0 ∨ u2 = 1 := by omega
      all_goals (
        unfold q_St
        simp only [Nat.mul_zero, Nat.mul_one, Nat.add_zero, Nat.zero_add, Nat.reduceAdd, Nat.reduceDiv, Nat.reduceMod, Nat.reduceEqDiff, true_and, false_and, if_true, if_false, Nat.zero_div, Nat.zero_mod, show ¬ (0 : Nat) = 1 from by decide]
        try omega)))
theorem v_sum (hK : q_K D n p T V) {x t0 : Nat} (hx : x < 4) (ht0 : t0 < 28) (hs : q_sc (q_P D) x t0 = 1) : q_dv D (Int32.ofNat t0) (Int32.ofNat ((x + 1) % 4)) x + q_dv D (Int32.ofNat t0) (Int32.ofNat ((x + 2) % 4)) x + q_dv D (Int32.ofNat t0) (Int32.ofNat ((x + 3) % 4)) x = q_dv D (-1) (-1) x := by
  have hm : t0 ∈ q_ls (q_P D) x 28 := (q_ls_m 28 t0).mpr ⟨ht0, hs⟩
  have hn := q_ls_nd (f := q_P D) (x := x) 28
  have q1 : ∀ h t, t < 28 → t ≠ t0 → ∀ o, q_pm D (Int32.ofNat t0) h o t = q_pm D (-1) (-1) o t := fun h t ht hne o => by
    unfold q_pm
    rw [if_neg (fun q => hne (q_ofN (by omega) (by omega) q.1)), if_neg (fun q => absurd q.1 (q_nm (by omega)))]
  have qe : ∀ κ' : Nat → Nat, (∀ t, t < 28 → t ≠ t0 → κ' t = q_kr D (-1) (-1) x t) → q_V κ' (q_ls (q_P D) x 28) = q_St (κ' t0) (q_V (q_kr D (-1) (-1) x) ((q_ls (q_P D) x 28).erase t0)) := fun κ' hk => by
    have e0 : q_V κ' (q_ls (q_P D) x 28) = q_V (fun t => if t < 28 then κ' t else q_kr D (-1) (-1) x t) (q_ls (q_P D) x 28) := (q_V_cg _ (fun t ht => by rw [if_pos ((q_ls_m 28 t).mp ht).1])).symm.symm
    rw [e0, v_er (κ := q_kr D (-1) (-1) x) (t0 := t0) (fun t hne => ?_) _ hm hn, if_pos ht0]
    by_cases c : t < 28
    · rw [if_pos c]; exact hk t c hne
    · rw [if_neg c]
  have hk : ∀ h t, t < 28 → t ≠ t0 → q_kr D (Int32.ofNat t0) h x t = q_kr D (-1) (-1) x t := fun h t ht hne => by
    unfold q_kr
    rw [q1 h t ht hne, q1 h t ht hne, q1 h t ht hne]
  have q2 : ∀ h o, h < 4 → o < 4 → q_pm D (Int32.ofNat t0) (Int32.ofNat h) o t0 = if h = o then q_pm D (-1) (-1) o t0 else 0 := fun h o hh ho => by
    unfold q_pm
    rw [if_neg (show ¬ (Int32.ofNat t0 = -1 ∧ _) from fun q => absurd q.1 (q_nm (by omega)))]
    by_cases c : h = o
    · rw [if_pos c, if_neg (fun q => q.2 (by rw [c]))]
    · rw [if_neg c, if_pos ⟨rfl, fun q => c (q_ofN (by omega) (by omega) q)⟩]
  unfold q_dv
  rw [qe _ (hk _), qe _ (hk _), qe _ (hk _), qe _ (fun t _ _ => rfl)]
  have k1 : q_kr D (Int32.ofNat t0) (Int32.ofNat ((x + 1) % 4)) x t0 = q_pm D (-1) (-1) ((x + 1) % 4) t0 + 2 * 0 + 4 * 0 := by
    unfold q_kr
    rw [q2 _ _ (by omega) (by omega), q2 _ _ (by omega) (by omega), q2 _ _ (by omega) (by omega), if_pos rfl, if_neg (by omega), if_neg (by omega)]
  have k2 : q_kr D (Int32.ofNat t0) (Int32.ofNat ((x + 2) % 4)) x t0 = 0 + 2 * q_pm D (-1) (-1) ((x + 2) % 4) t0 + 4 * 0 := by
    unfold q_kr
    rw [q2 _ _ (by omega) (by omega), q2 _ _ (by omega) (by omega), q2 _ _ (by omega) (by omega), if_pos rfl, if_neg (by omega), if_neg (by omega)]
  have k3 : q_kr D (Int32.ofNat t0) (Int32.ofNat ((x + 3) % 4)) x t0 = 0 + 2 * 0 + 4 * q_pm D (-1) (-1) ((x + 3) % 4) t0 := by
    unfold q_kr
    rw [q2 _ _ (by omega) (by omega), q2 _ _ (by omega) (by omega), q2 _ _ (by omega) (by omega), if_pos rfl, if_neg (by omega), if_neg (by omega)]
  rw [k1, k2, k3, v_St3 _ _ _ (q_pm_le _ _ _ _ _) (q_pm_le _ _ _ _ _) (q_pm_le _ _ _ _ _)]
  rfl
end VA
