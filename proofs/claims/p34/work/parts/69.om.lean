/-! deals: both sides count the same; one tile in a certain hand -/
section OM
variable {D : am_D} {N n p : Nat} {T V : Nat → Nat}
def q_kr (D : am_D) (r h : Int32) (x t : Nat) : Nat := q_pm D r h ((x + 1) % 4) t + 2 * q_pm D r h ((x + 2) % 4) t + 4 * q_pm D r h ((x + 3) % 4) t
/-- the number of deals for one who looks into the hand x, where the tile r comes to the hand h -/
noncomputable def q_dv (D : am_D) (r h : Int32) (x : Nat) : Nat := q_V (q_kr D r h x) (q_ls (q_P D) x 28) (q_cnt (q_P D) (Int32.ofNat ((x + 1) % 4))) (q_cnt (q_P D) (Int32.ofNat ((x + 2) % 4)))
theorem q_dv_cg {E : am_D} (h : E.1 107 = D.1 107) (r h' : Int32) (x : Nat) : q_dv E r h' x = q_dv D r h' x := by
  have e : q_P E = q_P D := by unfold q_P; rw [h]
  have e2 : q_kr E r h' x = q_kr D r h' x := by
    funext t
    unfold q_kr
    rw [q_pm_cg h, q_pm_cg h, q_pm_cg h]
  unfold q_dv
  rw [e, e2]
theorem q_kr_b (D : am_D) (r h : Int32) (x t : Nat) : (q_pm D r h ((x + 1) % 4) t = 1 ↔ q_kr D r h x t % 2 = 1) ∧ (q_pm D r h ((x + 2) % 4) t = 1 ↔ q_kr D r h x t / 2 % 2 = 1) ∧ (q_pm D r h ((x + 3) % 4) t = 1 ↔ q_kr D r h x t / 4 % 2 = 1) := by
  have h1 := q_pm_le D r h ((x + 1) % 4) t
  have h2 := q_pm_le D r h ((x + 2) % 4) t
  have h3 := q_pm_le D r h ((x + 3) % 4) t
  unfold q_kr
  generalize q_pm D r h ((x + 1) % 4) t = u1 at *
  generalize q_pm D r h ((x + 2) % 4) t = u2 at *
  generalize q_pm D r h ((x + 3) % 4) t = u3 at *
  omega
theorem q_tie (hK : q_K D n p T V) {x : Nat} (hx : x < 4) (r h : Int32) : q_W (fun t => q_pm D r h (q_ot x 0) t = 1) (fun t => q_pm D r h (q_ot x 1) t = 1) (fun t => q_pm D r h (q_ot x 2) t = 1) (q_ls (q_P D) x 28) (q_cnt (q_P D) (Int32.ofNat (q_ot x 0))) (q_cnt (q_P D) (Int32.ofNat (q_ot x 1))) (q_cnt (q_P D) (Int32.ofNat (q_ot x 2))) = q_dv D r h x := by
  have hl := q_ls_28 hx (k_pw hK)
  have hw := q_W_V (p1 := fun t => q_pm D r h ((x + 1) % 4) t = 1) (p2 := fun t => q_pm D r h ((x + 2) % 4) t = 1) (p3 := fun t => q_pm D r h ((x + 3) % 4) t = 1) (κ := q_kr D r h x) (q_ls (q_P D) x 28) (fun t _ => q_kr_b D r h x t) _ _ _ hl.symm
  unfold q_dv
  rw [← hw]
  obtain rfl | rfl | rfl | rfl : x = 0 ∨ x = 1 ∨ x = 2 ∨ x = 3 := by omega
  · rfl
  · exact q_W_rot (fun t => q_pm D r h 0 t = 1) (fun t => q_pm D r h 2 t = 1) (fun t => q_pm D r h 3 t = 1) _ _ _ _
  · exact (q_W_rot (fun t => q_pm D r h 0 t = 1) (fun t => q_pm D r h 1 t = 1) (fun t => q_pm D r h 3 t = 1) _ _ _ _).trans (q_W_rot (fun t => q_pm D r h 1 t = 1) (fun t => q_pm D r h 3 t = 1) (fun t => q_pm D r h 0 t = 1) _ _ _ _)
  · rfl
theorem q121' (hN : 2000 ≤ N) (hB : q_B D) (hK : q_K D n p T V) {x : Nat} {r h : Int32} (hx : x < 4) (hr : ∀ t, t < 28 → Int32.ofNat t = r → ∃ w, w < 4 ∧ h = Int32.ofNat w) : ∃ E, m121 N D (Int32.ofNat x) r h = some (Int32.ofNat (q_dv D r h x), E) ∧ (∀ a, a ≠ 111 → a ≠ 112 → E.1 a = D.1 a) ∧ E.2 = D.2 := by
  rw [← q_tie hK hx r h]
  exact q121 hN hB hK hx hr
/-- no certain tile -/
theorem q_kr_n (D : am_D) (h : Int32) (x : Nat) {t : Nat} (ht : t < 28) : q_kr D (-1) h x t = q_ka D x t := by
  have e : ∀ o, q_pm D (-1) h o t = q_can (q_lkm D o) t := fun o => by
    unfold q_pm
    rw [if_neg (fun q => q_nm (k := t) (by omega) q.1)]
  unfold q_kr q_ka
  rw [e, e, e]
theorem q_V_all (hK : q_K D n p T V) (x : Nat) (h : Int32) : q_V (q_ka D x) (q_ls (D.1 7) x 28) (q_nd D x 0) (q_nd D x 1) = q_dv D (-1) h x := by
  unfold q_dv q_nd
  rw [q_ls_cg 28 (k_pl hK), q_cnt_congr (k_pl hK), q_cnt_congr (k_pl hK), q_V_cg (q_ls (q_P D) x 28) (fun t ht => (q_kr_n D h x ((q_ls_m 28 t).mp ht).1))]
theorem q_kc_le (κ : Nat → Nat) : ∀ (L : List Nat) (k : Nat), q_kc κ L k ≤ L.length
  | [], _ => Nat.le_refl _
  | t :: L, k => by
    have := q_kc_le κ L k
    show q_ad (q_kc κ L) (κ t) k ≤ _
    unfold q_ad
    rw [List.length_cons]
    split <;> omega
theorem q_len21 (hK : q_K D n p T V) {x : Nat} (hx : x < 4) : (q_ls (D.1 7) x 28).length < 22 := by
  rw [q_nd_s hK hx]
  have := q_nd_le hK x 0
  have := q_nd_le hK x 1
  have := q_nd_le hK x 2
  omega
/-- told by kinds -/
theorem q196a (hD : q_tb D) (hN : 2000 ≤ N) (hK : q_K D n p T V) {x : Nat} (hx : x < 4) {E : am_D} (hL : q_lk1 D E x 28) : m196 N E = some (Int64.ofNat (q_dv D (-1) (-1) x)) := by
  have h21 := q_len21 hK hx
  have n0 := q_nd_le hK x 0
  have n1 := q_nd_le hK x 1
  have hz : q_kz E (q_kc (q_ka D x) (q_ls (D.1 7) x 28)) := fun k hk => ⟨hL.2.2.2.1 k hk, by have := q_kc_le (q_ka D x) (q_ls (D.1 7) x 28) k; omega⟩
  have hT : q_tb E := fun f hf t ht => by rw [hL.2.2.2.2.2]; exact hD f hf t ht
  rw [q196 hT hN hz (show q_nd D x 0 < 50 by omega) (show q_nd D x 1 < 50 by omega) (hL.2.1 0 (by omega)) (hL.2.1 1 (by omega)), ← q_V_R _ (fun t _ => q_ka_lt D x t), q_V_all hK x (-1)]
/-- a tile of the list is taken out -/
theorem q_V_rs2 {κ κ' : Nat → Nat} {t0 : Nat} : ∀ (L : List Nat), (∀ t, t ∈ L → t ≠ t0 → κ' t = κ t) → t0 ∈ L → L.Nodup → ∃ L', L'.length + 1 = L.length ∧ (∀ k, q_kc κ L k = q_ad (q_kc κ L') (κ t0) k) ∧ q_V κ' L = q_St (κ' t0) (q_V κ L')
  | [], _, hm, _ => by cases hm
  | t :: L, h, hm, hn => by
    obtain ⟨n1, n2⟩ := List.nodup_cons.mp hn
    by_cases c : t = t0
    · subst c
      refine ⟨L, rfl, fun _ => rfl, ?_⟩
      show q_St (κ' t) (q_V κ' L) = _
      rw [q_V_cg L (fun s hs => h s (List.mem_cons_of_mem _ hs) (fun q => n1 (q ▸ hs)))]
    · have hm' : t0 ∈ L := by
        rcases List.mem_cons.mp hm with q | q
        · exact absurd q.symm c
        · exact q
      obtain ⟨L', z1, z2, z3⟩ := q_V_rs2 L (fun s hs => h s (List.mem_cons_of_mem _ hs)) hm' n2
      refine ⟨t :: L', by rw [List.length_cons, List.length_cons, z1], fun k => ?_, ?_⟩
      · show q_ad (q_kc κ L) (κ t) k = q_ad (q_ad (q_kc κ L') (κ t)) (κ t0) k
        rw [q_ad_c]
        show (if k = κ t then q_kc κ L k + 1 else q_kc κ L k) = (if k = κ t then q_ad (q_kc κ L') (κ t0) k + 1 else q_ad (q_kc κ L') (κ t0) k)
        rw [z2 k]
      · show q_St (κ' t) (q_V κ' L) = q_St (κ' t0) (q_St (κ t) (q_V κ L'))
        rw [h t List.mem_cons_self c, z3, q_St_c]
theorem q_kh : ∀ h, h < 4 → ∀ x, x < 4 → h ≠ x → ∃ j, j < 3 ∧ (((Int32.ofNat h - Int32.ofNat x) + (4 : Int32)) - (1 : Int32)) - (((Int32.ofNat h - Int32.ofNat x) + (4 : Int32)) - (1 : Int32)) / (4 : Int32) * (4 : Int32) = Int32.ofNat j ∧ (x + 1 + j) % 4 = h := by decide +kernel
theorem q_kb : ∀ k, k < 8 → ∀ j, j < 3 → ((Int32.ofNat k >>> (Int32.ofNat j &&& 31)) &&& 1 = 0 ↔ ¬ k / 2 ^ j % 2 = 1) := by decide +kernel
theorem q_ra_id (E : am_D) (a i : Nat) : am_uI (am_uI E a i (E.1 a i + -1)) a i ((am_uI E a i (E.1 a i + -1)).1 a i + 1) = E := by
  refine Prod.ext (funext fun b => funext fun j => ?_) rfl
  rw [q_uI_at, q_uIs, q_uI_at]
  by_cases c : b = a ∧ j = i
  · rw [if_pos c, c.1, c.2, Int32.add_assoc]
    show E.1 a i + 0 = _
    exact Int32.add_zero _
  · rw [if_neg c, if_neg c]
/-- a tile of a kind in a certain hand -/
theorem q199 (hD : q_tb D) (hN : 2000 ≤ N) (hK : q_K D n p T V) {x h t0 : Nat} (hx : x < 4) (hh : h < 4) (hne : h ≠ x) (ht0 : t0 < 28) (hs0 : q_sc (D.1 7) x t0 = 1) {E : am_D} (hL : q_lk1 D E x 28) : m199 N E (Int32.ofNat h) (Int32.ofNat (q_ka D x t0)) = some (Int64.ofNat (q_dv D (Int32.ofNat t0) (Int32.ofNat h) x), E) := by
  have hka := q_ka_lt D x t0
  obtain ⟨j, hj, e1, e2⟩ := q_kh h hh x hx hne
  have h21 := q_len21 hK hx
  have n0 := q_nd_le hK x 0
  have n1 := q_nd_le hK x 1
  have n2 := q_nd_le hK x 2
  have hsum := q_nd_s hK hx
  have hmem : t0 ∈ q_ls (D.1 7) x 28 := (q_ls_m 28 t0).mpr ⟨ht0, hs0⟩
  have hpm : ∀ t, t < 28 → t ≠ t0 → ∀ o, q_pm D (Int32.ofNat t0) (Int32.ofNat h) o t = q_can (q_lkm D o) t := fun t ht hne' o => by
    unfold q_pm
    rw [if_neg (fun q => hne' (q_ofN (by omega) (by omega) q.1))]
  have hpm0 : ∀ o, o < 4 → q_pm D (Int32.ofNat t0) (Int32.ofNat h) o t0 = if o = h then q_can (q_lkm D o) t0 else 0 := fun o ho => by
    unfold q_pm
    by_cases c : o = h
    · rw [if_neg (fun q => q.2 (by rw [c])), if_pos c]
    · rw [if_pos ⟨rfl, fun q => c (q_ofN (by omega) (by omega) q).symm⟩, if_neg c]
  obtain ⟨L', l1, l2, l3⟩ := q_V_rs2 (κ := q_ka D x) (κ' := q_kr D (Int32.ofNat t0) (Int32.ofNat h) x) (t0 := t0) (q_ls (D.1 7) x 28) (fun t ht hne' => by
    have ht28 := ((q_ls_m 28 t).mp ht).1
    unfold q_kr q_ka
    rw [hpm t ht28 hne', hpm t ht28 hne', hpm t ht28 hne']) hmem (q_ls_nd 28)
  have hdv : q_dv D (Int32.ofNat t0) (Int32.ofNat h) x = q_St (q_kr D (Int32.ofNat t0) (Int32.ofNat h) x t0) (q_V (q_ka D x) L') (q_nd D x 0) (q_nd D x 1) := by
    rw [← l3]
    unfold q_dv q_nd
    rw [q_ls_cg 28 (k_pl hK), q_cnt_congr (k_pl hK), q_cnt_congr (k_pl hK)]
  have hc0 := q_can_le (q_lkm D ((x + 1) % 4)) t0
  have hc1 := q_can_le (q_lkm D ((x + 2) % 4)) t0
  have hc2 := q_can_le (q_lkm D ((x + 3) % 4)) t0
  -- what the tile's own mask is
  have hkr : q_kr D (Int32.ofNat t0) (Int32.ofNat h) x t0 = if q_ka D x t0 / 2 ^ j % 2 = 1 then 2 ^ j else 0 := by
    unfold q_kr q_ka
    rw [hpm0 _ (by omega), hpm0 _ (by omega), hpm0 _ (by omega)]
    generalize q_can (q_lkm D ((x + 1) % 4)) t0 = u0 at *
    generalize q_can (q_lkm D ((x + 2) % 4)) t0 = u1 at *
    generalize q_can (q_lkm D ((x + 3) % 4)) t0 = u2 at *
    obtain rfl | rfl | rfl : j = 0 ∨ j = 1 ∨ j = 2 := by omega
    · rw [if_pos (show (x + 1) % 4 = h from e2), if_neg (show ¬ (x + 2) % 4 = h by omega), if_neg (show ¬ (x + 3) % 4 = h by omega)]
      split <;> omega
    · rw [if_neg (show ¬ (x + 1) % 4 = h by omega), if_pos (show (x + 2) % 4 = h by omega), if_neg (show ¬ (x + 3) % 4 = h by omega)]
      split <;> omega
    · rw [if_neg (show ¬ (x + 1) % 4 = h by omega), if_neg (show ¬ (x + 2) % 4 = h by omega), if_pos (show (x + 3) % 4 = h by omega)]
      split <;> omega
  have hb := q_kb (q_ka D x t0) hka j hj
  have r94 : am_rat (E.1 94) 3 (Int32.ofNat j) = Int32.ofNat (q_nd D x j) := (q_rt (E.1 94) (by omega) hj).trans (hL.2.1 j hj)
  have hnj := q_nd_le hK x j
  unfold m199
  rw [hL.1, e1]
  simp only [am_lt]
  rw [if_neg (show ¬ Int32.ofNat (q_ka D x t0) < 0 from q_nlt (a := 0) (b := q_ka D x t0) (by omega) (by omega)), if_neg (show ¬ (3 : Int32) ≤ Int32.ofNat j from q_nle (a := j) (b := 3) (by omega) hj), hdv, hkr]
  by_cases c : q_ka D x t0 / 2 ^ j % 2 = 1
  · rw [if_neg (fun q => (hb.mp q) c), if_pos c, r94]
    by_cases d : 0 < q_nd D x j
    · rw [if_pos (show (0 : Int32) < Int32.ofNat (q_nd D x j) from q_ylt (a := 0) (b := q_nd D x j) (by omega) d), q_ra_at _ _ _ _ (by omega) hka, q_ra_at _ _ _ _ (by omega) hj]
      obtain ⟨G, hG⟩ : ∃ G, G = am_uI (am_uI E 96 (q_ka D x t0) (E.1 96 (q_ka D x t0) + -1)) 94 j ((am_uI E 96 (q_ka D x t0) (E.1 96 (q_ka D x t0) + -1)).1 94 j + -1) := ⟨_, rfl⟩
      rw [← hG]
      have g94 : ∀ i, i < 3 → G.1 94 i = Int32.ofNat (if i = j then q_nd D x i - 1 else q_nd D x i) := fun i hi => by
        rw [hG, q_uI_at, q_uI_ne _ (by omega)]
        by_cases q : i = j
        · rw [if_pos ⟨rfl, q⟩, if_pos q, q, hL.2.1 j hj]
          show Int32.ofNat (q_nd D x j) + -1 = _
          obtain ⟨m, hm⟩ : ∃ m, q_nd D x j = m + 1 := ⟨q_nd D x j - 1, by omega⟩
          rw [hm, q_dec]
          rfl
        · rw [if_neg (fun z => q z.2), if_neg q]
          exact hL.2.1 i hi
      have hz : q_kz G (q_kc (q_ka D x) L') := fun k hk => by
        refine ⟨?_, by have := q_kc_le (q_ka D x) L' k; omega⟩
        rw [hG, q_uI_ne _ (by omega), q_uI_at, hL.2.2.2.1 _ hka, hL.2.2.2.1 k hk, l2, l2]
        unfold q_ad
        by_cases q : k = q_ka D x t0
        · rw [if_pos ⟨rfl, q⟩, if_pos rfl, q, q_dec]
        · rw [if_neg (fun z => q z.2), if_neg q]
      have hT : q_tb G := fun f hf t ht => by
        rw [hG]
        show E.2.1 98 _ = _
        rw [hL.2.2.2.2.2]; exact hD f hf t ht
      have h196 := q196 hT hN hz (a := if 0 = j then q_nd D x 0 - 1 else q_nd D x 0) (b := if 1 = j then q_nd D x 1 - 1 else q_nd D x 1) (by split <;> omega) (by split <;> omega) (g94 0 (by omega)) (g94 1 (by omega))
      rw [h196, Option.bind_some]
      have hback : am_radd (am_radd G 96 8 (Int32.ofNat (q_ka D x t0)) 1) 94 3 (Int32.ofNat j) 1 = E := by
        rw [q_ra_at _ _ _ _ (by omega) hka, q_ra_at _ _ _ _ (by omega) hj, hG]
        refine Prod.ext (funext fun b => funext fun i => ?_) rfl
        have z := q_ra_id E 96 (q_ka D x t0)
        have z2 := q_ra_id E 94 j
        simp only [q_uI_at]
        by_cases b94 : b = 94
        · subst b94
          simp (decide := true) only [true_and, false_and, if_false]
          by_cases q : i = j
          · rw [if_pos q, if_pos trivial, q, Int32.add_assoc]
            show E.1 94 j + 0 = _
            exact Int32.add_zero _
          · rw [if_neg q, if_neg q]
        · by_cases b96 : b = 96
          · subst b96
            simp (decide := true) only [true_and, false_and, if_false]
            by_cases q : i = q_ka D x t0
            · rw [if_pos q, if_pos trivial, q, Int32.add_assoc]
              show E.1 96 (q_ka D x t0) + 0 = _
              exact Int32.add_zero _
            · rw [if_neg q, if_neg q]
          · rw [if_neg (fun q => b94 q.1), if_neg (fun q => b96 q.1), if_neg (fun q => b94 q.1), if_neg (fun q => b96 q.1)]
      rw [hback]
      congr 2
      rw [← q_V_R L' (fun t _ => q_ka_lt D x t)]
      congr 1
      unfold q_St
      obtain rfl | rfl | rfl : j = 0 ∨ j = 1 ∨ j = 2 := by omega
      · simp [d]
      · simp [d]
      · simp
    · rw [if_neg (show ¬ (0 : Int32) < Int32.ofNat (q_nd D x j) from q_nlt (a := q_nd D x j) (b := 0) (by omega) (by omega))]
      congr 2
      have z : q_St (2 ^ j) (q_V (q_ka D x) L') (q_nd D x 0) (q_nd D x 1) = 0 := by
        unfold q_St
        obtain rfl | rfl | rfl : j = 0 ∨ j = 1 ∨ j = 2 := by omega
        · simp [d]
        · simp [d]
        · rw [q_V_0 _ L' (q_nd D x 0) (q_nd D x 1) (by omega)]
          simp
      rw [z]
  · rw [if_pos (hb.mpr c), if_neg c]
    congr 2
end OM
