/-! sure: the call -/
section OO
variable {D : am_D} {N n p : Nat} {T V : Nat → Nat}
theorem q_jinj {a b : Nat} (ha : a < 2147483648) (hb : b < 2147483648) (h : Int64.ofNat a = Int64.ofNat b) : a = b := by
  have := congrArg Int64.toInt32 h
  rw [q_j32, q_j32] at this
  exact q_ofN ha hb this
theorem q_cmp (x y : Int64) : lg_cmp x y = 0 ↔ x = y := by
  unfold lg_cmp
  by_cases c : x > y
  · rw [if_pos c]
    exact ⟨fun q => absurd q (by decide), fun q => absurd (q ▸ c) Int64.lt_irrefl⟩
  · rw [if_neg c]
    by_cases d : x = y
    · rw [if_pos d]; exact ⟨fun _ => d, fun _ => rfl⟩
    · rw [if_neg d]; exact ⟨fun q => absurd q (by decide), fun q => absurd q d⟩
/-- tiles by their kinds -/
theorem q_grp (f : Nat → Int32) (x : Nat) {κ w : Nat → Nat} (hκ : ∀ t, κ t < 8) : ∀ t, q_S (fun s => if q_sc f x s = 1 then w (κ s) else 0) 0 t = q_S (fun k => q_kc κ (q_ls f x t) k * w k) 0 8
  | 0 => by
    symm
    exact (q_S_zero 8 0).mpr (fun k _ _ => Nat.zero_mul _)
  | t + 1 => by
    rw [q_S_last, Nat.zero_add, q_grp f x hκ t]
    show _ = q_S (fun k => q_kc κ (if q_sc f x t = 1 then t :: q_ls f x t else q_ls f x t) k * w k) 0 8
    by_cases c : q_sc f x t = 1
    · rw [if_pos c, if_pos c]
      have := q_S_upd (f := fun k => q_kc κ (q_ls f x t) k * w k) (g := fun k => q_ad (q_kc κ (q_ls f x t)) (κ t) k * w k) (p := κ t) 8 0 (by omega) (by have := hκ t; omega) (fun k _ _ hk => by
        show _ = q_ad (q_kc κ (q_ls f x t)) (κ t) k * w k
        unfold q_ad
        rw [if_neg hk])
      have e : q_ad (q_kc κ (q_ls f x t)) (κ t) (κ t) = q_kc κ (q_ls f x t) (κ t) + 1 := if_pos rfl
      simp only [e, Nat.add_mul, Nat.one_mul] at this
      show _ = q_S (fun k => q_ad (q_kc κ (q_ls f x t)) (κ t) k * w k) 0 8
      omega
    · rw [if_neg c, if_neg c, Nat.add_zero]
/-- a kind that there is has a tile -/
theorem q_kc_ex {κ : Nat → Nat} : ∀ (L : List Nat) (k : Nat), 0 < q_kc κ L k → ∃ t, t ∈ L ∧ κ t = k
  | [], k, h => absurd h (Nat.lt_irrefl 0)
  | t :: L, k, h => by
    by_cases c : κ t = k
    · exact ⟨t, List.mem_cons_self, c⟩
    · have h' : 0 < q_ad (q_kc κ L) (κ t) k := h
      unfold q_ad at h'
      rw [if_neg (fun q => c q.symm)] at h'
      obtain ⟨s, h1, h2⟩ := q_kc_ex L k h'
      exact ⟨s, List.mem_cons_of_mem _ h1, h2⟩
/-- how many tiles are in all deals -/
noncomputable def q_su (D : am_D) (x h : Nat) : Nat := if q_dv D (-1) (-1) x = 0 then 0 else q_S (fun t => if q_hv D x h t = q_dv D (-1) (-1) x then 1 else 0) 0 28
theorem q_su_cg {E : am_D} (h : E.1 107 = D.1 107) (x h' : Nat) : q_su E x h' = q_su D x h' := by
  unfold q_su
  rw [q_dv_cg h]
  simp only [q_hv_cg h]
/-- the kind's number as the class has it -/
def q_vk (N : Nat) (E : am_D) (h : Nat) (a : Nat) (k : Nat) : Nat := match m199 N E (Int32.ofNat h) (Int32.ofNat k) with
  | some r => if r.1 = Int64.ofNat a then 1 else 0
  | none => 0
theorem q200_L (hN : 2000 ≤ N) (hD : q_tb D) (hK : q_K D n p T V) {x h : Nat} (hx : x < 4) (hh : h < 4) (hne : h ≠ x) {a : Nat} {E : am_D} (hL : q_lk1 D E x 28) : ∀ (j k s m : Nat), k + j = 8 → j < m → m200_L6 N (Int32.ofNat h) (Int64.ofNat a) m E (Int32.ofNat s) (Int32.ofNat k) = some (Int32.ofNat (s + q_S (fun k => q_kc (q_ka D x) (q_ls (D.1 7) x 28) k * q_vk N E h a k) k j), E)
  | 0, k, s, m + 1, hk, hm => by
    obtain rfl : k = 8 := by omega
    rw [m200_L6, if_pos (show (8 : Int32) ≤ Int32.ofNat 8 by decide)]
    rfl
  | j + 1, k, s, m + 1, hk, hm => by
    have h8 : k < 8 := by omega
    have i8 : 0 ≤ Int32.ofNat k ∧ Int32.ofNat k < 8 := q_in (n := 8) (by omega) h8
    have ez := hL.2.2.2.1 k h8
    have h21 := q_len21 hK hx
    have hz := q_kc_le (q_ka D x) (q_ls (D.1 7) x 28) k
    rw [m200_L6, if_neg (show ¬ (8 : Int32) ≤ Int32.ofNat k from q_nle (a := k) (b := 8) (by omega) h8), if_pos i8, q_tn (by omega), ez]
    simp only [am_lt]
    rw [show Int32.ofNat k + 1 = Int32.ofNat (k + 1) from q_add k 1]
    have key : (if Int32.ofNat (q_kc (q_ka D x) (q_ls (D.1 7) x 28) k) ≤ 0 then some (Int32.ofNat s, E) else (m199 N E (Int32.ofNat h) (Int32.ofNat k)).bind fun q7 => if lg_cmp q7.1 (Int64.ofNat a) = 0 then (if 0 ≤ Int32.ofNat k ∧ Int32.ofNat k < 8 then some (Int32.ofNat s + q7.2.1 96 k, q7.2) else none) else some (Int32.ofNat s, q7.2)) = some (Int32.ofNat (s + q_kc (q_ka D x) (q_ls (D.1 7) x 28) k * q_vk N E h a k), E) := by
      by_cases c : 0 < q_kc (q_ka D x) (q_ls (D.1 7) x 28) k
      · obtain ⟨t, t1, t2⟩ := q_kc_ex _ _ c
        obtain ⟨t3, t4⟩ := (q_ls_m 28 t).mp t1
        have e199 := q199 hD hN hK hx hh hne t3 t4 hL
        rw [t2] at e199
        rw [if_neg (show ¬ Int32.ofNat (q_kc (q_ka D x) (q_ls (D.1 7) x 28) k) ≤ 0 from q_nle (a := 0) (b := q_kc (q_ka D x) (q_ls (D.1 7) x 28) k) (by omega) c), e199, Option.bind_some]
        dsimp only
        unfold q_vk
        rw [e199]
        dsimp only
        by_cases d : Int64.ofNat (q_dv D (Int32.ofNat t) (Int32.ofNat h) x) = Int64.ofNat a
        · rw [if_pos ((q_cmp _ _).mpr d), if_pos i8, if_pos d, ez, q_add, Nat.mul_one]
        · rw [if_neg (fun q => d ((q_cmp _ _).mp q)), if_neg d, Nat.mul_zero, Nat.add_zero]
      · rw [if_pos (show Int32.ofNat (q_kc (q_ka D x) (q_ls (D.1 7) x 28) k) ≤ 0 from q_yle (a := q_kc (q_ka D x) (q_ls (D.1 7) x 28) k) (b := 0) (by omega) (by omega)), show q_kc (q_ka D x) (q_ls (D.1 7) x 28) k = 0 by omega, Nat.zero_mul, Nat.add_zero]
    rw [key, Option.bind_some]
    dsimp only
    rw [q200_L hN hD hK hx hh hne hL j (k + 1) _ m (by omega) (by omega)]
    congr 3
    show _ = s + (q_kc (q_ka D x) (q_ls (D.1 7) x 28) k * q_vk N E h a k + q_S _ (k + 1) j)
    omega
  | _, _, _, 0, _, hm => by omega
theorem q26 (hN : 2000 ≤ N) (hD : q_tb D) (hK : q_K D n p T V) {x h : Nat} (hx : x < 4) (hh : h < 4) : ∃ E, m26 N D (Int32.ofNat x) (Int32.ofNat h) = some (Sum.inl (Int32.ofNat (q_su D x h)), E) ∧ q_E D E := by
  have e40 : ∀ x, x < 4 → m40 (Int32.ofNat x) = 1 := by decide +kernel
  obtain ⟨E, a1, a2⟩ := q189 hN hK hx
  have hE := q_lk1_E a2
  have hle := q_dv_le hK hx (-1) (-1)
  refine ⟨E, ?_, hE⟩
  unfold m26 q_su
  rw [if_neg (by rw [e40 x hx]; decide), if_neg (by rw [e40 h hh]; decide), a1, Option.bind_some, q196a hD hN hK hx a2, Option.bind_some]
  by_cases c : q_dv D (-1) (-1) x = 0
  · rw [if_pos ((q_cmp _ _).mpr (by rw [c])), if_pos c]; rfl
  · rw [if_neg (fun q => c (q_jinj (by omega) (by omega) ((q_cmp _ _).mp q))), if_neg c]
    by_cases d : h = x
    · subst d
      rw [if_pos rfl, q204 hN, Option.bind_some, a2.2.2.2.2.1 7 (by omega), q_cnt_congr (k_pl hK), q_cnt_def]
      have e : q_S (fun t => if q_P D t = Int32.ofNat h then 1 else 0) 0 28 = q_S (fun t => if q_hv D h h t = q_dv D (-1) (-1) h then 1 else 0) 0 28 := q_S_congr 28 0 (fun t _ _ => by
        unfold q_hv
        rw [if_pos rfl]
        by_cases f : q_P D t = Int32.ofNat h
        · rw [if_pos f, if_pos f, if_pos rfl]
        · rw [if_neg f, if_neg f, if_neg (fun q => c q.symm)])
      rw [e]
    · rw [if_neg (show ¬ Int32.ofNat h = Int32.ofNat x from fun q => d (q_ofN (by omega) (by omega) q))]
      have h200 := q200_L (N := N) (a := q_dv D (-1) (-1) x) hN hD hK hx hh d a2 7 1 0 N (by omega) (by omega)
      have h200' : m200_L6 N (Int32.ofNat h) (Int64.ofNat (q_dv D (-1) (-1) x)) N E 0 1 = _ := h200
      unfold m200
      rw [h200', Option.bind_some, Option.bind_some]
      dsimp only
      have hz0 : q_kc (q_ka D x) (q_ls (D.1 7) x 28) 0 = 0 := by
        by_cases z : q_kc (q_ka D x) (q_ls (D.1 7) x 28) 0 = 0
        · exact z
        · have := q_V_all hK x (-1)
          rw [q_V_R _ (fun t _ => q_ka_lt D x t), q_R_cl, if_neg z] at this
          exact absurd this.symm c
      have hg := q_grp (D.1 7) x (κ := q_ka D x) (w := q_vk N E h (q_dv D (-1) (-1) x)) (q_ka_lt D x) 28
      have h8 : q_S (fun k => q_kc (q_ka D x) (q_ls (D.1 7) x 28) k * q_vk N E h (q_dv D (-1) (-1) x) k) 0 8 = q_S (fun k => q_kc (q_ka D x) (q_ls (D.1 7) x 28) k * q_vk N E h (q_dv D (-1) (-1) x) k) 1 7 := by
        show q_kc (q_ka D x) (q_ls (D.1 7) x 28) 0 * q_vk N E h (q_dv D (-1) (-1) x) 0 + q_S _ 1 7 = _
        rw [hz0, Nat.zero_mul, Nat.zero_add]
      have e : q_S (fun s => if q_sc (D.1 7) x s = 1 then q_vk N E h (q_dv D (-1) (-1) x) (q_ka D x s) else 0) 0 28 = q_S (fun t => if q_hv D x h t = q_dv D (-1) (-1) x then 1 else 0) 0 28 := q_S_congr 28 0 (fun t _ ht => by
        have ht' : t < 28 := by omega
        have esc : q_sc (q_P D) x t = q_sc (D.1 7) x t := by unfold q_sc; rw [k_pl hK t ht']
        have hle2 := q_dv_le hK hx (Int32.ofNat t) (Int32.ofNat h)
        unfold q_hv
        rw [if_neg d, esc]
        by_cases f : q_sc (D.1 7) x t = 1
        · rw [if_pos f, if_pos f]
          unfold q_vk
          rw [q199 hD hN hK hx hh d ht' f a2]
          dsimp only
          by_cases g : q_dv D (Int32.ofNat t) (Int32.ofNat h) x = q_dv D (-1) (-1) x
          · rw [if_pos g, if_pos (by rw [g])]
          · rw [if_neg g, if_neg (fun q => g (q_jinj (by omega) (by omega) q))]
        · rw [if_neg f, if_neg f, if_neg (fun q => c q.symm)])
      rw [Nat.zero_add, ← h8, ← hg, e]
theorem q126_L (hN : 2000 ≤ N) (hB : q_B D) (hK : q_K D n p T V) {x h : Nat} (hx : x < 4) (hh : h < 4) (hc : q_dv D (-1) (-1) x ≠ 0) : ∀ (k t s m : Nat) (E : am_D), t + k = 28 → k < m → q_X D E → ∃ E', m126_L14 N (Int32.ofNat x) (Int32.ofNat h) (Int32.ofNat (q_dv D (-1) (-1) x)) m E (Int32.ofNat s) (Int32.ofNat t) = some (Int32.ofNat (s + q_S (fun t => if q_hv D x h t = q_dv D (-1) (-1) x then 1 else 0) t k), E') ∧ q_X D E'
  | 0, t, s, m + 1, E, ht, hm, hE => by
    obtain rfl : t = 28 := by omega
    rw [m126_L14, if_pos (show (28 : Int32) ≤ Int32.ofNat 28 by decide)]
    exact ⟨E, rfl, hE⟩
  | k + 1, t, s, m + 1, E, ht, hm, hE => by
    have ht28 : t < 28 := by omega
    have hle := q_dv_le hK hx (-1) (-1)
    have hle2 := q_hv_le hK hx h t
    have hEE := q_X_E hE
    obtain ⟨F, f1, f2⟩ := q124 hN (q_E_B hEE hB) (q_E_K hEE hK) hx hh ht28
    rw [q_hv_cg (hEE.1 107 (by omega))] at f1
    rw [m126_L14, if_neg (show ¬ (28 : Int32) ≤ Int32.ofNat t from q_nle (a := t) (b := 28) (by omega) ht28), if_neg (show ¬ Int32.ofNat (q_dv D (-1) (-1) x) ≤ 0 from q_nle (a := 0) (b := q_dv D (-1) (-1) x) (by omega) (by omega)), f1, Option.bind_some]
    simp only [am_lt]
    have e : (if Int32.ofNat (q_hv D x h t) = Int32.ofNat (q_dv D (-1) (-1) x) then (1 : Int32) else 0) = Int32.ofNat (if q_hv D x h t = q_dv D (-1) (-1) x then 1 else 0) := by
      by_cases g : q_hv D x h t = q_dv D (-1) (-1) x
      · rw [if_pos (by rw [g]), if_pos g]; rfl
      · rw [if_neg (fun q => g (q_ofN (by omega) (by omega) q)), if_neg g]; rfl
    rw [e, q_add, show Int32.ofNat t + 1 = Int32.ofNat (t + 1) from q_add t 1]
    obtain ⟨E', e1, e2⟩ := q126_L hN hB hK hx hh hc k (t + 1) (s + (if q_hv D x h t = q_dv D (-1) (-1) x then 1 else 0)) m F (by omega) (by omega) (hE.tr f2)
    refine ⟨E', ?_, e2⟩
    rw [e1]
    congr 3
    show _ = s + ((if q_hv D x h t = q_dv D (-1) (-1) x then 1 else 0) + q_S _ (t + 1) k)
    omega
  | _, _, _, 0, _, _, hm, _ => by omega
theorem q126 (hN : 2000 ≤ N) (hB : q_B D) (hK : q_K D n p T V) {x h : Nat} (hx : x < 4) (hh : h < 4) : ∃ E, m126 N D (Int32.ofNat x) (Int32.ofNat h) = some (Int32.ofNat (q_su D x h), E) ∧ q_X D E := by
  obtain ⟨E, e1, e2⟩ := q121' (r := -1) (h := -1) hN hB hK hx q_hr1
  unfold m126 q_su
  rw [e1, Option.bind_some]
  dsimp only
  by_cases c : q_dv D (-1) (-1) x = 0
  · rw [if_pos c, c]
    obtain ⟨N', rfl⟩ : ∃ N', N = N' + 1 := ⟨N - 1, by omega⟩
    rw [m126_L14, if_neg (show ¬ (28 : Int32) ≤ 0 by decide), if_pos (show Int32.ofNat 0 ≤ 0 by decide)]
    exact ⟨E, rfl, e2⟩
  · rw [if_neg c]
    obtain ⟨F, f1, f2⟩ := q126_L (N := N) hN hB hK hx hh c 28 0 0 N E (by omega) (by omega) e2
    have f1' : m126_L14 N (Int32.ofNat x) (Int32.ofNat h) (Int32.ofNat (q_dv D (-1) (-1) x)) N E 0 0 = _ := f1
    rw [f1', Option.bind_some, Nat.zero_add]
    exact ⟨F, rfl, f2⟩
theorem g_sure (hN : 2000 ≤ N) (hI : q_I D) (v1 v2 : Int32) : q_G (fun D => m283 N D v1 v2) (fun D => m127 N D v1 v2) D := by
  obtain ⟨n, p, T, V, hK⟩ := q_I_K hI
  have hB := hI.1
  rcases q40 v1 with ⟨x, hx, rfl, e1, e2⟩ | ⟨e1, e2⟩
  · rcases q40 v2 with ⟨h, hh, rfl, e3, e4⟩ | ⟨e3, e4⟩
    · obtain ⟨E, b2, b1⟩ := q26 hN (q_I_tb hI) hK hx hh
      refine q_G_dv hI b1 (q_su D x h) ?_ (fun Y hYe hY => ?_)
      · show m283 N D _ _ = _
        unfold m283
        rw [b2]
        rfl
      · obtain ⟨F, f1, f2⟩ := q126 hN (q_E_B hY hB) (q_E_K hY hK) hx hh
        rw [q_su_cg (hY.1 107 (by omega))] at f1
        refine ⟨F, ?_, f2⟩
        show m127 N _ _ _ = _
        unfold m127
        simp only [am_lt, e2, e4, q_10, if_false, q47a]
        rw [← hYe, f1]
        rfl
    · refine q_G_ex hI 1 (by omega) ?_ ?_
      · show m283 N D _ _ = _
        unfold m283 m26
        rw [if_neg (by rw [e1]; decide), if_pos e3]
        rfl
      · show m127 N D _ _ = _
        unfold m127
        simp only [am_lt, e2, e4, q_10, if_false, if_true, q47b]
        rfl
  · refine q_G_ex hI 1 (by omega) ?_ ?_
    · show m283 N D _ _ = _
      unfold m283 m26
      rw [if_pos e1]
      rfl
    · show m127 N D _ _ = _
      unfold m127
      simp only [am_lt, e2, if_true, q47b]
      rfl
end OO
