/-! deals, having: the calls -/
section ON
variable {D : am_D} {N n p : Nat} {T V : Nat → Nat}
theorem q_St_le {k : Nat} {f g : Nat → Nat → Nat} (h : ∀ a b, f a b ≤ g a b) (a b : Nat) : q_St k f a b ≤ q_St 7 g a b := by
  have h1 := h (a - 1) b
  have h2 := h a (b - 1)
  have h3 := h a b
  unfold q_St
  simp only [show (7 : Nat) % 2 = 1 from rfl, show (7 : Nat) / 2 % 2 = 1 from rfl, show (7 : Nat) / 4 % 2 = 1 from rfl, true_and, if_true]
  have e1 : (if k % 2 = 1 ∧ 0 < a then f (a - 1) b else 0) ≤ (if 0 < a then g (a - 1) b else 0) := by
    by_cases c : 0 < a
    · rw [if_pos c]; split <;> omega
    · rw [if_neg (fun q => c q.2)]; omega
  have e2 : (if k / 2 % 2 = 1 ∧ 0 < b then f a (b - 1) else 0) ≤ (if 0 < b then g a (b - 1) else 0) := by
    by_cases c : 0 < b
    · rw [if_pos c]; split <;> omega
    · rw [if_neg (fun q => c q.2)]; omega
  have e3 : (if k / 4 % 2 = 1 then f a b else 0) ≤ g a b := by split <;> omega
  omega
theorem q_V_le (κ : Nat → Nat) : ∀ (L : List Nat) (a b : Nat), q_V κ L a b ≤ q_bin L.length a * q_bin (L.length - a) b
  | [], a, b => by
    show q_dl a b ≤ q_bin 0 a * q_bin (0 - a) b
    rw [← q_it7 0 a b]
    exact Nat.le_refl _
  | t :: L, a, b => by
    rw [← q_it7 _ a b, List.length_cons]
    refine q_St_le (fun a b => ?_) a b
    rw [q_it7]
    exact q_V_le κ L a b
theorem q_bin_1 (n k : Nat) : q_bin n k ≤ q_bin (n + 1) (k + 1) := by
  show q_bin n k ≤ q_bin n k + q_bin n (k + 1)
  omega
theorem q_bin_2 (n k : Nat) : q_bin n k ≤ q_bin (n + 1) k := by
  cases k with
  | zero => rw [q_bin_0, q_bin_0]; omega
  | succ k =>
    show q_bin n (k + 1) ≤ q_bin n k + q_bin n (k + 1)
    omega
theorem q_bin_m1 (n k : Nat) : ∀ j, q_bin n k ≤ q_bin (n + j) (k + j)
  | 0 => Nat.le_refl _
  | j + 1 => Nat.le_trans (q_bin_m1 n k j) (q_bin_1 _ _)
theorem q_bin_m2 (n k : Nat) : ∀ j, q_bin n k ≤ q_bin (n + j) k
  | 0 => Nat.le_refl _
  | j + 1 => Nat.le_trans (q_bin_m2 n k j) (q_bin_2 _ _)
theorem q_bin_v : q_bin 21 7 = 116280 ∧ q_bin 14 7 = 3432 := by decide +kernel
theorem q_multi {a b c : Nat} (ha : a ≤ 7) (hb : b ≤ 7) (hc : c ≤ 7) : q_bin (a + b + c) a * q_bin (b + c) b ≤ 399072960 := by
  have h1 := Nat.le_trans (q_bin_m2 (a + b + c) a (14 - b - c)) (q_bin_m1 (a + b + c + (14 - b - c)) a (7 - a))
  have h2 := Nat.le_trans (q_bin_m2 (b + c) b (7 - c)) (q_bin_m1 (b + c + (7 - c)) b (7 - b))
  rw [show a + b + c + (14 - b - c) + (7 - a) = 21 by omega, show a + (7 - a) = 7 by omega, q_bin_v.1] at h1
  rw [show b + c + (7 - c) + (7 - b) = 14 by omega, show b + (7 - b) = 7 by omega, q_bin_v.2] at h2
  have := Nat.mul_le_mul h1 h2
  omega
theorem q_dv_le (hK : q_K D n p T V) {x : Nat} (hx : x < 4) (r h : Int32) : q_dv D r h x ≤ 399072960 := by
  have hl := q_ls_28 hx (k_pw hK)
  have h1 := k_h7 hK ((x + 1) % 4) (by omega)
  have h2 := k_h7 hK ((x + 2) % 4) (by omega)
  have h3 := k_h7 hK ((x + 3) % 4) (by omega)
  have h4 := q_V_le (q_kr D r h x) (q_ls (q_P D) x 28) (q_cnt (q_P D) (Int32.ofNat ((x + 1) % 4))) (q_cnt (q_P D) (Int32.ofNat ((x + 2) % 4)))
  rw [hl, show q_cnt (q_P D) (Int32.ofNat ((x + 1) % 4)) + q_cnt (q_P D) (Int32.ofNat ((x + 2) % 4)) + q_cnt (q_P D) (Int32.ofNat ((x + 3) % 4)) - q_cnt (q_P D) (Int32.ofNat ((x + 1) % 4)) = q_cnt (q_P D) (Int32.ofNat ((x + 2) % 4)) + q_cnt (q_P D) (Int32.ofNat ((x + 3) % 4)) by omega] at h4
  exact Nat.le_trans h4 (q_multi h1 h2 h3)
theorem q_hr1 : ∀ t, t < 28 → Int32.ofNat t = (-1 : Int32) → ∃ w, w < 4 ∧ (-1 : Int32) = Int32.ofNat w := fun t ht q => absurd q (q_nm (by omega))
/-- in how many deals a hand has a tile -/
noncomputable def q_hv (D : am_D) (x h t : Nat) : Nat := if h = x then (if q_P D t = Int32.ofNat x then q_dv D (-1) (-1) x else 0) else (if q_sc (q_P D) x t = 1 then q_dv D (Int32.ofNat t) (Int32.ofNat h) x else 0)
theorem q_hv_cg {E : am_D} (h : E.1 107 = D.1 107) (x h' t : Nat) : q_hv E x h' t = q_hv D x h' t := by
  have e : q_P E = q_P D := by unfold q_P; rw [h]
  unfold q_hv
  rw [e, q_dv_cg h, q_dv_cg h]
theorem q_hv_le (hK : q_K D n p T V) {x : Nat} (hx : x < 4) (h t : Nat) : q_hv D x h t ≤ 399072960 := by
  have h1 := q_dv_le hK hx (-1) (-1)
  have h2 := q_dv_le hK hx (Int32.ofNat t) (Int32.ofNat h)
  unfold q_hv
  repeat' split
  all_goals omega
/-- only what deals are counted in differs -/
def q_X (D E : am_D) : Prop := (∀ a, a ≠ 111 → a ≠ 112 → E.1 a = D.1 a) ∧ E.2 = D.2
theorem q_X.rf (D : am_D) : q_X D D := ⟨fun _ _ _ => rfl, rfl⟩
theorem q_X.tr {D E F : am_D} (h : q_X D E) (k : q_X E F) : q_X D F := ⟨fun a h1 h2 => (k.1 a h1 h2).trans (h.1 a h1 h2), k.2.trans h.2⟩
theorem q_X_E {E : am_D} (h : q_X D E) : q_E D E := ⟨fun a ha => h.1 a (by omega) (by omega), ⟨by rw [h.1 106 (by omega) (by omega)], by rw [h.1 106 (by omega) (by omega)], by rw [h.1 106 (by omega) (by omega)]⟩, by rw [h.2]⟩
theorem q124 (hN : 2000 ≤ N) (hB : q_B D) (hK : q_K D n p T V) {x h t : Nat} (hx : x < 4) (hh : h < 4) (ht : t < 28) : ∃ E, m124 N D (Int32.ofNat x) (Int32.ofNat h) (Int32.ofNat t) = some (Int32.ofNat (q_hv D x h t), E) ∧ q_X D E := by
  obtain ⟨w, hw, ew⟩ := k_pw hK t ht
  have hsc := q_sc_w (x := x) hw ew
  unfold m124 q_hv
  by_cases c : h = x
  · subst c
    rw [if_pos rfl, if_pos rfl, q56 D ht, Option.bind_some]
    by_cases d : q_P D t = Int32.ofNat h
    · obtain ⟨E, e1, e2, e3⟩ := q121' (r := -1) (h := -1) hN hB hK hx q_hr1
      rw [if_pos d, if_neg (show ¬ (1 : Int32) = 0 by decide), e1, if_pos d]
      exact ⟨E, rfl, e2, e3⟩
    · rw [if_neg d, if_pos rfl, if_neg d]
      exact ⟨D, rfl, q_X.rf D⟩
  · have i25 : 0 ≤ (25 : Int32) + Int32.ofNat t ∧ (25 : Int32) + Int32.ofNat t < 1320 := by
      rw [q_l25, q_add]; exact q_in (n := 1320) (by omega) (by omega)
    have n25 : ((25 : Int32) + Int32.ofNat t).toNatClampNeg = 25 + t := by rw [q_l25, q_add, q_tn (by omega)]
    have ew' : D.1 107 (25 + t) = Int32.ofNat w := ew
    have e48 : m48 (Int32.ofNat w) = if w < 4 then 1 else 0 := by
      have : ∀ w, w < 6 → m48 (Int32.ofNat w) = if w < 4 then 1 else 0 := by decide +kernel
      exact this w hw
    rw [if_neg (show ¬ Int32.ofNat h = Int32.ofNat x from fun q => c (q_ofN (by omega) (by omega) q)), if_pos i25, n25, ew', e48, if_neg c]
    by_cases d : w < 4
    · rw [if_pos d, if_neg (show ¬ (1 : Int32) = 0 by decide), if_pos i25]
      by_cases f : w = x
      · rw [if_pos (show Int32.ofNat w = Int32.ofNat x by rw [f]), Option.bind_some, if_pos rfl, if_neg (show ¬ q_sc (q_P D) x t = 1 by rw [hsc, if_neg (fun q => q.2 f)]; omega)]
        exact ⟨D, rfl, q_X.rf D⟩
      · rw [if_neg (show ¬ Int32.ofNat w = Int32.ofNat x from fun q => f (q_ofN (by omega) (by omega) q)), Option.bind_some, if_neg (show ¬ (1 : Int32) = 0 by decide), if_pos (show q_sc (q_P D) x t = 1 by rw [hsc, if_pos ⟨d, f⟩])]
        obtain ⟨E, e1, e2, e3⟩ := q121' (r := Int32.ofNat t) (h := Int32.ofNat h) hN hB hK hx (fun _ _ _ => ⟨h, hh, rfl⟩)
        rw [e1]
        exact ⟨E, rfl, e2, e3⟩
    · rw [if_neg d, if_pos rfl, Option.bind_some, if_pos rfl, if_neg (show ¬ q_sc (q_P D) x t = 1 by rw [hsc, if_neg (fun q => d q.1)]; omega)]
      exact ⟨D, rfl, q_X.rf D⟩
/-- a call that counts deals -/
theorem q_G_dv {A M : am_D → Option (Int32 × am_D)} (hI : q_I D) {E : am_D} (hE : q_E D E) (v : Nat) (hA : A D = some (0, am_uJ E 124 0 (Int32.ofNat v).toInt64)) (hM : ∀ Y, Y = am_uI (am_uJ E 124 0 (Int32.ofNat v).toInt64) 106 0 0 → q_E D Y → ∃ D2, M (am_uJ E 124 0 (Int32.ofNat v).toInt64) = some (Int32.ofNat v, D2) ∧ q_X Y D2) : q_G A M D := by
  have hY : q_E D (am_uI (am_uJ E 124 0 (Int32.ofNat v).toInt64) 106 0 0) := hE.tr (q_mE E _ _)
  obtain ⟨D2, h1, h2⟩ := hM _ rfl hY
  refine q_G_ok (D' := E) (D2 := D2) (Int32.ofNat v) hA h1 ?_ ?_ (q_E_I (hY.tr (q_X_E h2)) hI)
  · rw [h2.1 106 (by omega) (by omega)]
    exact q_uIs _ _ _ _
  · rw [h2.2]; rfl
theorem q_j32 (v : Nat) : (Int64.ofNat v).toInt32 = Int32.ofNat v := Int64.toInt32_ofNat'
theorem q_I_tb (hI : q_I D) : q_tb D := q_I_bi hI
theorem q_ER {E E' : am_D} (h : q_E D E) (h1 : E'.1 = E.1) (h2 : ∀ r, r ≠ 97 → E'.2.1 r = E.2.1 r) : q_E D E' := ⟨fun a ha => by rw [h1]; exact h.1 a ha, by rw [h1]; exact h.2.1, by rw [h2 98 (by omega)]; exact h.2.2⟩
theorem g_deals (hN : 2000 ≤ N) (hI : q_I D) (v1 v2 : Int32) : q_G (fun D => m281 N D v1 v2) (fun D => m123 N D v1 v2) D := by
  obtain ⟨n, p, T, V, hK⟩ := q_I_K hI
  have hB := hI.1
  rcases q40 v1 with ⟨x, hx, rfl, e1, e2⟩ | ⟨e1, e2⟩
  · rcases q43 v2 with ⟨w, hw, rfl, e3, -, e4⟩ | ⟨e3, -, e4⟩
    · obtain ⟨E, a1, a2⟩ := q189 hN hK hx
      have hE := q_lk1_E a2
      have hcl : ∃ E', q_E D E' ∧ m24 N D (Int32.ofNat x) (Int32.ofNat w) = some (Sum.inl (Int32.ofNat (q_dv D (-1) (-1) x)), E') := by
        obtain rfl | rfl : w = 0 ∨ w = 1 := by omega
        · obtain ⟨E', b1, b2, b3, b4⟩ := q192 hN hK hx a2
          refine ⟨E', q_ER hE b2 b4, ?_⟩
          unfold m24
          rw [if_neg (by rw [e1]; decide), if_neg (by rw [e3]; decide), a1, Option.bind_some, if_pos (show Int32.ofNat 0 = 0 from rfl), b1, Option.bind_some]
          dsimp only
          rw [q_j32, q_V_all hK x (-1)]
        · refine ⟨E, hE, ?_⟩
          unfold m24
          rw [if_neg (by rw [e1]; decide), if_neg (by rw [e3]; decide), a1, Option.bind_some, if_neg (show ¬ Int32.ofNat 1 = 0 by decide), q196a (q_I_tb hI) hN hK hx a2, Option.bind_some, q_j32]
      obtain ⟨E', b1, b2⟩ := hcl
      refine q_G_dv hI b1 (q_dv D (-1) (-1) x) ?_ (fun Y hYe hY => ?_)
      · show m281 N D _ _ = _
        unfold m281
        rw [b2]
        rfl
      · obtain ⟨F, f1, f2, f3⟩ := q121' (r := -1) (h := -1) hN (q_E_B hY hB) (q_E_K hY hK) hx q_hr1
        rw [q_dv_cg (hY.1 107 (by omega))] at f1
        refine ⟨F, ?_, f2, f3⟩
        show m123 N _ _ _ = _
        unfold m123
        simp only [am_lt, e2, e4, q_10, if_false, q47a]
        rw [← hYe, f1]
        rfl
    · refine q_G_ex hI 2 (by omega) ?_ ?_
      · show m281 N D _ _ = _
        unfold m281 m24
        rw [if_neg (by rw [e1]; decide), if_pos e3]
        rfl
      · show m123 N D _ _ = _
        unfold m123
        simp only [am_lt, e2, e4, q_10, if_false, if_true, q47c]
        rfl
  · refine q_G_ex hI 1 (by omega) ?_ ?_
    · show m281 N D _ _ = _
      unfold m281 m24
      rw [if_pos e1]
      rfl
    · show m123 N D _ _ = _
      unfold m123
      simp only [am_lt, e2, if_true, q47b]
      rfl
/-- having, the class, where all numbers are of a kind -/
theorem q25 (hN : 2000 ≤ N) (hD : q_tb D) (hK : q_K D n p T V) {x h t : Nat} (hx : x < 4) (hh : h < 4) (ht : t < 28) : ∃ E, m25 N D (Int32.ofNat x) (Int32.ofNat h) (Int32.ofNat t) = some (Sum.inl (Int32.ofNat (q_hv D x h t)), E) ∧ q_E D E := by
  have e40 : ∀ x, x < 4 → m40 (Int32.ofNat x) = 1 := by decide +kernel
  have e41 : ∀ x, x < 28 → m41 (Int32.ofNat x) = 1 := by decide +kernel
  obtain ⟨E, a1, a2⟩ := q189 hN hK hx
  have hE := q_lk1_E a2
  refine ⟨E, ?_, hE⟩
  unfold m25 q_hv
  rw [if_neg (by rw [e40 x hx]; decide), if_neg (by rw [e40 h hh]; decide), if_neg (by rw [e41 t ht]; decide), a1, Option.bind_some]
  by_cases c : h = x
  · subst c
    rw [if_pos rfl, if_pos rfl, q203 E ht, a2.2.2.2.2.1 7 (by omega), k_pl hK t ht]
    by_cases d : q_P D t = Int32.ofNat h
    · rw [if_pos d, if_pos d, q196a hD hN hK hx a2, Option.bind_some, q_j32]
    · rw [if_neg d, if_neg d]; rfl
  · rw [if_neg (show ¬ Int32.ofNat h = Int32.ofNat x from fun q => c (q_ofN (by omega) (by omega) q)), if_neg c]
    have e190 : m190 E (Int32.ofNat t) = if q_sc (D.1 7) x t = 1 then Int32.ofNat (q_ka D x t) else -1 := by
      unfold m190
      rw [q_rt _ (by omega) ht]
      exact a2.2.2.1 t ht
    have esc : q_sc (q_P D) x t = q_sc (D.1 7) x t := by unfold q_sc; rw [k_pl hK t ht]
    rw [e190, esc]
    by_cases d : q_sc (D.1 7) x t = 1
    · rw [if_pos d, if_pos d, q199 hD hN hK hx hh c ht d a2, Option.bind_some]
      dsimp only
      rw [q_j32]
    · rw [if_neg d, if_neg d]
      obtain ⟨j, hj, f1, f2⟩ := q_kh h hh x hx c
      have e199 : m199 N E (Int32.ofNat h) (-1) = some (Int64.ofNat 0, E) := by
        unfold m199
        simp only [am_lt]
        rw [if_pos (show (-1 : Int32) < 0 by decide)]
      rw [e199, Option.bind_some]
      rfl
theorem g_having (hN : 2000 ≤ N) (hI : q_I D) (v1 v2 v3 : Int32) : q_G (fun D => m282 N D v1 v2 v3) (fun D => m125 N D v1 v2 v3) D := by
  obtain ⟨n, p, T, V, hK⟩ := q_I_K hI
  have hB := hI.1
  rcases q40 v1 with ⟨x, hx, rfl, e1, e2⟩ | ⟨e1, e2⟩
  · rcases q40 v2 with ⟨h, hh, rfl, e3, e4⟩ | ⟨e3, e4⟩
    · rcases q41 v3 with ⟨t, ht, rfl, e5, e6⟩ | ⟨e5, e6⟩
      · obtain ⟨E, b2, b1⟩ := q25 hN (q_I_tb hI) hK hx hh ht
        refine q_G_dv hI b1 (q_hv D x h t) ?_ (fun Y hYe hY => ?_)
        · show m282 N D _ _ _ = _
          unfold m282
          rw [b2]
          rfl
        · obtain ⟨F, f1, f2⟩ := q124 hN (q_E_B hY hB) (q_E_K hY hK) hx hh ht
          rw [q_hv_cg (hY.1 107 (by omega))] at f1
          refine ⟨F, ?_, f2⟩
          show m125 N _ _ _ _ = _
          unfold m125
          simp only [am_lt, e2, e4, e6, q_10, if_false, q47a]
          rw [← hYe, f1]
          rfl
      · refine q_G_ex hI 1 (by omega) ?_ ?_
        · show m282 N D _ _ _ = _
          unfold m282 m25
          rw [if_neg (by rw [e1]; decide), if_neg (by rw [e3]; decide), if_pos e5]
          rfl
        · show m125 N D _ _ _ = _
          unfold m125
          simp only [am_lt, e2, e4, e6, q_10, if_false, if_true, q47b]
          rfl
    · refine q_G_ex hI 1 (by omega) ?_ ?_
      · show m282 N D _ _ _ = _
        unfold m282 m25
        rw [if_neg (by rw [e1]; decide), if_pos e3]
        rfl
      · show m125 N D _ _ _ = _
        unfold m125
        simp only [am_lt, e2, e4, q_10, if_false, if_true, q47b]
        rfl
  · refine q_G_ex hI 1 (by omega) ?_ ?_
    · show m282 N D _ _ _ = _
      unfold m282 m25
      rw [if_pos e1]
      rfl
    · show m125 N D _ _ _ = _
      unfold m125
      simp only [am_lt, e2, if_true, q47b]
      rfl
end ON
