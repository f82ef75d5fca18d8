/-! open hands: the model's answer -/
section QF
variable {D : am_D} {N n p K : Nat} {T V : Nat → Nat}
def q_e0 (V T : Nat → Nat) : Nat := V 0 + 8 * q_dd (T 0)
def q_e1 (n : Nat) (V T : Nat → Nat) : Nat := (q_pip (T (n - 1)) - V (n - 1)) + 8 * q_dd (T (n - 1))
theorem q_e_ok (hK : q_K D n p T V) (hn : 0 < n) : q_e0 V T < 16 ∧ q_e0 V T % 8 < 7 ∧ q_e1 n V T < 16 ∧ q_e1 n V T % 8 < 7 := by
  obtain ⟨a1, a2, -⟩ := k_k hK 0 hn
  obtain ⟨b1, b2, -⟩ := k_k hK (n - 1) (by omega)
  have h1 := (q_v7 a1 a2).1
  have h2 := (q_v7 b1 b2).2
  have h3 := q_dd2 (T 0)
  have h4 := q_dd2 (T (n - 1))
  unfold q_e0 q_e1
  omega
/-- few tiles in the hands: the chain has some -/
theorem q_n0 (hK : q_K D n 1 T V) (h9 : q_all (q_cnt (q_P D)) ≤ 9) : 0 < n := by
  have e1 := q_part (k_pw hK)
  have e5 : q_cnt (q_P D) (Int32.ofNat 5) = 0 := q_cnt_0.mpr (k_nob hK (by omega))
  by_cases h0 : n = 0
  · have e4 : q_cnt (q_P D) (Int32.ofNat 4) = 0 := q_cnt_0.mpr (fun t ht e => by
      obtain ⟨k, hk, -⟩ := (k_in hK t ht).mp e
      omega)
    omega
  · omega
theorem q_pw5 (hK : q_K D n 1 T V) : ∀ t, t < 28 → ∃ w, w < 5 ∧ q_P D t = Int32.ofNat w := fun t ht => by
  obtain ⟨w, hw, e⟩ := k_pw hK t ht
  refine ⟨w, ?_, e⟩
  have := k_nob hK (by omega) t ht
  by_cases c : w = 5
  · rw [c] at e; exact absurd e this
  · omega
theorem q141_2 : ∀ (k i m : Nat) (E : am_D), i + k = 28 → k < m → ∃ E', m141_L2 N m E (Int32.ofNat i) = some E' ∧ (∀ t, E'.1 115 t = if i ≤ t ∧ t < 28 then E.1 107 (25 + t) else E.1 115 t) ∧ (∀ a, a ≠ 115 → E'.1 a = E.1 a) ∧ E'.2 = E.2
  | 0, i, m + 1, E, hi, hm => by
    obtain rfl : i = 28 := by omega
    rw [m141_L2, if_pos (show (28 : Int32) ≤ Int32.ofNat 28 by decide)]
    exact ⟨E, rfl, fun t => by rw [if_neg (by omega)], fun _ _ => rfl, rfl⟩
  | k + 1, i, m + 1, E, hi, hm => by
    have h28 : i < 28 := by omega
    have i25 : 0 ≤ (25 : Int32) + Int32.ofNat i ∧ (25 : Int32) + Int32.ofNat i < 1320 := by
      rw [q_l25, q_add]; exact q_in (n := 1320) (by omega) (by omega)
    have n25 : ((25 : Int32) + Int32.ofNat i).toNatClampNeg = 25 + i := by rw [q_l25, q_add, q_tn (by omega)]
    rw [m141_L2, if_neg (show ¬ (28 : Int32) ≤ Int32.ofNat i from q_nle (a := i) (b := 28) (by omega) h28), if_pos i25, if_pos (show 0 ≤ Int32.ofNat i ∧ Int32.ofNat i < 28 from q_in (n := 28) (by omega) h28), n25, q_tn (by omega)]
    simp only [am_lt]
    rw [show Int32.ofNat i + 1 = Int32.ofNat (i + 1) from q_add i 1]
    obtain ⟨E', e1, e2, e3, e4⟩ := q141_2 k (i + 1) m (am_uI E 115 i (E.1 107 (25 + i))) (by omega) (by omega)
    refine ⟨E', e1, fun t => ?_, fun a ha => by rw [e3 a ha, q_uI_ne _ ha], e4⟩
    rw [e2 t, q_uI_ne _ (by omega), q_uI_at]
    by_cases c : t = i
    · subst c
      rw [if_neg (by omega), if_pos ⟨rfl, rfl⟩, if_pos (by omega)]
    · rw [if_neg (show ¬ (115 = 115 ∧ t = i) from fun z => c z.2)]
      by_cases d : i + 1 ≤ t ∧ t < 28
      · rw [if_pos d, if_pos (by omega)]
      · rw [if_neg d, if_neg (by omega)]
  | _, _, 0, _, _, hm => by omega
/-- only what open hands are played in differs -/
def q_Z (D E : am_D) : Prop := (∀ a, a < 115 → a ≠ 106 → E.1 a = D.1 a) ∧ (∀ a, 123 < a → E.1 a = D.1 a) ∧ (∀ j, j ≠ 24 → E.1 106 j = D.1 106 j) ∧ E.2 = D.2
theorem q_Z.rf (D : am_D) : q_Z D D := ⟨fun _ _ _ => rfl, fun _ _ => rfl, fun _ _ => rfl, rfl⟩
theorem q_Z.tr {D E F : am_D} (h : q_Z D E) (k : q_Z E F) : q_Z D F := ⟨fun a x y => (k.1 a x y).trans (h.1 a x y), fun a x => (k.2.1 a x).trans (h.2.1 a x), fun j x => (k.2.2.1 j x).trans (h.2.2.1 j x), k.2.2.2.trans h.2.2.2⟩
theorem q_Z_uI {D : am_D} {a j : Nat} {x : Int32} (h : (115 ≤ a ∧ a ≤ 123) ∨ (a = 106 ∧ j = 24)) : q_Z D (am_uI D a j x) := by
  refine ⟨fun b h1 h2 => q_uI_ne _ (by omega), fun b h1 => q_uI_ne _ (by omega), fun i hi => ?_, rfl⟩
  rw [q_uI_at, if_neg (by omega)]
theorem q_Z_E {E : am_D} (h : q_Z D E) : q_E D E := ⟨fun a ha => h.1 a (by omega) (by omega), ⟨h.2.2.1 2 (by omega), h.2.2.1 3 (by omega), h.2.2.1 5 (by omega)⟩, by rw [h.2.2.2]⟩
theorem q141 (hN : 2000 ≤ N) (hK44 : K = 44) (hC : q_Cc K ≤ N) (hB : q_B D) (hK : q_K D n 1 T V) (h9 : q_all (q_cnt (q_P D)) ≤ 9) {u r : Nat} (hu4 : u < 4) (hu : D.1 107 1 = Int32.ofNat u) (hr3 : r ≤ 3) (hr : D.1 107 4 = Int32.ofNat r) : ∃ E, m141 N D = some (q_op K (q_P D) (q_e0 V T) (q_e1 n V T) u r, E) ∧ E.1 106 24 = q_cd (q_fd (q_op (K - 1)) (q_P D) (q_e0 V T) (q_e1 n V T) u 56 0 none) ∧ q_Z D E := by
  have hn := q_n0 hK h9
  obtain ⟨s1, s2, s3, s4⟩ := q_e_ok hK hn
  obtain ⟨E0, a1, a2, a3, a4⟩ := q141_2 (N := N) 28 0 N D (by omega) (by omega)
  have a1' : m141_L2 N N D 0 = some E0 := a1
  have z0 : q_Z D E0 := ⟨fun a h1 h2 => a3 a (by omega), fun a h1 => a3 a (by omega), fun j _ => by rw [a3 106 (by omega)], a4⟩
  obtain ⟨E1, hE1⟩ : ∃ E1, E1 = am_uI E0 120 0 (Int32.ofNat (q_e0 V T)) := ⟨_, rfl⟩
  have z1 : q_Z D E1 := z0.tr (by rw [hE1]; exact q_Z_uI (by omega))
  obtain ⟨E2, hE2⟩ : ∃ E2, E2 = am_uI E1 121 0 (Int32.ofNat (q_e1 n V T)) := ⟨_, rfl⟩
  have z2 : q_Z D E2 := z1.tr (by rw [hE2]; exact q_Z_uI (by omega))
  obtain ⟨E3, hE3⟩ : ∃ E3, E3 = am_uI E2 123 0 (Int32.ofNat r) := ⟨_, rfl⟩
  have z3 : q_Z D E3 := z2.tr (by rw [hE3]; exact q_Z_uI (by omega))
  obtain ⟨E4, hE4⟩ : ∃ E4, E4 = am_uI E3 106 24 (-1) := ⟨_, rfl⟩
  have z4 : q_Z D E4 := z3.tr (by rw [hE4]; exact q_Z_uI (by omega))
  obtain ⟨E5, hE5⟩ : ∃ E5, E5 = am_uI (am_uI (am_uI E4 116 0 0) 122 0 0) 117 0 0 := ⟨_, rfl⟩
  have z5 : q_Z D E5 := z4.tr (by rw [hE5]; exact (q_Z_uI (by omega)).tr ((q_Z_uI (by omega)).tr (q_Z_uI (by omega))))
  have m0 := (q132 (q_E_B (q_Z_E z0) hB) (q_E_K (q_Z_E z0) hK) hn).1
  have m1 := (q132 (q_E_B (q_Z_E z1) hB) (q_E_K (q_Z_E z1) hK) hn).2
  have h139 := q139 (D := E4) (d := 0) (by omega)
  have h139' : m139 E4 0 = some E5 := by rw [hE5]; exact h139
  have v5 : ∀ a, a ≠ 116 → a ≠ 117 → a ≠ 122 → E5.1 a = E4.1 a := fun a h1 h2 h3 => by rw [hE5, q_uI_ne _ h2, q_uI_ne _ h3, q_uI_ne _ h1]
  obtain ⟨c, E6, k1, k2, k3, k4⟩ := q_NP_all hN hB hu hu4 K 0 E5 (q_P D) (q_e0 V T) (q_e1 n V T) r (by omega) (q_pw5 hK) s1 s3 s2 s4 hr3 (by omega) ⟨fun t ht => by
      rw [v5 115 (by omega) (by omega) (by omega), hE4, q_uI_ne _ (by omega), hE3, q_uI_ne _ (by omega), hE2, q_uI_ne _ (by omega), hE1, q_uI_ne _ (by omega), a2, if_pos (by omega)]
      rfl, by rw [v5 120 (by omega) (by omega) (by omega), hE4, q_uI_ne _ (by omega), hE3, q_uI_ne _ (by omega), hE2, q_uI_ne _ (by omega), hE1, q_uIs], by rw [v5 121 (by omega) (by omega) (by omega), hE4, q_uI_ne _ (by omega), hE3, q_uI_ne _ (by omega), hE2, q_uIs], by rw [v5 123 (by omega) (by omega) (by omega), hE4, q_uI_ne _ (by omega), hE3, q_uIs], z5.1 107 (by omega) (by omega), z5.1 109 (by omega) (by omega), z5.1 110 (by omega) (by omega)⟩ (by rw [hE5, q_uI_ne _ (by omega), q_uI_ne _ (by omega), q_uIs]) (by rw [hE5, q_uI_ne _ (by omega), q_uIs]) (fun _ => by rw [v5 106 (by omega) (by omega) (by omega), hE4, q_uIs])
  have hu0 : (u + 0) % 4 = u := by omega
  rw [hu0] at k2 k4
  refine ⟨E6, ?_, k4 rfl, z5.tr ⟨k3.1, k3.2.1, k3.2.2.1, k3.2.2.2.2.2.2.2⟩⟩
  have hl := k2 (N - c)
  rw [Nat.sub_add_cancel (Nat.le_trans k1 hC)] at hl
  obtain ⟨N', hN'⟩ : ∃ N', N = N' + 1 := ⟨N - 1, by omega⟩
  have hr1 : q_rt' N (N - c) E6 0 (q_op K (q_P D) (q_e0 V T) (q_e1 n V T) u r) = some (q_op K (q_P D) (q_e0 V T) (q_e1 n V T) u r, E6) := by
    unfold q_rt'
    have h1 : m141_L311 N (N' + 1) E6 (Int32.ofNat 0) (q_op K (q_P D) (q_e0 V T) (q_e1 n V T) u r) 1 = some (1, 0, q_op K (q_P D) (q_e0 V T) (q_e1 n V T) u r, E6) := by
      rw [m141_L311, if_neg (show ¬ (1 : Int32) = 0 by decide), if_pos (show Int32.ofNat 0 = 0 from rfl)]
    rw [← hN'] at h1
    rw [h1, Option.bind_some]
    rfl
  have hl' : m141_L75 N N E5 0 = some (q_op K (q_P D) (q_e0 V T) (q_e1 n V T) u r, E6) := hl.trans hr1
  unfold m141
  rw [a1', Option.bind_some, m0, Option.bind_some]
  simp only [am_lt]
  rw [show am_uI E0 120 0 (Int32.ofNat (V 0 + 8 * q_dd (T 0))) = E1 from hE1.symm, m1, Option.bind_some, show am_uI E1 121 0 (Int32.ofNat (q_pip (T (n - 1)) - V (n - 1) + 8 * q_dd (T (n - 1)))) = E2 from hE2.symm, show E2.1 107 4 = Int32.ofNat r by rw [z2.1 107 (by omega) (by omega)]; exact hr, ← hE3, ← hE4, h139', Option.bind_some, hl', Option.bind_some]
/-- what is told of open hands -/
noncomputable def q_on (K : Nat) (D : am_D) (n p : Nat) (T V : Nat → Nat) (u r w : Nat) : Int32 := if p = 1 ∧ q_all (q_cnt (q_P D)) ≤ 9 then (if w = 0 then q_op K (q_P D) (q_e0 V T) (q_e1 n V T) u r else match q_fd (q_op (K - 1)) (q_P D) (q_e0 V T) (q_e1 n V T) u 56 0 none with
  | none => -1
  | some b => if w = 1 then Int32.ofNat (b.2 / 2) else Int32.ofNat (b.2 % 2)) else -1
theorem q_fd_lt (rec : (Nat → Int32) → Nat → Nat → Nat → Nat → Int32) (own : Nat → Int32) (le re h : Nat) : ∀ (j o : Nat) (acc : Option (Int32 × Nat)), (∀ b, acc = some b → b.2 < o + j) → ∀ b, q_fd rec own le re h j o acc = some b → b.2 < o + j
  | 0, o, acc, ha, b, hb => by
    have : b.2 < o + 0 := ha b hb
    exact this
  | j + 1, o, acc, ha, b, hb => by
    have hb' : q_fd rec own le re h j (o + 1) (if q_lg own le re h o then q_pk rec own le re h o acc else acc) = some b := hb
    have := q_fd_lt rec own le re h j (o + 1) _ (fun b' hb2 => ?_) b hb'
    · omega
    · by_cases c : q_lg own le re h o
      · rw [if_pos c] at hb2
        unfold q_pk at hb2
        cases acc with
        | none =>
          have := Option.some.inj hb2
          rw [← this]
          show o < o + 1 + j
          omega
        | some a =>
          simp only at hb2
          by_cases d : q_ov rec own le re h o ≤ a.1
          · rw [if_pos d] at hb2
            have h1 := ha a rfl
            have := Option.some.inj hb2
            rw [← this]
            omega
          · rw [if_neg d] at hb2
            have := Option.some.inj hb2
            rw [← this]
            show o < o + 1 + j
            omega
      · rw [if_neg c] at hb2
        have := ha b' hb2
        omega
theorem q142 (hN : 2000 ≤ N) (hK44 : K = 44) (hC : q_Cc K ≤ N) (hB : q_B D) (hK : q_K D n p T V) {u r w : Nat} (hu4 : u < 4) (hu : D.1 107 1 = Int32.ofNat u) (hr3 : p = 1 → r ≤ 3) (hr : D.1 107 4 = Int32.ofNat r) (hw : w < 3) : ∃ E, m142 N D (Int32.ofNat w) = some (q_on K D n p T V u r w, E) ∧ q_Z D E := by
  have hp3 := k_p3 hK
  unfold m142 q_on
  rw [k_p hK]
  by_cases hp : p = 1
  · subst hp
    have e1 := q_part (k_pw hK)
    have ey : Int32.ofNat 28 - Int32.ofNat (q_cnt (q_P D) 4) - Int32.ofNat (q_cnt (q_P D) 5) = Int32.ofNat (q_all (q_cnt (q_P D))) := by
      have e4 : q_cnt (q_P D) 4 = q_cnt (q_P D) (Int32.ofNat 4) := rfl
      have e5 : q_cnt (q_P D) 5 = q_cnt (q_P D) (Int32.ofNat 5) := rfl
      have e : 28 - q_cnt (q_P D) (Int32.ofNat 4) - q_cnt (q_P D) (Int32.ofNat 5) = q_all (q_cnt (q_P D)) := by omega
      rw [e4, e5, q_sub (by omega), q_sub (by omega), e]
    rw [if_pos (show Int32.ofNat 1 = (1 : Int32) from rfl), q135 hN, ey, Option.bind_some]
    by_cases h9 : q_all (q_cnt (q_P D)) ≤ 9
    · obtain ⟨E, k1, k2, k3⟩ := q141 hN hK44 hC hB hK h9 hu4 hu (hr3 rfl) hr
      rw [if_pos (show Int32.ofNat (q_all (q_cnt (q_P D))) ≤ (9 : Int32) from q_yle (a := q_all (q_cnt (q_P D))) (b := 9) (by omega) h9), if_pos ⟨rfl, h9⟩, k1, Option.bind_some]
      dsimp only
      rw [k2]
      by_cases c : w = 0
      · rw [if_pos (show Int32.ofNat w = 0 by rw [c]; rfl), if_pos c]
        exact ⟨E, rfl, k3⟩
      · rw [if_neg (show ¬ Int32.ofNat w = 0 from fun q => c (q_ofN (b := 0) (by omega) (by omega) q)), if_neg c]
        cases hfd : q_fd (q_op (K - 1)) (q_P D) (q_e0 V T) (q_e1 n V T) u 56 0 none with
        | none =>
          refine ⟨E, ?_, k3⟩
          rw [show q_cd none = (-1 : Int32) from rfl, if_pos rfl]
        | some b =>
          have hb := q_fd_lt _ _ _ _ _ 56 0 none (fun b' hb' => by cases hb') b hfd
          refine ⟨E, ?_, k3⟩
          rw [show q_cd (some b) = Int32.ofNat b.2 from rfl, if_neg (q_nm (by omega)), show (2 : Int32) = Int32.ofNat 2 from rfl, q_mod (by omega) (by omega), q_div (by omega) (by omega)]
          show (if Int32.ofNat w = (1 : Int32) then some (Int32.ofNat (b.2 / 2), E) else some (Int32.ofNat (b.2 % 2), E)) = some ((if w = 1 then Int32.ofNat (b.2 / 2) else Int32.ofNat (b.2 % 2)), E)
          by_cases d : w = 1
          · rw [if_pos (show Int32.ofNat w = (1 : Int32) by rw [d]; rfl), if_pos d]
          · rw [if_neg (show ¬ Int32.ofNat w = (1 : Int32) from fun q => d (q_ofN (b := 1) (by omega) (by omega) q)), if_neg d]
    · rw [if_neg (show ¬ Int32.ofNat (q_all (q_cnt (q_P D))) ≤ (9 : Int32) from q_nle (a := 9) (b := q_all (q_cnt (q_P D))) (by omega) (by omega)), if_neg (fun q => h9 q.2)]
      exact ⟨D, rfl, q_Z.rf D⟩
  · rw [if_neg (show ¬ Int32.ofNat p = (1 : Int32) from fun q => hp (q_ofN (b := 1) (by omega) (by omega) q)), if_neg (fun q => hp q.1)]
    exact ⟨D, rfl, q_Z.rf D⟩
end QF
