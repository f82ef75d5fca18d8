/-! if laid: both sides -/
section MQ
variable {D : am_D} {n p : Nat} {T V : Nat → Nat}
theorem q209_L {N : Nat} {v A B : Int32} : ∀ (k i a m : Nat), i + k = 28 → k < m → m209_L28 N D v A B m (Int32.ofNat a) (Int32.ofNat i) = some (Int32.ofNat (a + q_S (fun j => if D.1 7 j = v ∧ (q_sh j A ∨ q_sh j B) then 1 else 0) i k))
  | 0, i, a, m + 1, hi, hn => by
    obtain rfl : i = 28 := by omega
    rw [m209_L28]
    simp (disch := omega) only [q_l0, q_l1, q_l2, q_l3, q_l4, q_l5, q_l6, q_l7, q_l8, q_l9, q_l10, q_l13, q_l15, q_l17, q_l18, q_l19, q_l21, q_l22, q_l23, q_l25, q_l27, q_l28, q_l31, q_l33, q_l41, q_l43, q_l44, q_l45, q_l48, q_l49, q_l51, q_l52, q_l53, q_l54, q_l56, q_l57, q_l58, q_l59, q_l60, q_l62, q_l63, q_l64, q_l73, q_l81, q_l99, q_l108, q_l109, q_l112, q_l116, q_l126, q_l127, q_l128, q_l137, q_l165, q_l484, q_l1023, q_l1320, q_l4095, q_l4096, q_lm, am_lt, q_le, q_lt, q_tn, q_add, q_ite, Nat.zero_le, and_self, true_and, and_true, if_true, if_false, ite_self, Nat.le_refl]
    rfl
  | k + 1, i, a, m + 1, hi, hn => by
    have h2 : i < 28 := by omega
    have i28 : 0 ≤ Int32.ofNat i ∧ Int32.ofNat i < 28 := q_in (n := 28) (by omega) h2
    have g1 : (if D.1 7 i = v then (if (if (m253 (Int32.ofNat i) A) = 0 then (if (m253 (Int32.ofNat i) B) = 0 then (0 : Int32) else (1 : Int32)) else (1 : Int32)) = 0 then (0 : Int32) else (1 : Int32)) else (0 : Int32)) = Int32.ofNat (if D.1 7 i = v ∧ (q_sh i A ∨ q_sh i B) then 1 else 0) := by
      rw [q253 h2, q253 h2]
      by_cases c0 : D.1 7 i = v <;> by_cases c1 : q_sh i A <;> by_cases c2 : q_sh i B <;> simp [c0, c1, c2] <;> rfl
    rw [m209_L28, if_neg (show ¬ (28 : Int32) ≤ Int32.ofNat i from q_nle (b := 28) (by omega) h2)]
    simp only [am_lt]
    rw [if_pos i28, q_tn (by omega), g1, q_add, show Int32.ofNat i + 1 = Int32.ofNat (i + 1) from q_add i 1, q209_L k (i + 1) _ m (by omega) (by omega)]
    show some (Int32.ofNat _) = some (Int32.ofNat (_ + (_ + _)))
    rw [Nat.add_assoc]
  | _, _, _, 0, _, hn => by omega
theorem q209 {N : Nat} (hN : 2000 ≤ N) (v : Int32) {t e : Int32} : m209 N D v t e = some (Int32.ofNat (q_S (fun j => if D.1 7 j = v ∧ (q_sh j (m162 D t e) ∨ q_sh j (m163 D t e)) then 1 else 0) 0 28)) := by
  unfold m209
  simp only [am_lt]
  show (m209_L28 N D v _ _ N (Int32.ofNat 0) (Int32.ofNat 0)).bind _ = _
  rw [q209_L 28 0 0 N (by omega) (by omega), Nat.zero_add]
  rfl
/-- the two ends after the tile -/
theorem q_codes (hB : q_B D) (hK : q_K D n p T V) {t e : Nat} (ht : t < 28) (he : e < 2) (hf : n = 0 ∨ q_sh t (m156 D (Int32.ofNat e))) :
    ∃ a b da db, a < 7 ∧ b < 7 ∧ da < 2 ∧ db < 2 ∧
      (if (if (D.1 107 12) = 0 then (1 : Int32) else (0 : Int32)) = 0 then (if Int32.ofNat e = 0 then ((m131 D (Int32.ofNat t) (m59 D)).bind fun q10 => (some q10)) else ((m132 D (0 : Int32)).bind fun q12 => (some q12))) else (if 0 ≤ Int32.ofNat t ∧ Int32.ofNat t < 28 then (some (D.1 109 (Int32.ofNat t).toNatClampNeg)) else none)) = some (Int32.ofNat (a + 8 * da)) ∧
      (if (if (D.1 107 12) = 0 then (1 : Int32) else (0 : Int32)) = 0 then (if Int32.ofNat e = (1 : Int32) then ((m61 D).bind fun q20 => ((m131 D (Int32.ofNat t) q20).bind fun q22 => (some q22))) else ((m132 D (1 : Int32)).bind fun q24 => (some q24))) else (if 0 ≤ Int32.ofNat t ∧ Int32.ofNat t < 28 then (some (D.1 110 (Int32.ofNat t).toNatClampNeg)) else none)) = some (Int32.ofNat (b + 8 * db)) ∧
      m161 D (Int32.ofNat t) (Int32.ofNat e) = Int32.ofNat (a * (da + 1) + b * (db + 1)) ∧
      ∀ j, (q_sh j (Int32.ofNat a) ∨ q_sh j (Int32.ofNat b)) ↔ (q_sh j (m162 D (Int32.ofNat t) (Int32.ofNat e)) ∨ q_sh j (m163 D (Int32.ofNat t) (Int32.ofNat e))) := by
  have h28 := k_n28 hK
  have l7 := q_lo7 t ht
  have u7 := q_hi7 t ht
  by_cases h0 : n = 0
  · have i28 : 0 ≤ Int32.ofNat t ∧ Int32.ofNat t < 28 := q_in (n := 28) (by omega) ht
    have z : D.1 107 12 = 0 := by rw [k_n hK, h0]; rfl
    have z' : D.1 2 4 = 0 := by rw [k_n' hK, h0]; rfl
    refine ⟨q_lo t, q_hi t, 0, 0, l7, u7, by omega, by omega, ?_, ?_, ?_, ?_⟩
    · rw [z, if_pos rfl, if_neg (by decide), if_pos i28, q_tn (by omega)]
      exact congrArg some (hB t ht).1
    · rw [z, if_pos rfl, if_neg (by decide), if_pos i28, q_tn (by omega)]
      exact congrArg some (hB t ht).2
    · unfold m161
      rw [if_pos z', q251 ht]
      congr 1
      unfold q_pip; omega
    · intro j
      unfold m163 m162
      rw [if_pos z', if_pos z', if_pos z', q249 ht, q250 ht]
      obtain rfl | rfl : e = 0 ∨ e = 1 := by omega
      · rw [if_pos (show Int32.ofNat 0 = 0 from rfl), show m166 (Int32.ofNat 0) = 1 from rfl, if_neg (show ¬ (1 : Int32) = 0 by decide)]
      · rw [if_neg (show ¬ Int32.ofNat 1 = 0 by decide), show m166 (Int32.ofNat 1) = 0 from rfl, if_pos rfl]
        exact or_comm
  · have hn : 0 < n := by omega
    have z : ¬ D.1 107 12 = 0 := by rw [k_n hK, q_l0, q_eq (by omega) (by omega)]; exact h0
    have z' : ¬ D.1 2 4 = 0 := by rw [k_n' hK, q_l0, q_eq (by omega) (by omega)]; exact h0
    have w0 : m59 D = Int32.ofNat (V 0) := by rw [q59 hK, k_e0 hK, if_neg h0]
    have w1 : m61 D = some (Int32.ofNat (q_pip (T (n - 1)) - V (n - 1))) := by rw [q61 hB hK, k_e1 hK, if_neg h0]
    have y0 : m156 D 0 = Int32.ofNat (V 0) := by
      show D.1 2 5 = _
      rw [k_e0 hK, if_neg h0]
    have y1 : m156 D 1 = Int32.ofNat (q_pip (T (n - 1)) - V (n - 1)) := by
      show D.1 2 6 = _
      rw [k_e1 hK, if_neg h0]
    obtain ⟨a1, a2, a3, a4, -⟩ := k_k hK 0 hn
    obtain ⟨b1, b2, b3, b4, -⟩ := k_k hK (n - 1) (by omega)
    have v0 := q_v7 a1 a2
    have v1 := q_v7 b1 b2
    obtain ⟨m0, m1⟩ := q132 hB hK hn
    rw [if_neg z, if_pos rfl, if_pos rfl]
    obtain rfl | rfl : e = 0 ∨ e = 1 := by omega
    · have hv := q_ft0 hK ht hn hf
      have hv7 := q_v7 ht hv
      refine ⟨q_pip t - V 0, q_pip (T (n - 1)) - V (n - 1), q_dd t, q_dd (T (n - 1)), hv7.2, v1.2, q_dd2 _, q_dd2 _, ?_, ?_, ?_, ?_⟩
      · rw [if_pos (show Int32.ofNat 0 = 0 from rfl), w0, q131 hB ht hv]; rfl
      · rw [if_neg (show ¬ Int32.ofNat 0 = 1 by decide), m1]; rfl
      · unfold m161 m162
        rw [if_neg z', if_neg z', show m166 (Int32.ofNat 0) = 1 from rfl, show m156 D (Int32.ofNat 0) = Int32.ofNat (V 0) from y0, q251 ht, q_vfr hv, q255d ht, q157 hK hn, if_neg (show ¬ (1 : Int32) = 0 by decide), y1, q255d b1, q_add]
      · intro j
        unfold m163 m162
        rw [if_neg z', if_neg z', show m166 (Int32.ofNat 0) = 1 from rfl, show m156 D (Int32.ofNat 0) = Int32.ofNat (V 0) from y0, q251 ht, q_vfr hv, y1]
    · have hv := q_ft1 hK ht hn hf
      have hv7 := q_v7 ht hv
      refine ⟨V 0, q_pip t - (q_pip (T (n - 1)) - V (n - 1)), q_dd (T 0), q_dd t, v0.1, hv7.2, q_dd2 _, q_dd2 _, ?_, ?_, ?_, ?_⟩
      · rw [if_neg (show ¬ Int32.ofNat 1 = 0 by decide), m0]; rfl
      · rw [if_pos (show Int32.ofNat 1 = 1 from rfl), w1, Option.bind_some, q131 hB ht hv]; rfl
      · unfold m161 m162
        rw [if_neg z', if_neg z', show m166 (Int32.ofNat 1) = 0 from rfl, show m156 D (Int32.ofNat 1) = Int32.ofNat (q_pip (T (n - 1)) - V (n - 1)) from y1, q251 ht, q_vfr hv, q255d ht, q157 hK hn, if_pos rfl, y0, q255d a1, q_add, Nat.add_comm]
      · intro j
        unfold m163 m162
        rw [if_neg z', if_neg z', show m166 (Int32.ofNat 1) = 0 from rfl, show m156 D (Int32.ofNat 1) = Int32.ofNat (q_pip (T (n - 1)) - V (n - 1)) from y1, q251 ht, q_vfr hv, y0]
        exact or_comm
/-- so many of a hand fit then -/
theorem q_nf_ex : ∃ g : am_D → Int32 → Int32 → Int32 → Nat, ∀ D t e v, g D t e v = q_S (fun j => if q_P D j = v ∧ (q_sh j (m162 D t e) ∨ q_sh j (m163 D t e)) then 1 else 0) 0 28 := ⟨fun D t e v => q_S (fun j => if q_P D j = v ∧ (q_sh j (m162 D t e) ∨ q_sh j (m163 D t e)) then 1 else 0) 0 28, fun _ _ _ _ => rfl⟩
noncomputable def q_nf : am_D → Int32 → Int32 → Int32 → Nat := Classical.choose q_nf_ex
theorem q_nf_def (D : am_D) (t e v : Int32) : q_nf D t e v = q_S (fun j => if q_P D j = v ∧ (q_sh j (m162 D t e) ∨ q_sh j (m163 D t e)) then 1 else 0) 0 28 := Classical.choose_spec q_nf_ex D t e v
theorem q133 {N : Nat} (hN : 2000 ≤ N) (hB : q_B D) (hK : q_K D n p T V) {x t e w : Nat} (hx : x < 4) (ht : t < 28) (he : e < 2) (hf : n = 0 ∨ q_sh t (m156 D (Int32.ofNat e))) (hP : q_P D t = Int32.ofNat x) (hw : w ≤ 24) (h161 : m161 D (Int32.ofNat t) (Int32.ofNat e) = Int32.ofNat w) (v4 : Int32) :
    m133 N D (Int32.ofNat x) (Int32.ofNat t) (Int32.ofNat e) v4 = some (if v4 = 1 then Int32.ofNat w else if v4 = 2 then Int32.ofNat (q_nf D (Int32.ofNat t) (Int32.ofNat e) (Int32.ofNat ((x + 1) % 4))) else Int32.ofNat (q_gain D x w)) := by
  obtain ⟨a, b, da, db, ha, hb, hda, hdb, h5, h15, h16, hsh⟩ := q_codes hB hK ht he hf
  have hsw : a * (da + 1) + b * (db + 1) = w := by
    have e1 : a * (da + 1) + b * (db + 1) ≤ 24 := by
      obtain rfl | rfl : da = 0 ∨ da = 1 := by omega
      · obtain rfl | rfl : db = 0 ∨ db = 1 := by omega
        · omega
        · omega
      · obtain rfl | rfl : db = 0 ∨ db = 1 := by omega
        · omega
        · omega
    rw [h161] at h16
    exact (q_ofN (by omega) (by omega) h16).symm
  have a5 : ((Int32.ofNat x + (1 : Int32)) - (Int32.ofNat x + (1 : Int32)) / (4 : Int32) * (4 : Int32)) = Int32.ofNat ((x + 1) % 4) := q_md4' x hx 1 (by omega)
  unfold m133
  simp only [am_lt]
  rw [h5, Option.bind_some, h15, Option.bind_some, q130 a ha b hb da hda db hdb, hsw, a5]
  by_cases c1 : v4 = 1
  · rw [if_pos c1, if_pos c1]
  · have hL := q133_L (N := N) (v1 := Int32.ofNat x) (v4 := v4) (v8 := Int32.ofNat w) (v9 := Int32.ofNat ((x + 1) % 4)) hB ht (q_m8 a ha da hda) (q_m8 b hb db hdb) 28 0 0 0 N (by omega) (by omega)
    have hL' : m133_L126 N D (Int32.ofNat x) (Int32.ofNat t) v4 (Int32.ofNat (a + 8 * da)) (Int32.ofNat (b + 8 * db)) (Int32.ofNat w) (Int32.ofNat ((x + 1) % 4)) N (0 : Int32) (0 : Int32) (0 : Int32) = _ := hL
    rw [if_neg c1, if_neg c1, hL', Option.bind_some, Nat.zero_add, Nat.zero_add]
    by_cases c2 : v4 = 2
    · have hnf : q_S (fun j => if q_P D j = Int32.ofNat ((x + 1) % 4) ∧ (q_sh j (Int32.ofNat a) ∨ q_sh j (Int32.ofNat b)) then 1 else 0) 0 28 = q_nf D (Int32.ofNat t) (Int32.ofNat e) (Int32.ofNat ((x + 1) % 4)) := by
        rw [q_nf_def]
        exact q_S_congr 28 0 (fun j _ _ => by simp only [hsh j])
      rw [if_pos c2, if_pos c2, hnf]
    · rw [if_neg c2, if_neg c2, q57 hN, Option.bind_some]
      obtain ⟨g, hg⟩ : ∃ g : Nat → Int32, g = fun j => if j = t then Int32.ofNat 4 else q_P D j := ⟨_, rfl⟩
      have hg' : ∀ j, j < 28 → g j = if j = t then Int32.ofNat 4 else q_P D j := fun j _ => by rw [hg]
      have gw : ∀ j, j < 28 → ∃ w, w < 6 ∧ g j = Int32.ofNat w := fun j hj => by
        rw [hg' j hj]
        by_cases c : j = t
        · exact ⟨4, by omega, by rw [if_pos c]⟩
        · rw [if_neg c]; exact k_pw hK j hj
      have hs1 : q_S (fun j => if j = t then 0 else if m48 (q_P D j) = 0 then 0 else q_pip j) 0 28 = q_all (q_pips g) := by
        rw [← q_hsum gw]
        refine q_S_congr 28 0 (fun j _ hj => ?_)
        rw [hg' j (by omega)]
        by_cases c : j = t
        · rw [if_pos c, if_pos c, if_pos (show m48 (Int32.ofNat 4) = 0 by decide)]
        · rw [if_neg c, if_neg c]
      obtain ⟨hcn, hpn⟩ := q_out ht hx hP hg'
      have hle := q_all_le g
      have hfl := q_fi_le w hw
      have hcl := q_cnt_le (q_P D) (Int32.ofNat x)
      rw [hs1, (q_fi1 w hw).2]
      unfold q_gain
      by_cases c : q_cnt (q_P D) (Int32.ofNat x) = 1
      · have hcx := hcn x hx
        rw [if_pos rfl] at hcx
        have hp0 := q_pips_0 (f := g) (v := Int32.ofNat x) (by omega)
        have p0 := hpn 0 (by omega)
        have p1 := hpn 1 (by omega)
        have p2 := hpn 2 (by omega)
        have p3 := hpn 3 (by omega)
        have hsum : q_all (q_pips g) = q_all (q_pips (q_P D)) - q_pips (q_P D) (Int32.ofNat x) := by
          rw [q_all_eq, q_all_eq]
          obtain rfl | rfl | rfl | rfl : x = 0 ∨ x = 1 ∨ x = 2 ∨ x = 3 := by omega
          all_goals simp (decide := true) only [if_true, if_false] at p0 p1 p2 p3
          all_goals omega
        rw [if_pos (show Int32.ofNat (q_cnt (q_P D) (Int32.ofNat x)) = 1 by rw [c]; rfl), if_pos c, q_l5, q_div (by omega) (by omega), q_add, hsum]
      · rw [if_neg (show ¬ Int32.ofNat (q_cnt (q_P D) (Int32.ofNat x)) = 1 by rw [q_l1, q_eq (by omega) (by omega)]; exact c), if_neg c, Nat.add_zero]
        exact congrArg some (Int32.add_zero _)
end MQ
