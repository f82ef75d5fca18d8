/-! if laid: what the model reckons -/
section MP
variable {D : am_D} {n p : Nat} {T V : Nat → Nat}
def q_dd (t : Nat) : Nat := if q_lo t = q_hi t then 1 else 0
theorem q_dd2 (t : Nat) : q_dd t < 2 := by unfold q_dd; split <;> omega
theorem q130 : ∀ a, a < 7 → ∀ b, b < 7 → ∀ d, d < 2 → ∀ d', d' < 2 → m130 (Int32.ofNat (a + 8 * d)) (Int32.ofNat (b + 8 * d')) = Int32.ofNat (a * (d + 1) + b * (d' + 1)) := by decide +kernel
theorem q_m8 : ∀ a, a < 7 → ∀ d, d < 2 → Int32.ofNat (a + 8 * d) - Int32.ofNat (a + 8 * d) / 8 * 8 = Int32.ofNat a := by decide +kernel
theorem q255d {t v : Nat} (ht : t < 28) : m255 (Int32.ofNat t) (Int32.ofNat v) = Int32.ofNat (v * (q_dd t + 1)) := by
  have h1 := q_lo7 t ht
  have h2 := q_hi7 t ht
  unfold m255 q_dd
  rw [q249 ht, q250 ht]
  by_cases c : q_lo t = q_hi t
  · rw [if_pos (by rw [c]), if_pos c, q_l2, q_mul]
    congr 1; omega
  · rw [if_neg (by rw [q_eq (by omega) (by omega)]; exact c), if_neg c]
    congr 1; omega
theorem q131 (hB : q_B D) {t v : Nat} (ht : t < 28) (hv : v = q_lo t ∨ v = q_hi t) : m131 D (Int32.ofNat t) (Int32.ofNat v) = some (Int32.ofNat ((q_pip t - v) + 8 * q_dd t)) := by
  have h7 := q_v7 ht hv
  have h8 := q_m8 v h7.1 0 (by omega)
  rw [Nat.mul_zero, Nat.add_zero] at h8
  unfold m131 q_dd
  rw [q52 hB ht, h8, q54 hB ht, q_vfr hv]
  by_cases c : q_lo t = q_hi t
  · rw [if_pos c, Option.bind_some, if_neg (show ¬ Int32.ofNat 1 = 0 by decide)]
    have e : D.1 109 (Int32.ofNat t).toNatClampNeg = Int32.ofNat (q_lo t) := by
      rw [q_tn (by omega)]; exact (hB t ht).1
    have i28 : 0 ≤ Int32.ofNat t ∧ Int32.ofNat t < 28 := q_in (n := 28) (by omega) ht
    rw [if_pos i28, e, q_l8, q_add]
    congr 2
    unfold q_pip; omega
  · rw [if_neg c, Option.bind_some, if_pos (show Int32.ofNat 0 = 0 from rfl)]
    rfl
theorem q132 (hB : q_B D) (hK : q_K D n p T V) (hn : 0 < n) : m132 D 0 = some (Int32.ofNat (V 0 + 8 * q_dd (T 0))) ∧ m132 D 1 = some (Int32.ofNat ((q_pip (T (n - 1)) - V (n - 1)) + 8 * q_dd (T (n - 1)))) := by
  have h28 := k_n28 hK
  have i1 : ∀ a, a < 1320 → 0 ≤ Int32.ofNat a ∧ Int32.ofNat a < 1320 := fun a ha => q_in (n := 1320) (by omega) ha
  obtain ⟨a1, a2, a3, a4, -⟩ := k_k hK 0 hn
  obtain ⟨b1, b2, b3, b4, -⟩ := k_k hK (n - 1) (by omega)
  have z0 : m59 D = Int32.ofNat (V 0) := by rw [q59 hK, k_e0 hK, if_neg (by omega)]
  have z1 : m61 D = some (Int32.ofNat (q_pip (T (n - 1)) - V (n - 1))) := by rw [q61 hB hK, k_e1 hK, if_neg (by omega)]
  have fin : ∀ u t, t < 28 → ((m52 D (Int32.ofNat t)).bind fun q14 => (if q14 = 0 then (some (Int32.ofNat u + (0 : Int32))) else (some (Int32.ofNat u + (8 : Int32))))) = some (Int32.ofNat (u + 8 * q_dd t)) := fun u t ht => by
    rw [q52 hB ht, Option.bind_some]
    unfold q_dd
    by_cases c : q_lo t = q_hi t
    · rw [if_pos c, if_neg (show ¬ Int32.ofNat 1 = 0 by decide), q_l8, q_add]
    · rw [if_neg c, if_pos (show Int32.ofNat 0 = 0 from rfl), q_l0, q_add]
  constructor
  · unfold m132
    simp only [am_lt, if_true]
    rw [show (109 : Int32) + 0 = Int32.ofNat (109 + 0) from rfl, if_pos (i1 (109 + 0) (by omega)), q_tn (by omega), a3, z0]
    exact fin _ _ a1
  · unfold m132
    have e1 : (109 : Int32) + (D.1 107 12 - 1) = Int32.ofNat (109 + (n - 1)) := by rw [k_n hK, q_l1, q_sub (by omega), q_l109, q_add]
    simp only [am_lt]
    rw [if_neg (show ¬ (1 : Int32) = 0 by decide), e1, if_pos (i1 (109 + (n - 1)) (by omega)), q_tn (by omega), b3, if_neg (show ¬ (1 : Int32) = 0 by decide), z1, Option.bind_some, Option.bind_some]
    exact fin _ _ b1
/-- all pips in hands -/
theorem q_hsum {f : Nat → Int32} (h : ∀ t, t < 28 → ∃ w, w < 6 ∧ f t = Int32.ofNat w) : q_S (fun t => if m48 (f t) = 0 then 0 else q_pip t) 0 28 = q_all (q_pips f) := by
  rw [q_all_eq]
  simp only [q_pips_def]
  have g : q_S (fun t => if m48 (f t) = 0 then 0 else q_pip t) 0 28 = q_S (fun t => (((if f t = Int32.ofNat 0 then q_pip t else 0) + (if f t = Int32.ofNat 1 then q_pip t else 0)) + (if f t = Int32.ofNat 2 then q_pip t else 0)) + (if f t = Int32.ofNat 3 then q_pip t else 0)) 0 28 := q_S_congr 28 0 (fun t _ ht => by
    obtain ⟨w, hw, e⟩ := h t (by omega)
    rw [e]
    obtain rfl | rfl | rfl | rfl | rfl | rfl : w = 0 ∨ w = 1 ∨ w = 2 ∨ w = 3 ∨ w = 4 ∨ w = 5 := by omega
    all_goals simp (decide := true) only [if_true, if_false, Nat.add_zero, Nat.zero_add])
  rw [q_S_add, q_S_add, q_S_add] at g
  omega
theorem q133_L {N : Nat} (hB : q_B D) {v1 v4 v6 v7 v8 v9 A B : Int32} {t : Nat} (ht : t < 28) (hA : v6 - v6 / 8 * 8 = A) (hB' : v7 - v7 / 8 * 8 = B) : ∀ (k i a b m : Nat), i + k = 28 → k < m → m133_L126 N D v1 (Int32.ofNat t) v4 v6 v7 v8 v9 m (Int32.ofNat a) (Int32.ofNat b) (Int32.ofNat i) = some (Int32.ofNat (a + q_S (fun j => if q_P D j = v9 ∧ (q_sh j A ∨ q_sh j B) then 1 else 0) i k), Int32.ofNat (b + q_S (fun j => if j = t then 0 else if m48 (q_P D j) = 0 then 0 else q_pip j) i k))
  | 0, i, a, b, m + 1, hi, hn => by
    obtain rfl : i = 28 := by omega
    rw [m133_L126]
    simp (disch := omega) only [q_l0, q_l1, q_l2, q_l3, q_l4, q_l5, q_l6, q_l7, q_l8, q_l9, q_l10, q_l13, q_l15, q_l17, q_l18, q_l19, q_l21, q_l22, q_l23, q_l25, q_l27, q_l28, q_l31, q_l33, q_l41, q_l43, q_l44, q_l45, q_l48, q_l49, q_l51, q_l52, q_l53, q_l54, q_l56, q_l57, q_l58, q_l59, q_l60, q_l62, q_l63, q_l64, q_l73, q_l81, q_l99, q_l108, q_l109, q_l112, q_l116, q_l126, q_l127, q_l128, q_l137, q_l165, q_l484, q_l1023, q_l1320, q_l4095, q_l4096, q_lm, am_lt, q_le, q_lt, q_tn, q_add, q_ite, Nat.zero_le, and_self, true_and, and_true, if_true, if_false, ite_self, Nat.le_refl]
    rfl
  | k + 1, i, a, b, m + 1, hi, hn => by
    have h2 : i < 28 := by omega
    have i1 : 0 ≤ Int32.ofNat (25 + i) ∧ Int32.ofNat (25 + i) < 1320 := q_in (n := 1320) (by omega) (by omega)
    have g1 : ((((if (if q_P D i = v9 then (1 : Int32) else 0) = 0 then (some (0 : Int32)) else ((m53 D (Int32.ofNat i) A).bind fun q39 => (if q39 = 0 then ((m53 D (Int32.ofNat i) B).bind fun q42 => (if q42 = 0 then (some (0 : Int32)) else (some (1 : Int32)))) else (some (1 : Int32)))))))) = some (Int32.ofNat (if q_P D i = v9 ∧ (q_sh i A ∨ q_sh i B) then 1 else 0)) := by
      rw [q53 hB h2, q53 hB h2]
      by_cases c0 : q_P D i = v9 <;> by_cases c1 : q_sh i A <;> by_cases c2 : q_sh i B <;> simp [c0, c1, c2] <;> rfl
    have g2 : (((if (m48 (q_P D i)) = 0 then (some (0 : Int32)) else (if Int32.ofNat i = Int32.ofNat t then (some (0 : Int32)) else ((m51 D (Int32.ofNat i)).bind fun q53 => (some q53)))))) = some (Int32.ofNat (if i = t then 0 else if m48 (q_P D i) = 0 then 0 else q_pip i)) := by
      rw [q51 hB h2]
      by_cases c0 : m48 (q_P D i) = 0
      · rw [if_pos c0, if_pos c0]
        split <;> rfl
      · rw [if_neg c0, if_neg c0]
        by_cases c1 : i = t
        · rw [if_pos (by rw [c1]), if_pos c1]; rfl
        · rw [if_neg (show ¬ Int32.ofNat i = Int32.ofNat t by rw [q_eq (by omega) (by omega)]; exact c1), if_neg c1]; rfl
    rw [m133_L126, if_neg (show ¬ (28 : Int32) ≤ Int32.ofNat i from q_nle (b := 28) (by omega) h2), q56 D h2, Option.bind_some, hA, hB', g1, Option.bind_some]
    simp only [am_lt]
    rw [q_l25, q_add, q_add, if_pos i1, q_tn (by omega)]
    have g3 : D.1 107 (25 + i) = q_P D i := rfl
    rw [g3, g2, Option.bind_some, q_add, show Int32.ofNat i + 1 = Int32.ofNat (i + 1) from q_add i 1, q133_L hB ht hA hB' k (i + 1) _ _ m (by omega) (by omega)]
    show some (Int32.ofNat _, Int32.ofNat _) = some (Int32.ofNat (_ + (_ + _)), Int32.ofNat (_ + (_ + _)))
    rw [Nat.add_assoc, Nat.add_assoc]
  | _, _, _, _, 0, _, hn => by omega
end MP
