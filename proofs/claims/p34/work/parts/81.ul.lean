/-! holds: the chain -/
section UL
variable {D E F M G : am_D} {N : Nat} {n p : Nat} {T V : Nat → Nat}
theorem u_S_full {f : Nat → Nat} : ∀ (k i : Nat), (∀ t, i ≤ t → t < i + k → f t ≤ 1) → q_S f i k = k → ∀ t, i ≤ t → t < i + k → f t = 1
  | 0, i, _, _, t, h1, h2 => by omega
  | k + 1, i, h, e, t, h1, h2 => by
    have e' : f i + q_S f (i + 1) k = k + 1 := e
    have hi := h i (Nat.le_refl _) (by omega)
    have hle := q_S_le (f := f) (g := fun _ => 1) k (i + 1) (fun t g1 g2 => h t (by omega) (by omega))
    rw [q_S_const] at hle
    by_cases c : t = i
    · rw [c]; omega
    · exact u_S_full k (i + 1) (fun t g1 g2 => h t (by omega) (by omega)) (by omega) t (by omega) (by omega)
theorem u_S_pow : ∀ n, q_S (fun t => 2 ^ (t + 1)) 0 n + 2 = 2 ^ (n + 1)
  | 0 => rfl
  | n + 1 => by
    have := u_S_pow n
    rw [q_S_last, Nat.zero_add, Nat.pow_succ 2 (n + 1)]
    omega
/-- numbers from 1 to n, each once: the sum of their powers -/
theorem u_perm {M : Nat → Nat} {n : Nat} (hn : n ≤ 28) (h1 : ∀ k, k < n → 1 ≤ M k ∧ M k ≤ n) (h2 : ∀ j k, j < n → k < n → M j = M k → j = k) : q_S (fun k => 2 ^ (M k)) 0 n + 2 = 2 ^ (n + 1) := by
  have hlt : ∀ i, i < n → M i - 1 < 28 := fun i hi => by have := h1 i hi; omega
  have hinj : ∀ i j, i < n → j < n → M i - 1 = M j - 1 → i = j := fun i j hi hj e => h2 i j hi hj (by have := h1 i hi; have := h1 j hj; omega)
  have e1 := q_im_S (ts := fun i => M i - 1) (fun _ => 1) n hlt hinj
  have e2 := q_im_S (ts := fun i => M i - 1) (fun t => 2 ^ (t + 1)) n hlt hinj
  rw [q_S_const, Nat.mul_one] at e1
  have sp : ∀ f : Nat → Nat, q_S f 0 28 = q_S f 0 n + q_S f n (28 - n) := fun f => by
    have := q_S_split f n (28 - n) 0
    rw [show n + (28 - n) = 28 by omega, Nat.zero_add] at this
    exact this
  have out : ∀ t, n ≤ t → ¬ q_im (fun i => M i - 1) n t = 1 := fun t ht q => by
    obtain ⟨i, hi, e⟩ := (q_im_iff n t).mp q
    have := h1 i hi
    omega
  have z : ∀ g : Nat → Nat, q_S (fun t => if q_im (fun i => M i - 1) n t = 1 then g t else 0) n (28 - n) = 0 := fun g => (q_S_zero _ _).mpr fun t h3 h4 => if_neg (out t h3)
  rw [sp, z, Nat.add_zero] at e1 e2
  have full := u_S_full n 0 (fun t _ _ => by split <;> omega) e1.symm
  have e3 : q_S (fun t => if q_im (fun i => M i - 1) n t = 1 then 2 ^ (t + 1) else 0) 0 n = q_S (fun t => 2 ^ (t + 1)) 0 n := q_S_congr n 0 fun t h3 h4 => by
    have := full t h3 h4
    by_cases c : q_im (fun i => M i - 1) n t = 1
    · rw [if_pos c]
    · rw [if_neg c] at this; omega
  have e4 : q_S (fun k => 2 ^ (M k)) 0 n = q_S (fun i => 2 ^ (M i - 1 + 1)) 0 n := q_S_congr n 0 fun t h3 h4 => by
    have := h1 t (by omega)
    rw [show M t - 1 + 1 = M t by omega]
  rw [e4, e2, e3]
  exact u_S_pow n
theorem u_shl : ∀ w, w < 30 → (1 : Int32) <<< (Int32.ofNat w &&& 31) = Int32.ofNat (2 ^ w) := by decide +kernel
theorem u293_368 (hN : 2000 ≤ N) (hK : q_K D n p T V) (hX : u_X (q_c D 1) n p T V) {v3 v4 : Int32} {M : Nat → Nat} (hM : ∀ k, k < n → q_c D 1 5 k = Int32.ofNat (M k) ∧ 1 ≤ M k ∧ M k ≤ n) : ∀ (k i m : Nat), i + k = n → k < m → m293_L368 N D v3 v4 m (Int32.ofNat (q_S (fun j => 2 ^ (M j)) 0 i)) 1 (Int32.ofNat i) = some (Int32.ofNat (q_S (fun j => 2 ^ (M j)) 0 n), 1)
  | 0, i, m + 1, hi, hm => by
    obtain rfl : i = n := by omega
    have h28 := k_n28 hK
    rw [m293_L368, w22_3, Option.bind_some, w_inl, Option.bind_some, k_n' hK, if_pos (show Int32.ofNat i ≤ Int32.ofNat i from Int32.le_refl _)]
  | k + 1, i, m + 1, hi, hm => by
    have h28 := k_n28 hK
    have hin : i < n := by omega
    obtain ⟨f1, f2, f3, f4, f5, f6, f7, f8⟩ := k_k hK i hin
    obtain ⟨g1, g2, g3⟩ := hM i hin
    have l7 := q_lo7 _ f1
    have u7 := q_hi7 _ f1
    have vle := q_vle f2
    have b0 : m20 D (Int32.ofNat i) 0 = Sum.inl (Int32.ofNat (T i)) := q20 hK hin (w := 0) (by omega)
    have b1 : m20 D (Int32.ofNat i) 1 = Sum.inl (Int32.ofNat (V i)) := q20 hK hin (w := 1) (by omega)
    have b2 : m20 D (Int32.ofNat i) 2 = Sum.inl (Int32.ofNat (q_pip (T i) - V i)) := q20 hK hin (w := 2) (by omega)
    have b3 : m20 D (Int32.ofNat i) 3 = Sum.inl (Int32.ofNat (M i)) := by
      have : m20 D (Int32.ofNat i) 3 = Sum.inl (q_pc D T V i 3) := q20 hK hin (w := 3) (by omega)
      rw [this]
      show Sum.inl (D.1 107 (81 + T i)) = _
      rw [← f8]
      exact congrArg Sum.inl g1
    have t0 : m18 N D (Int32.ofNat (T i)) 0 = some (Sum.inl (Int32.ofNat (q_lo (T i)))) := q18 hN hK f1 (w := 0) (by omega)
    have t1 : m18 N D (Int32.ofNat (T i)) 1 = some (Sum.inl (Int32.ofNat (q_hi (T i)))) := q18 hN hK f1 (w := 1) (by omega)
    have t2 : m18 N D (Int32.ofNat (T i)) 2 = some (Sum.inl (Int32.ofNat (q_pip (T i)))) := q18 hN hK f1 (w := 2) (by omega)
    have n3 : m22 N D 3 = some (Sum.inl (Int32.ofNat n)) := by rw [w22_3, k_n' hK]
    have e30 : Int32.ofNat (M i) - Int32.ofNat (M i) / (30 : Int32) * (30 : Int32) = Int32.ofNat (M i) := by
      have := q_mod (a := M i) (b := 30) (by omega) (by omega)
      rw [show M i % 30 = M i by omega] at this
      exact this
    -- each lay has its number
    have num : (am_lt (m20 D (Int32.ofNat i) (3 : Int32)) fun q205 => ((am_inl q205).bind fun x207 => (if x207 < (1 : Int32) then (some (0 : Int32)) else (am_lt (m20 D (Int32.ofNat i) (3 : Int32)) fun q210 => ((am_inl q210).bind fun x212 => ((m22 N D (3 : Int32)).bind fun q214 => ((am_inl q214).bind fun x216 => (if x216 < x212 then (some (0 : Int32)) else (some (1 : Int32)))))))))) = some (1 : Int32) := by
      rw [w_lt, b3, w_inl, Option.bind_some, if_neg (show ¬ Int32.ofNat (M i) < 1 from q_nlt (a := 1) (by omega) g2), w_lt, w_inl, Option.bind_some, n3, Option.bind_some, w_inl, Option.bind_some, if_neg (q_nlt (by omega) g3)]
    -- it fits the one before
    have fit : (if Int32.ofNat i = 0 then (am_lt (m20 D (Int32.ofNat i) (3 : Int32)) fun q205 => ((am_inl q205).bind fun x207 => (if x207 < (1 : Int32) then (some (0 : Int32)) else (am_lt (m20 D (Int32.ofNat i) (3 : Int32)) fun q210 => ((am_inl q210).bind fun x212 => ((m22 N D (3 : Int32)).bind fun q214 => ((am_inl q214).bind fun x216 => (if x216 < x212 then (some (0 : Int32)) else (some (1 : Int32)))))))))) else (am_lt (m20 D (Int32.ofNat i) (1 : Int32)) fun q219 => ((am_inl q219).bind fun x221 => (am_lt (m20 D (Int32.ofNat i - (1 : Int32)) (2 : Int32)) fun q223 => ((am_inl q223).bind fun x225 => (if x221 = x225 then (am_lt (m20 D (Int32.ofNat i) (3 : Int32)) fun q228 => ((am_inl q228).bind fun x230 => (if x230 < (1 : Int32) then (some (0 : Int32)) else (am_lt (m20 D (Int32.ofNat i) (3 : Int32)) fun q233 => ((am_inl q233).bind fun x235 => ((m22 N D (3 : Int32)).bind fun q237 => ((am_inl q237).bind fun x239 => (if x239 < x235 then (some (0 : Int32)) else (some (1 : Int32)))))))))) else (some (0 : Int32)))))))) = some (1 : Int32) := by
      by_cases c : i = 0
      · rw [if_pos (show Int32.ofNat i = 0 by rw [c]; rfl)]; exact num
      · have hx := hX.1 (i - 1) (by omega)
        rw [show i - 1 + 1 = i by omega] at hx
        have b2' : m20 D (Int32.ofNat (i - 1)) 2 = Sum.inl (Int32.ofNat (q_pip (T (i - 1)) - V (i - 1))) := q20 hK (k := i - 1) (w := 2) (by omega) (by omega)
        rw [if_neg (show ¬ Int32.ofNat i = 0 from fun q => c (q_ofN (a := i) (b := 0) (by omega) (by omega) q)), w_lt, b1, w_inl, Option.bind_some, w_lt, show Int32.ofNat i - 1 = Int32.ofNat (i - 1) from q_sub (b := 1) (by omega), b2', w_inl, Option.bind_some, hx, if_pos rfl]
        exact num
    rw [m293_L368, n3, Option.bind_some, w_inl, Option.bind_some, if_neg (q_nle (by omega) hin), if_neg (show ¬ (1 : Int32) = 0 by decide), w_lt, b0, w_inl, Option.bind_some, w_lt, b3, w_inl, Option.bind_some, w_lt, e30, u_shl _ (by omega), q_add, w_lt, b1, w_inl, Option.bind_some, w_lt, b2, w_inl, Option.bind_some, t2, Option.bind_some, w_inl, Option.bind_some, q_add, show V i + (q_pip (T i) - V i) = q_pip (T i) by omega, if_pos rfl, w_lt, w_inl, Option.bind_some, t0, Option.bind_some, w_inl, Option.bind_some]
    have fin : (if Int32.ofNat (V i) = Int32.ofNat (q_lo (T i)) then (some (1 : Int32)) else (some (1 : Int32))) = some (1 : Int32) := by split <;> rfl
    have q1 : q_S (fun j => 2 ^ (M j)) 0 i + 2 ^ (M i) = q_S (fun j => 2 ^ (M j)) 0 (i + 1) := by rw [q_S_last, Nat.zero_add]
    by_cases c : V i = q_lo (T i)
    · rw [if_pos (show Int32.ofNat (V i) = Int32.ofNat (q_lo (T i)) by rw [c])]
      rw [b1, b3, n3] at fit
      rw [fit, Option.bind_some, w_lt, show Int32.ofNat i + 1 = Int32.ofNat (i + 1) from q_add i 1, q1]
      exact u293_368 hN hK hX hM k (i + 1) m (by omega) (by omega)
    · have c2 : V i = q_hi (T i) := f2.resolve_left c
      rw [if_neg (show ¬ Int32.ofNat (V i) = Int32.ofNat (q_lo (T i)) from fun q => c (q_ofN (by omega) (by omega) q)), w_lt, w_inl, Option.bind_some, t1, Option.bind_some, w_inl, Option.bind_some, if_pos (show Int32.ofNat (V i) = Int32.ofNat (q_hi (T i)) by rw [c2])]
      rw [b1, b3, n3] at fit
      rw [fit, Option.bind_some, w_lt, show Int32.ofNat i + 1 = Int32.ofNat (i + 1) from q_add i 1, q1]
      exact u293_368 hN hK hX hM k (i + 1) m (by omega) (by omega)
  | _, _, 0, _, hm => by omega
end UL
