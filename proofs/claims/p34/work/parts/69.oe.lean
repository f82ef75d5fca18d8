/-! deals: counts of kinds; the sums -/
section OE
def q_kc (κ : Nat → Nat) : List Nat → Nat → Nat
  | [] => fun _ => 0
  | t :: L => q_ad (q_kc κ L) (κ t)
theorem q_V_R {κ : Nat → Nat} : ∀ (L : List Nat), (∀ t, t ∈ L → κ t < 8) → q_V κ L = q_R (q_kc κ L)
  | [], _ => rfl
  | t :: L, h => by
    show q_St (κ t) (q_V κ L) = q_R (q_ad (q_kc κ L) (κ t))
    rw [q_R_ad _ (h t List.mem_cons_self), q_V_R L (fun t ht => h t (List.mem_cons_of_mem _ ht))]
theorem q_ad_c (z : Nat → Nat) (j k : Nat) : q_ad (q_ad z j) k = q_ad (q_ad z k) j := by
  funext i
  show (if i = k then (if i = j then z i + 1 else z i) + 1 else (if i = j then z i + 1 else z i)) = (if i = j then (if i = k then z i + 1 else z i) + 1 else (if i = k then z i + 1 else z i))
  repeat' split
  all_goals omega
theorem q_V_cg {κ κ' : Nat → Nat} : ∀ (L : List Nat), (∀ t, t ∈ L → κ' t = κ t) → q_V κ' L = q_V κ L
  | [], _ => rfl
  | t :: L, h => by
    show q_St (κ' t) (q_V κ' L) = q_St (κ t) (q_V κ L)
    rw [h t List.mem_cons_self, q_V_cg L (fun t ht => h t (List.mem_cons_of_mem _ ht))]
/-- one tile comes to a certain hand -/
theorem q_V_rs {κ κ' : Nat → Nat} {t0 : Nat} (h : ∀ t, t ≠ t0 → κ' t = κ t) : ∀ (L : List Nat), (∀ t, t ∈ L → κ t < 8) → t0 ∈ L → L.Nodup → ∃ z, q_kc κ L = q_ad z (κ t0) ∧ q_V κ' L = q_St (κ' t0) (q_R z)
  | [], _, hm, _ => by cases hm
  | t :: L, hk, hm, hn => by
    obtain ⟨n1, n2⟩ := List.nodup_cons.mp hn
    have hk' : ∀ t, t ∈ L → κ t < 8 := fun t ht => hk t (List.mem_cons_of_mem _ ht)
    by_cases c : t = t0
    · subst c
      refine ⟨q_kc κ L, rfl, ?_⟩
      show q_St (κ' t) (q_V κ' L) = _
      rw [q_V_cg L (fun s hs => h s (fun q => n1 (q ▸ hs))), q_V_R L hk']
    · have hm' : t0 ∈ L := by
        rcases List.mem_cons.mp hm with q | q
        · exact absurd q.symm c
        · exact q
      obtain ⟨z, z1, z2⟩ := q_V_rs h L hk' hm' n2
      refine ⟨q_ad z (κ t), ?_, ?_⟩
      · show q_ad (q_kc κ L) (κ t) = _
        rw [z1, q_ad_c]
      · show q_St (κ' t) (q_V κ' L) = _
        rw [h t c, z2, q_St_c, q_R_ad _ (hk t List.mem_cons_self)]
/-! sums -/
theorem q_bin_0 (n : Nat) : q_bin n 0 = 1 := by cases n <;> rfl
theorem q_bin_gt : ∀ (n k : Nat), n < k → q_bin n k = 0
  | 0, 0, h => by omega
  | 0, k + 1, _ => rfl
  | n + 1, 0, h => by omega
  | n + 1, k + 1, h => by
    show q_bin n k + q_bin n (k + 1) = 0
    rw [q_bin_gt n k (by omega), q_bin_gt n (k + 1) (by omega)]
theorem q_S_last (f : Nat → Nat) (n i : Nat) : q_S f i (n + 1) = q_S f i n + f (i + n) := by
  rw [q_S_split f n 1 i]
  rfl
theorem q_S_sh (f : Nat → Nat) : ∀ (n i : Nat), q_S (fun t => f (t + 1)) i n = q_S f (i + 1) n
  | 0, _ => rfl
  | n + 1, i => by
    show f (i + 1) + q_S (fun t => f (t + 1)) (i + 1) n = f (i + 1) + q_S f (i + 1 + 1) n
    rw [q_S_sh f n (i + 1)]
theorem q_S_pas (n : Nat) (g : Nat → Nat) : q_S (fun t => q_bin (n + 1) t * g t) 0 (n + 2) = q_S (fun t => q_bin n t * (g t + g (t + 1))) 0 (n + 1) := by
  have e1 : q_S (fun t => q_bin n t * (g t + g (t + 1))) 0 (n + 1) = q_S (fun t => q_bin n t * g t) 0 (n + 1) + q_S (fun t => q_bin n t * g (t + 1)) 0 (n + 1) := by
    rw [← q_S_add]
    exact q_S_congr _ _ (fun t _ _ => Nat.mul_add _ _ _)
  have e2 : q_S (fun t => q_bin (n + 1) t * g t) 0 (n + 2) = q_bin (n + 1) 0 * g 0 + q_S (fun t => q_bin (n + 1) (t + 1) * g (t + 1)) 0 (n + 1) := by
    rw [q_S_sh (fun t => q_bin (n + 1) t * g t)]
    rfl
  have e3 : q_S (fun t => q_bin (n + 1) (t + 1) * g (t + 1)) 0 (n + 1) = q_S (fun t => q_bin n t * g (t + 1)) 0 (n + 1) + q_S (fun t => q_bin n (t + 1) * g (t + 1)) 0 (n + 1) := by
    rw [← q_S_add]
    refine q_S_congr _ _ (fun t _ _ => ?_)
    show (q_bin n t + q_bin n (t + 1)) * g (t + 1) = _
    exact Nat.add_mul _ _ _
  have e4 : q_S (fun t => q_bin n t * g t) 0 (n + 1) = q_bin n 0 * g 0 + q_S (fun t => q_bin n (t + 1) * g (t + 1)) 0 n := by
    rw [q_S_sh (fun t => q_bin n t * g t)]
    rfl
  have e5 : q_S (fun t => q_bin n (t + 1) * g (t + 1)) 0 (n + 1) = q_S (fun t => q_bin n (t + 1) * g (t + 1)) 0 n := by
    rw [q_S_last, Nat.zero_add, q_bin_gt n (n + 1) (by omega), Nat.zero_mul, Nat.add_zero]
  rw [e1, e2, e3, e4, e5, q_bin_0, q_bin_0]
  omega
theorem q_it0 : ∀ (n : Nat) (f : Nat → Nat → Nat) (a b : Nat), q_it 0 n f a b = if n = 0 then f a b else 0
  | 0, _, _, _ => rfl
  | n + 1, f, a, b => by
    show q_St 0 (q_it 0 n f) a b = _
    simp [q_St]
theorem q_it4 : ∀ (n : Nat) (f : Nat → Nat → Nat), q_it 4 n f = f
  | 0, _ => rfl
  | n + 1, f => by
    show q_St 4 (q_it 4 n f) = f
    rw [q_it4 n f]
    funext a b
    simp [q_St]
theorem q_it1 : ∀ (n : Nat) (f : Nat → Nat → Nat) (a b : Nat), q_it 1 n f a b = if n ≤ a then f (a - n) b else 0
  | 0, _, _, _ => rfl
  | n + 1, f, a, b => by
    have e : q_it 1 (n + 1) f a b = if 0 < a then q_it 1 n f (a - 1) b else 0 := by
      show q_St 1 (q_it 1 n f) a b = _
      simp [q_St]
    rw [e, q_it1 n f (a - 1) b]
    by_cases h : 0 < a
    · rw [if_pos h]
      by_cases h2 : n + 1 ≤ a
      · rw [if_pos (by omega), if_pos h2, show a - 1 - n = a - (n + 1) by omega]
      · rw [if_neg (by omega), if_neg h2]
    · rw [if_neg h, if_neg (by omega)]
theorem q_it2 : ∀ (n : Nat) (f : Nat → Nat → Nat) (a b : Nat), q_it 2 n f a b = if n ≤ b then f a (b - n) else 0
  | 0, _, _, _ => rfl
  | n + 1, f, a, b => by
    have e : q_it 2 (n + 1) f a b = if 0 < b then q_it 2 n f a (b - 1) else 0 := by
      show q_St 2 (q_it 2 n f) a b = _
      simp [q_St]
    rw [e, q_it2 n f a (b - 1)]
    by_cases h : 0 < b
    · rw [if_pos h]
      by_cases h2 : n + 1 ≤ b
      · rw [if_pos (by omega), if_pos h2, show b - 1 - n = b - (n + 1) by omega]
      · rw [if_neg (by omega), if_neg h2]
    · rw [if_neg h, if_neg (by omega)]
theorem q_it3 : ∀ (n : Nat) (f : Nat → Nat → Nat) (a b : Nat), q_it 3 n f a b = q_S (fun t => q_bin n t * (if t ≤ a ∧ n - t ≤ b then f (a - t) (b - (n - t)) else 0)) 0 (n + 1)
  | 0, f, a, b => by
    show f a b = q_bin 0 0 * (if 0 ≤ a ∧ 0 - 0 ≤ b then f (a - 0) (b - (0 - 0)) else 0) + 0
    rw [if_pos (by omega), q_bin_0]
    simp
  | n + 1, f, a, b => by
    have e : q_it 3 (n + 1) f a b = (if 0 < a then q_it 3 n f (a - 1) b else 0) + (if 0 < b then q_it 3 n f a (b - 1) else 0) := by
      show q_St 3 (q_it 3 n f) a b = _
      simp [q_St]
    rw [e, q_it3 n f (a - 1) b, q_it3 n f a (b - 1), q_S_pas n]
    have e1 : (if 0 < a then q_S (fun t => q_bin n t * (if t ≤ a - 1 ∧ n - t ≤ b then f (a - 1 - t) (b - (n - t)) else 0)) 0 (n + 1) else 0) = q_S (fun t => q_bin n t * (if t + 1 ≤ a ∧ n + 1 - (t + 1) ≤ b then f (a - (t + 1)) (b - (n + 1 - (t + 1))) else 0)) 0 (n + 1) := by
      by_cases h : 0 < a
      · rw [if_pos h]
        refine q_S_congr _ _ (fun t _ _ => ?_)
        rw [show n + 1 - (t + 1) = n - t by omega, show a - (t + 1) = a - 1 - t by omega]
        by_cases h2 : t ≤ a - 1 ∧ n - t ≤ b
        · rw [if_pos h2, if_pos (by omega)]
        · rw [if_neg h2, if_neg (by omega)]
      · rw [if_neg h]
        symm
        refine (q_S_zero _ _).mpr (fun t _ _ => ?_)
        rw [if_neg (by omega), Nat.mul_zero]
    have e2 : (if 0 < b then q_S (fun t => q_bin n t * (if t ≤ a ∧ n - t ≤ b - 1 then f (a - t) (b - 1 - (n - t)) else 0)) 0 (n + 1) else 0) = q_S (fun t => q_bin n t * (if t ≤ a ∧ n + 1 - t ≤ b then f (a - t) (b - (n + 1 - t)) else 0)) 0 (n + 1) := by
      by_cases h : 0 < b
      · rw [if_pos h]
        refine q_S_congr _ _ (fun t _ ht => ?_)
        rw [show b - (n + 1 - t) = b - 1 - (n - t) by omega]
        by_cases h2 : t ≤ a ∧ n - t ≤ b - 1
        · rw [if_pos h2, if_pos (by omega)]
        · rw [if_neg h2, if_neg (by omega)]
      · rw [if_neg h]
        symm
        refine (q_S_zero _ _).mpr (fun t _ ht => ?_)
        rw [if_neg (by omega), Nat.mul_zero]
    rw [e1, e2, ← q_S_add]
    refine q_S_congr _ _ (fun t _ _ => ?_)
    rw [Nat.mul_add, Nat.add_comm]
theorem q_it5 : ∀ (n : Nat) (f : Nat → Nat → Nat) (a b : Nat), q_it 5 n f a b = q_S (fun t => q_bin n t * (if t ≤ a then f (a - t) b else 0)) 0 (n + 1)
  | 0, f, a, b => by
    show f a b = q_bin 0 0 * (if 0 ≤ a then f (a - 0) b else 0) + 0
    rw [if_pos (by omega), q_bin_0]
    simp
  | n + 1, f, a, b => by
    have e : q_it 5 (n + 1) f a b = (if 0 < a then q_it 5 n f (a - 1) b else 0) + q_it 5 n f a b := by
      show q_St 5 (q_it 5 n f) a b = _
      simp [q_St]
    rw [e, q_it5 n f (a - 1) b, q_it5 n f a b, q_S_pas n]
    have e1 : (if 0 < a then q_S (fun t => q_bin n t * (if t ≤ a - 1 then f (a - 1 - t) b else 0)) 0 (n + 1) else 0) = q_S (fun t => q_bin n t * (if t + 1 ≤ a then f (a - (t + 1)) b else 0)) 0 (n + 1) := by
      by_cases h : 0 < a
      · rw [if_pos h]
        refine q_S_congr _ _ (fun t _ _ => ?_)
        rw [show a - (t + 1) = a - 1 - t by omega]
        by_cases h2 : t ≤ a - 1
        · rw [if_pos h2, if_pos (by omega)]
        · rw [if_neg h2, if_neg (by omega)]
      · rw [if_neg h]
        symm
        refine (q_S_zero _ _).mpr (fun t _ _ => ?_)
        rw [if_neg (by omega), Nat.mul_zero]
    rw [e1, ← q_S_add]
    refine q_S_congr _ _ (fun t _ _ => ?_)
    rw [Nat.mul_add, Nat.add_comm]
theorem q_it6 : ∀ (n : Nat) (f : Nat → Nat → Nat) (a b : Nat), q_it 6 n f a b = q_S (fun t => q_bin n t * (if t ≤ b then f a (b - t) else 0)) 0 (n + 1)
  | 0, f, a, b => by
    show f a b = q_bin 0 0 * (if 0 ≤ b then f a (b - 0) else 0) + 0
    rw [if_pos (by omega), q_bin_0]
    simp
  | n + 1, f, a, b => by
    have e : q_it 6 (n + 1) f a b = (if 0 < b then q_it 6 n f a (b - 1) else 0) + q_it 6 n f a b := by
      show q_St 6 (q_it 6 n f) a b = _
      simp [q_St]
    rw [e, q_it6 n f a (b - 1), q_it6 n f a b, q_S_pas n]
    have e1 : (if 0 < b then q_S (fun t => q_bin n t * (if t ≤ b - 1 then f a (b - 1 - t) else 0)) 0 (n + 1) else 0) = q_S (fun t => q_bin n t * (if t + 1 ≤ b then f a (b - (t + 1)) else 0)) 0 (n + 1) := by
      by_cases h : 0 < b
      · rw [if_pos h]
        refine q_S_congr _ _ (fun t _ _ => ?_)
        rw [show b - (t + 1) = b - 1 - t by omega]
        by_cases h2 : t ≤ b - 1
        · rw [if_pos h2, if_pos (by omega)]
        · rw [if_neg h2, if_neg (by omega)]
      · rw [if_neg h]
        symm
        refine (q_S_zero _ _).mpr (fun t _ _ => ?_)
        rw [if_neg (by omega), Nat.mul_zero]
    rw [e1, ← q_S_add]
    refine q_S_congr _ _ (fun t _ _ => ?_)
    rw [Nat.mul_add, Nat.add_comm]
theorem q_it7 : ∀ (n a b : Nat), q_it 7 n q_dl a b = q_bin n a * q_bin (n - a) b
  | 0, a, b => by
    show (if a = 0 ∧ b = 0 then 1 else 0) = _
    rw [Nat.zero_sub]
    cases a with
    | zero => cases b with
      | zero => rfl
      | succ b => rfl
    | succ a => rw [if_neg (by omega), q_bin_gt 0 (a + 1) (by omega), Nat.zero_mul]
  | n + 1, a, b => by
    have e : q_it 7 (n + 1) q_dl a b = (if 0 < a then q_it 7 n q_dl (a - 1) b else 0) + (if 0 < b then q_it 7 n q_dl a (b - 1) else 0) + q_it 7 n q_dl a b := by
      show q_St 7 (q_it 7 n q_dl) a b = _
      simp [q_St]
    rw [e, q_it7 n (a - 1) b, q_it7 n a (b - 1), q_it7 n a b]
    have e1 : (if 0 < b then q_bin n a * q_bin (n - a) (b - 1) else 0) + q_bin n a * q_bin (n - a) b = q_bin n a * q_bin (n - a + 1) b := by
      cases b with
      | zero => rw [if_neg (by omega), q_bin_0, q_bin_0, Nat.zero_add]
      | succ b =>
        rw [if_pos (by omega), ← Nat.mul_add]
        rfl
    rw [Nat.add_assoc, e1]
    cases a with
    | zero => rw [if_neg (by omega), Nat.zero_add, q_bin_0, q_bin_0]; rfl
    | succ a =>
      rw [if_pos (by omega), show n + 1 - (a + 1) = n - a by omega, show a + 1 - 1 = a by omega]
      show _ = (q_bin n a + q_bin n (a + 1)) * q_bin (n - a) b
      rw [Nat.add_mul]
      by_cases h : a + 1 ≤ n
      · rw [show n - (a + 1) + 1 = n - a by omega]
      · rw [q_bin_gt n (a + 1) (by omega), Nat.zero_mul, Nat.zero_mul]
/-- two kinds and the kind of all three -/
def q_bt2 (z5 z6 z7 o w : Nat) : Nat := q_S (fun m => q_bin z5 m * (if m ≤ o then q_S (fun y => q_bin z6 y * (if y ≤ w then q_bin z7 (o - m) * q_bin (z7 - (o - m)) (w - y) else 0)) 0 (z6 + 1) else 0)) 0 (z5 + 1)
theorem q_R_cl (z : Nat → Nat) (a b : Nat) : q_R z a b = if z 0 = 0 then (if z 1 ≤ a then (if z 2 ≤ b then q_S (fun t => q_bin (z 3) t * (if t ≤ a - z 1 ∧ z 3 - t ≤ b - z 2 then q_bt2 (z 5) (z 6) (z 7) (a - z 1 - t) (b - z 2 - (z 3 - t)) else 0)) 0 (z 3 + 1) else 0) else 0) else 0 := by
  unfold q_R
  rw [q_it0, q_it4, q_it1, q_it2, q_it3]
  have e : ∀ o w, q_it 5 (z 5) (q_it 6 (z 6) (q_it 7 (z 7) q_dl)) o w = q_bt2 (z 5) (z 6) (z 7) o w := fun o w => by
    rw [q_it5]
    unfold q_bt2
    refine q_S_congr _ _ (fun m _ _ => ?_)
    rw [q_it6]
    congr 2
    refine q_S_congr _ _ (fun y _ _ => ?_)
    rw [q_it7]
  simp only [e]
end OE
