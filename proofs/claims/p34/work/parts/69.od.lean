/-! deals: in how many ways tiles can go to three hands; tile by tile and by kinds -/
section OD
/-- t tiles of the list to three hands, so many to each -/
def q_W (p1 p2 p3 : Nat → Prop) [DecidablePred p1] [DecidablePred p2] [DecidablePred p3] : List Nat → Nat → Nat → Nat → Nat
  | [], a, b, c => if a = 0 ∧ b = 0 ∧ c = 0 then 1 else 0
  | t :: L, a, b, c => (if p1 t ∧ 0 < a then q_W p1 p2 p3 L (a - 1) b c else 0) + (if p2 t ∧ 0 < b then q_W p1 p2 p3 L a (b - 1) c else 0) + (if p3 t ∧ 0 < c then q_W p1 p2 p3 L a b (c - 1) else 0)
/-- one tile more of a kind -/
def q_St (k : Nat) (f : Nat → Nat → Nat) : Nat → Nat → Nat := fun a b => (if k % 2 = 1 ∧ 0 < a then f (a - 1) b else 0) + (if k / 2 % 2 = 1 ∧ 0 < b then f a (b - 1) else 0) + (if k / 4 % 2 = 1 then f a b else 0)
def q_dl : Nat → Nat → Nat := fun a b => if a = 0 ∧ b = 0 then 1 else 0
def q_V (κ : Nat → Nat) : List Nat → Nat → Nat → Nat
  | [] => q_dl
  | t :: L => q_St (κ t) (q_V κ L)
theorem q_V_0 (κ : Nat → Nat) : ∀ (L : List Nat) (a b : Nat), L.length < a + b → q_V κ L a b = 0
  | [], a, b, h => by
    show (if a = 0 ∧ b = 0 then 1 else 0) = 0
    rw [if_neg (by simp at h; omega)]
  | t :: L, a, b, h => by
    simp only [List.length_cons] at h
    show (if κ t % 2 = 1 ∧ 0 < a then q_V κ L (a - 1) b else 0) + (if κ t / 2 % 2 = 1 ∧ 0 < b then q_V κ L a (b - 1) else 0) + (if κ t / 4 % 2 = 1 then q_V κ L a b else 0) = 0
    rw [q_V_0 κ L a b (by omega)]
    by_cases h1 : 0 < a
    · rw [q_V_0 κ L (a - 1) b (by omega)]
      by_cases h2 : 0 < b
      · rw [q_V_0 κ L a (b - 1) (by omega)]; simp
      · simp [h2]
    · by_cases h2 : 0 < b
      · rw [q_V_0 κ L a (b - 1) (by omega)]; simp [h1]
      · simp [h1, h2]
/-- the third hand has what is left -/
theorem q_W_V {p1 p2 p3 : Nat → Prop} [DecidablePred p1] [DecidablePred p2] [DecidablePred p3] {κ : Nat → Nat} : ∀ (L : List Nat), (∀ t, t ∈ L → (p1 t ↔ κ t % 2 = 1) ∧ (p2 t ↔ κ t / 2 % 2 = 1) ∧ (p3 t ↔ κ t / 4 % 2 = 1)) → ∀ a b c, a + b + c = L.length → q_W p1 p2 p3 L a b c = q_V κ L a b
  | [], _, a, b, c, hs => by
    simp only [List.length_nil] at hs
    show (if a = 0 ∧ b = 0 ∧ c = 0 then 1 else 0) = (if a = 0 ∧ b = 0 then 1 else 0)
    rw [if_pos (by omega), if_pos (by omega)]
  | t :: L, h, a, b, c, hs => by
    simp only [List.length_cons] at hs
    have ih := q_W_V L (fun t ht => h t (List.mem_cons_of_mem _ ht))
    obtain ⟨h1, h2, h3⟩ := h t List.mem_cons_self
    show (if p1 t ∧ 0 < a then q_W p1 p2 p3 L (a - 1) b c else 0) + (if p2 t ∧ 0 < b then q_W p1 p2 p3 L a (b - 1) c else 0) + (if p3 t ∧ 0 < c then q_W p1 p2 p3 L a b (c - 1) else 0) = (if κ t % 2 = 1 ∧ 0 < a then q_V κ L (a - 1) b else 0) + (if κ t / 2 % 2 = 1 ∧ 0 < b then q_V κ L a (b - 1) else 0) + (if κ t / 4 % 2 = 1 then q_V κ L a b else 0)
    have e1 : (if p1 t ∧ 0 < a then q_W p1 p2 p3 L (a - 1) b c else 0) = (if κ t % 2 = 1 ∧ 0 < a then q_V κ L (a - 1) b else 0) := by
      by_cases c1 : p1 t ∧ 0 < a
      · rw [if_pos c1, if_pos ⟨h1.mp c1.1, c1.2⟩, ih (a - 1) b c (by omega)]
      · rw [if_neg c1, if_neg (fun q => c1 ⟨h1.mpr q.1, q.2⟩)]
    have e2 : (if p2 t ∧ 0 < b then q_W p1 p2 p3 L a (b - 1) c else 0) = (if κ t / 2 % 2 = 1 ∧ 0 < b then q_V κ L a (b - 1) else 0) := by
      by_cases c1 : p2 t ∧ 0 < b
      · rw [if_pos c1, if_pos ⟨h2.mp c1.1, c1.2⟩, ih a (b - 1) c (by omega)]
      · rw [if_neg c1, if_neg (fun q => c1 ⟨h2.mpr q.1, q.2⟩)]
    have e3 : (if p3 t ∧ 0 < c then q_W p1 p2 p3 L a b (c - 1) else 0) = (if κ t / 4 % 2 = 1 then q_V κ L a b else 0) := by
      by_cases c0 : 0 < c
      · by_cases c1 : p3 t
        · rw [if_pos ⟨c1, c0⟩, if_pos (h3.mp c1), ih a b (c - 1) (by omega)]
        · rw [if_neg (fun q => c1 q.1), if_neg (fun q => c1 (h3.mpr q))]
      · rw [if_neg (fun q => c0 q.2), q_V_0 κ L a b (by omega), ite_self]
    rw [e1, e2, e3]
/-- the hands in another order -/
theorem q_W_rot (p1 p2 p3 : Nat → Prop) [DecidablePred p1] [DecidablePred p2] [DecidablePred p3] : ∀ (L : List Nat) (a b c : Nat), q_W p1 p2 p3 L a b c = q_W p2 p3 p1 L b c a
  | [], a, b, c => by
    show (if a = 0 ∧ b = 0 ∧ c = 0 then 1 else 0) = (if b = 0 ∧ c = 0 ∧ a = 0 then 1 else 0)
    by_cases h : a = 0 ∧ b = 0 ∧ c = 0
    · rw [if_pos h, if_pos ⟨h.2.1, h.2.2, h.1⟩]
    · rw [if_neg h, if_neg (fun q => h ⟨q.2.2, q.1, q.2.1⟩)]
  | t :: L, a, b, c => by
    show (if p1 t ∧ 0 < a then q_W p1 p2 p3 L (a - 1) b c else 0) + (if p2 t ∧ 0 < b then q_W p1 p2 p3 L a (b - 1) c else 0) + (if p3 t ∧ 0 < c then q_W p1 p2 p3 L a b (c - 1) else 0) = (if p2 t ∧ 0 < b then q_W p2 p3 p1 L (b - 1) c a else 0) + (if p3 t ∧ 0 < c then q_W p2 p3 p1 L b (c - 1) a else 0) + (if p1 t ∧ 0 < a then q_W p2 p3 p1 L b c (a - 1) else 0)
    rw [q_W_rot p1 p2 p3 L (a - 1) b c, q_W_rot p1 p2 p3 L a (b - 1) c, q_W_rot p1 p2 p3 L a b (c - 1)]
    omega
/-! the order of the tiles is all the same -/
theorem q_St_c (j k : Nat) (f : Nat → Nat → Nat) : q_St j (q_St k f) = q_St k (q_St j f) := by
  funext a b
  unfold q_St
  by_cases j1 : j % 2 = 1 <;> by_cases j2 : j / 2 % 2 = 1 <;> by_cases j3 : j / 4 % 2 = 1 <;> by_cases k1 : k % 2 = 1 <;> by_cases k2 : k / 2 % 2 = 1 <;> by_cases k3 : k / 4 % 2 = 1 <;> by_cases a1 : 0 < a <;> by_cases b1 : 0 < b <;> simp only [j1, j2, j3, k1, k2, k3, a1, b1, true_and, and_true, false_and, and_false, if_true, if_false] <;> omega
def q_it (k : Nat) : Nat → (Nat → Nat → Nat) → (Nat → Nat → Nat)
  | 0, f => f
  | n + 1, f => q_St k (q_it k n f)
theorem q_it_c (j k : Nat) : ∀ (n : Nat) (f : Nat → Nat → Nat), q_St j (q_it k n f) = q_it k n (q_St j f)
  | 0, _ => rfl
  | n + 1, f => by
    show q_St j (q_St k (q_it k n f)) = q_St k (q_it k n (q_St j f))
    rw [q_St_c, q_it_c j k n f]
theorem q_it_s (k n : Nat) (f : Nat → Nat → Nat) : q_it k (n + 1) f = q_it k n (q_St k f) := q_it_c k k n f
/-- so many tiles of each kind -/
def q_R (z : Nat → Nat) : Nat → Nat → Nat := q_it 0 (z 0) (q_it 4 (z 4) (q_it 1 (z 1) (q_it 2 (z 2) (q_it 3 (z 3) (q_it 5 (z 5) (q_it 6 (z 6) (q_it 7 (z 7) q_dl)))))))
def q_ad (z : Nat → Nat) (k : Nat) : Nat → Nat := fun j => if j = k then z j + 1 else z j
theorem q_R_ad (z : Nat → Nat) {k : Nat} (hk : k < 8) : q_R (q_ad z k) = q_St k (q_R z) := by
  have e : ∀ j, j ≠ k → q_ad z k j = z j := fun j hj => if_neg hj
  have e' : q_ad z k k = z k + 1 := if_pos rfl
  unfold q_R
  have cs : k = 0 ∨ k = 1 ∨ k = 2 ∨ k = 3 ∨ k = 4 ∨ k = 5 ∨ k = 6 ∨ k = 7 := by omega
  rcases cs with rfl | rfl | rfl | rfl | rfl | rfl | rfl | rfl
  all_goals (
    simp (disch := decide) only [e, e', q_it_s, q_it_c])
end OD
