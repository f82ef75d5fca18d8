/-! floats: means -/
section UB
theorem f_m17 : ∀ (n : Nat) {N N' : Nat} {D D' : am_D} {v2 v3 : Int32} {x : UInt64} {e j : Int32} {r : UInt64 × Int32} (n' : Nat), n ≤ n' → m36_L17 N D v2 v3 n x e j = some r → m36_L17 N' D' v2 v3 n' x e j = some r
  | 0, _, _, _, _, _, _, _, _, _, _, _, _, h => by rw [m36_L17] at h; cases h
  | n + 1, N, N', D, D', v2, v3, x, e, j, r, n', hn, h => by
    obtain ⟨m, rfl⟩ : ∃ m, n' = m + 1 := ⟨n' - 1, by omega⟩
    rw [m36_L17] at h ⊢
    split at h
    · next c => rw [if_pos c]; exact h
    · next c =>
      rw [if_neg c]
      split at h
      · next c => rw [if_pos c]; exact h
      · next c =>
        rw [if_neg c]
        split at h
        · next c => rw [if_pos c]; exact f_m17 n m (by omega) h
        · cases h
theorem f_m53 : ∀ (n : Nat) {N N' : Nat} {D D' : am_D} {v2 v3 : Int32} {x : UInt64} {e j : Int32} {r : UInt64 × Int32} (n' : Nat), n ≤ n' → m36_L53 N D v2 v3 n x e j = some r → m36_L53 N' D' v2 v3 n' x e j = some r
  | 0, _, _, _, _, _, _, _, _, _, _, _, _, h => by rw [m36_L53] at h; cases h
  | n + 1, N, N', D, D', v2, v3, x, e, j, r, n', hn, h => by
    obtain ⟨m, rfl⟩ : ∃ m, n' = m + 1 := ⟨n' - 1, by omega⟩
    rw [m36_L53] at h ⊢
    split at h
    · next c => rw [if_pos c]; exact h
    · next c =>
      rw [if_neg c]
      split at h
      · next c => rw [if_pos c]; exact h
      · next c =>
        rw [if_neg c]
        split at h
        · next c => rw [if_pos c]; exact f_m53 n m (by omega) h
        · cases h
theorem f_m13 : ∀ (n : Nat) {N N' : Nat} {D D' : am_D} {x : UInt32} {e : Int32} {r : UInt32 × Int32} (n' : Nat), n ≤ n' → m148_L13 N D n x e = some r → m148_L13 N' D' n' x e = some r
  | 0, _, _, _, _, _, _, _, _, _, h => by rw [m148_L13] at h; cases h
  | n + 1, N, N', D, D', x, e, r, n', hn, h => by
    obtain ⟨m, rfl⟩ : ∃ m, n' = m + 1 := ⟨n' - 1, by omega⟩
    rw [m148_L13] at h ⊢
    split at h
    · next c => rw [if_pos c]; exact h
    · next c =>
      rw [if_neg c]
      split at h
      · next c => rw [if_pos c]; exact f_m13 n m (by omega) h
      · cases h
theorem f_m29 : ∀ (n : Nat) {N N' : Nat} {D D' : am_D} {x : UInt32} {e : Int32} {r : UInt32 × Int32} (n' : Nat), n ≤ n' → m148_L29 N D n x e = some r → m148_L29 N' D' n' x e = some r
  | 0, _, _, _, _, _, _, _, _, _, h => by rw [m148_L29] at h; cases h
  | n + 1, N, N', D, D', x, e, r, n', hn, h => by
    obtain ⟨m, rfl⟩ : ∃ m, n' = m + 1 := ⟨n' - 1, by omega⟩
    rw [m148_L29] at h ⊢
    split at h
    · next c => rw [if_pos c]; exact h
    · next c =>
      rw [if_neg c]
      split at h
      · next c => rw [if_pos c]; exact f_m29 n m (by omega) h
      · cases h
theorem f_36 {N n : Nat} {D D' : am_D} {x : UInt64} {v2 v3 : Int32} {r : Int64} (hn : n ≤ N) (h : m36 n D x v2 v3 = some r) : m36 N D' x v2 v3 = some r := by
  unfold m36 at h ⊢
  split at h
  · next c =>
    rw [if_pos c]
    obtain ⟨p, h1, h⟩ := Option.bind_eq_some_iff.mp h
    obtain ⟨q, h2, h⟩ := Option.bind_eq_some_iff.mp h
    rw [f_m17 n N hn h1, Option.bind_some, f_m53 n N hn h2, Option.bind_some]
    exact h
  · next c => rw [if_neg c]; exact h
theorem f_148 {N n : Nat} {D D' : am_D} {x : UInt32} {r : Int32} (hn : n ≤ N) (h : m148 n D x = some r) : m148 N D' x = some r := by
  unfold m148 at h ⊢
  split at h
  · next c => rw [if_pos c]; exact h
  · next c =>
    rw [if_neg c]
    obtain ⟨p, h1, h⟩ := Option.bind_eq_some_iff.mp h
    obtain ⟨q, h2, h⟩ := Option.bind_eq_some_iff.mp h
    rw [f_m13 n N hn h1, Option.bind_some, f_m29 n N hn h2, Option.bind_some]
    exact h
def f_D : am_D := (fun _ _ => 0, fun _ _ => 0, fun _ _ => 0)
def f_ck (a b : Nat) : Bool := decide (FP.f2d (q_mn a b) &&& 0x7fffffffffffffff ≤ 0x7ff0000000000000) && (match m148 12 f_D (q_mn a b) with
  | some x => decide (m36 12 f_D (FP.f2d (q_mn a b)) 23 127 = some x.toInt64)
  | none => false)
theorem f_ck0 : ∀ a, a < 20 → ∀ b, b < 29 → f_ck (0 + a) b = true := by decide +kernel
theorem f_ck1 : ∀ a, a < 20 → ∀ b, b < 29 → f_ck (20 + a) b = true := by decide +kernel
theorem f_ck2 : ∀ a, a < 20 → ∀ b, b < 29 → f_ck (40 + a) b = true := by decide +kernel
theorem f_ck3 : ∀ a, a < 20 → ∀ b, b < 29 → f_ck (60 + a) b = true := by decide +kernel
theorem f_ck4 : ∀ a, a < 20 → ∀ b, b < 29 → f_ck (80 + a) b = true := by decide +kernel
theorem f_ck5 : ∀ a, a < 20 → ∀ b, b < 29 → f_ck (100 + a) b = true := by decide +kernel
theorem f_ck6 : ∀ a, a < 20 → ∀ b, b < 29 → f_ck (120 + a) b = true := by decide +kernel
theorem f_ck7 : ∀ a, a < 20 → ∀ b, b < 29 → f_ck (140 + a) b = true := by decide +kernel
theorem f_ck8 : ∀ a, a < 9 → ∀ b, b < 29 → f_ck (160 + a) b = true := by decide +kernel
theorem f_cka {a : Nat} (ha : a < 169) {b : Nat} (hb : b < 29) : f_ck a b = true := by
  by_cases c0 : a < 20
  · have := f_ck0 (a - 0) (by omega) b hb
    rw [show 0 + (a - 0) = a by omega] at this
    exact this
  by_cases c1 : a < 40
  · have := f_ck1 (a - 20) (by omega) b hb
    rw [show 20 + (a - 20) = a by omega] at this
    exact this
  by_cases c2 : a < 60
  · have := f_ck2 (a - 40) (by omega) b hb
    rw [show 40 + (a - 40) = a by omega] at this
    exact this
  by_cases c3 : a < 80
  · have := f_ck3 (a - 60) (by omega) b hb
    rw [show 60 + (a - 60) = a by omega] at this
    exact this
  by_cases c4 : a < 100
  · have := f_ck4 (a - 80) (by omega) b hb
    rw [show 80 + (a - 80) = a by omega] at this
    exact this
  by_cases c5 : a < 120
  · have := f_ck5 (a - 100) (by omega) b hb
    rw [show 100 + (a - 100) = a by omega] at this
    exact this
  by_cases c6 : a < 140
  · have := f_ck6 (a - 120) (by omega) b hb
    rw [show 120 + (a - 120) = a by omega] at this
    exact this
  by_cases c7 : a < 160
  · have := f_ck7 (a - 140) (by omega) b hb
    rw [show 140 + (a - 140) = a by omega] at this
    exact this
  have := f_ck8 (a - 160) (by omega) b hb
  rw [show 160 + (a - 160) = a by omega] at this
  exact this
theorem f_F3 : q_F3 := fun N hN a ha b hb => by
  have h := f_cka ha hb
  unfold f_ck at h
  rw [Bool.and_eq_true] at h
  refine ⟨of_decide_eq_true h.1, ?_⟩
  have h2 := h.2
  cases e : m148 12 f_D (q_mn a b) with
  | none => rw [e] at h2; cases h2
  | some x =>
    rw [e] at h2
    have h3 := of_decide_eq_true h2
    exact ⟨x, fun D => f_36 (by omega) h3, fun D => f_148 (by omega) e⟩
end UB
