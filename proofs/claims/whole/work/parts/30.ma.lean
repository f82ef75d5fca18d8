/-! set, clock, tick, give -/
section MA
variable {D : am_D}
/-- a place of two rows is written -/
def q_up (c : Nat → Nat → Int32) (a b : Nat) (x : Int32) : Nat → Nat → Int32 := fun i j => if i = a ∧ j = b then x else c i j
theorem q_up_ne {c : Nat → Nat → Int32} {a b i j : Nat} {x : Int32} (h : i ≠ a ∨ j ≠ b) : q_up c a b x i j = c i j := if_neg (by omega)
theorem q_up_s {c : Nat → Nat → Int32} {a b : Nat} {x : Int32} : q_up c a b x a b = x := if_pos ⟨rfl, rfl⟩
theorem q_ud_ne {s : Nat → Int32} {a i : Nat} {x : Int32} (h : i ≠ a) : upd s a x i = s i := if_neg h
theorem q_ud_s {s : Nat → Int32} {a : Nat} {x : Int32} : upd s a x a = x := if_pos rfl
/-- setting -/
theorem c_set {c : Nat → Nat → Int32} {s : Nat → Int32} {n p : Nat} {T V : Nat → Nat} (h : q_C4 c s n p T V) {w : Nat} (h1 : 1 ≤ w) (h2 : w ≤ 60) : q_C4 (q_up c 0 10 (Int32.ofNat w)) (upd s 3 (Int32.ofNat w)) n p T V := by
  obtain ⟨⟨a1, a2, a3, a4, a5, a6, a7, a8⟩, b, d, ⟨⟨e1, e2, e3, e4, e5⟩, ⟨u, f1, f2, f3⟩, g1, g2, g3, g4, g5, g6, g7, g8, g9, g10, g11, g12, g13, g14⟩⟩ := h
  exact ⟨⟨a1, a2, a3, fun k hk => by
      have q := a4 k hk
      exact ⟨q.1, q.2.1, by rw [q_ud_ne (by omega)]; exact q.2.2.1, by rw [q_ud_ne (by omega)]; exact q.2.2.2.1, q.2.2.2.2.1, q.2.2.2.2.2.1, by rw [q_ud_ne (by omega)]; exact q.2.2.2.2.2.2.1, by rw [q_ud_ne (by omega)]; exact q.2.2.2.2.2.2.2⟩, a5, fun t ht => by rw [q_ud_ne (by omega)]; exact a6 t ht, a7, a8⟩,
    fun t ht => by rw [q_ud_ne (by omega)]; exact b t ht,
    fun x hx => by
      rw [q_ud_ne (by omega), q_ud_ne (by omega), q_ud_ne (by omega), q_cnt_congr (g := fun t => s (25 + t)) (fun t ht => q_ud_ne (by omega))]
      exact d x hx,
    ⟨⟨e1, e2, e3, e4, fun hp t ht => by rw [q_ud_ne (by omega)]; exact e5 hp t ht⟩, ⟨u, f1, f2, f3⟩, g1, g2, g3, g4, rfl, ⟨w, h1, h2, rfl⟩, g7, g8, g9, g10, g11, g12, g13, g14⟩⟩
end MA
