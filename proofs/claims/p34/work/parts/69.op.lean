/-! likely: the call (what is asked of the floats is told as q_F1, and shown in the last parts) -/
section OP2
variable {D : am_D} {N n p : Nat} {T V : Nat → Nat}
def q_F1 : Prop := ∀ a b : Int32, ¬ b = 0 → FP.ddiv (FP.i2d a) (FP.i2d b) &&& 0x7fffffffffffffff ≤ 0x7ff0000000000000
noncomputable def q_lv (D : am_D) (x h t : Nat) : UInt64 := if q_dv D (-1) (-1) x = 0 then FP.dconst0 else FP.ddiv (FP.i2d (Int32.ofNat (q_hv D x h t))) (FP.i2d (Int32.ofNat (q_dv D (-1) (-1) x)))
theorem q_lv_cg {E : am_D} (h : E.1 107 = D.1 107) (x h' t : Nat) : q_lv E x h' t = q_lv D x h' t := by
  unfold q_lv
  rw [q_dv_cg h, q_hv_cg h]
/-- a call that answers a double, of the class and of the model -/
def q_GD (A : am_D → Option (Int32 × am_D)) (M : am_D → Option (UInt64 × am_D)) (D : am_D) : Prop := ∃ r D1 b D2, A D = some (r, D1) ∧ M D1 = some (b, D2) ∧ D2.1 106 0 = r ∧ (r = 0 → D2.2.2 125 0 = b) ∧ q_I D2
theorem q_K_m {E : am_D} (h : q_E D E) (hK : q_K D n p T V) : q_K E n p T V := q_E_K h hK
theorem q24k (hN : 2000 ≤ N) (hD : q_tb D) (hK : q_K D n p T V) {x : Nat} (hx : x < 4) : ∃ E, m24 N D (Int32.ofNat x) 1 = some (Sum.inl (Int32.ofNat (q_dv D (-1) (-1) x)), E) ∧ q_E D E := by
  have e40 : ∀ x, x < 4 → m40 (Int32.ofNat x) = 1 := by decide +kernel
  obtain ⟨E, a1, a2⟩ := q189 hN hK hx
  refine ⟨E, ?_, q_lk1_E a2⟩
  unfold m24
  rw [if_neg (by rw [e40 x hx]; decide), if_neg (show ¬ m43 1 = 0 by decide), a1, Option.bind_some, if_neg (show ¬ (1 : Int32) = 0 by decide), q196a hD hN hK hx a2, Option.bind_some, q_j32]
theorem q27 (hF : q_F1) (hN : 2000 ≤ N) (hD : q_tb D) (hK : q_K D n p T V) {x h t : Nat} (hx : x < 4) (hh : h < 4) (ht : t < 28) : ∃ E, m27 N D (Int32.ofNat x) (Int32.ofNat h) (Int32.ofNat t) = some (Sum.inl (q_lv D x h t), E) ∧ q_E D E := by
  have e40 : ∀ x, x < 4 → m40 (Int32.ofNat x) = 1 := by decide +kernel
  have e41 : ∀ x, x < 28 → m41 (Int32.ofNat x) = 1 := by decide +kernel
  have hle := q_dv_le hK hx (-1) (-1)
  obtain ⟨E, a1, a2⟩ := q24k hN hD hK hx
  have hDE : q_tb E := fun f hf t ht => by rw [a2.2.2]; exact hD f hf t ht
  obtain ⟨F, b1, b2⟩ := q25 hN hDE (q_E_K a2 hK) hx hh ht
  rw [q_hv_cg (a2.1 107 (by omega))] at b1
  by_cases c : q_dv D (-1) (-1) x = 0
  · refine ⟨E, ?_, a2⟩
    unfold m27 q_lv
    rw [if_neg (by rw [e40 x hx]; decide), if_neg (by rw [e40 h hh]; decide), if_neg (by rw [e41 t ht]; decide), a1, Option.bind_some]
    dsimp only [am_inl]
    rw [Option.bind_some, if_pos (show Int32.ofNat (q_dv D (-1) (-1) x) = 0 by rw [c]; rfl), if_pos c]
    rfl
  · have hb : ¬ Int32.ofNat (q_dv D (-1) (-1) x) = 0 := fun q => c (q_ofN (b := 0) (by omega) (by omega) q)
    refine ⟨F, ?_, a2.tr b2⟩
    unfold m27 q_lv
    rw [if_neg (by rw [e40 x hx]; decide), if_neg (by rw [e40 h hh]; decide), if_neg (by rw [e41 t ht]; decide), a1, Option.bind_some]
    dsimp only [am_inl]
    rw [Option.bind_some, if_neg hb, b1, Option.bind_some]
    dsimp only [am_inl]
    rw [Option.bind_some, if_pos (hF _ _ hb), if_neg c]
    rfl
theorem q128 (hF : q_F1) (hN : 2000 ≤ N) (hB : q_B D) (hK : q_K D n p T V) {x h t : Nat} (hx : x < 4) (hh : h < 4) (ht : t < 28) : ∃ E, m128 N D (Int32.ofNat x) (Int32.ofNat h) (Int32.ofNat t) = some (q_lv D x h t, E) ∧ q_X D E := by
  have hle := q_dv_le hK hx (-1) (-1)
  obtain ⟨E, a1, a2⟩ := q121' (r := -1) (h := -1) hN hB hK hx q_hr1
  have hE := q_X_E a2
  obtain ⟨F, b1, b2⟩ := q124 hN (q_E_B hE hB) (q_E_K hE hK) hx hh ht
  rw [q_hv_cg (hE.1 107 (by omega))] at b1
  by_cases c : q_dv D (-1) (-1) x = 0
  · refine ⟨E, ?_, a2⟩
    unfold m128 q_lv
    rw [a1, Option.bind_some]
    dsimp only
    rw [if_pos (show Int32.ofNat (q_dv D (-1) (-1) x) = 0 by rw [c]; rfl), if_pos c]
    rfl
  · have hb : ¬ Int32.ofNat (q_dv D (-1) (-1) x) = 0 := fun q => c (q_ofN (b := 0) (by omega) (by omega) q)
    refine ⟨F, ?_, q_X.tr a2 b2⟩
    unfold m128 q_lv
    rw [a1, Option.bind_some]
    dsimp only
    rw [if_neg hb, b1, Option.bind_some, if_pos (hF _ _ hb), if_neg c]
    rfl
theorem g_likely (hF : q_F1) (hN : 2000 ≤ N) (hI : q_I D) (v1 v2 v3 : Int32) : q_GD (fun D => m284 N D v1 v2 v3) (fun D => m129 N D v1 v2 v3) D := by
  obtain ⟨n, p, T, V, hK⟩ := q_I_K hI
  have hB := hI.1
  have hex : m284 N D v1 v2 v3 = some (1, D) → m129 N D v1 v2 v3 = some (FP.dconst0, am_uI D 106 0 1) → q_GD (fun D => m284 N D v1 v2 v3) (fun D => m129 N D v1 v2 v3) D := fun h1 h2 => ⟨1, D, _, _, h1, h2, q_uIs _ _ _ _, fun q => absurd q (by decide), q_E_I (q_E_uI (by omega)) hI⟩
  rcases q40 v1 with ⟨x, hx, rfl, e1, e2⟩ | ⟨e1, e2⟩
  · rcases q40 v2 with ⟨h, hh, rfl, e3, e4⟩ | ⟨e3, e4⟩
    · rcases q41 v3 with ⟨t, ht, rfl, e5, e6⟩ | ⟨e5, e6⟩
      · obtain ⟨E, b2, b1⟩ := q27 hF hN (q_I_tb hI) hK hx hh ht
        have hY : q_E D (am_uI (am_uK E 125 0 (q_lv D x h t)) 106 0 0) := b1.tr (q_E_uK.tr (q_E_uI (by omega)))
        obtain ⟨F, f1, f2⟩ := q128 hF hN (q_E_B hY hB) (q_E_K hY hK) hx hh ht
        rw [q_lv_cg (hY.1 107 (by omega))] at f1
        refine ⟨0, am_uK E 125 0 (q_lv D x h t), q_lv D x h t, F, ?_, ?_, ?_, fun _ => ?_, q_E_I (hY.tr (q_X_E f2)) hI⟩
        · show m284 N D _ _ _ = _
          unfold m284
          rw [b2]
          rfl
        · show m129 N _ _ _ _ = _
          unfold m129
          simp only [am_lt, e2, e4, e6, q_10, if_false, q47a]
          rw [f1]
          rfl
        · rw [f2.1 106 (by omega) (by omega)]
          exact q_uIs _ _ _ _
        · rw [f2.2]
          show (if 125 = 125 ∧ 0 = 0 then q_lv D x h t else E.2.2 125 0) = _
          rw [if_pos ⟨rfl, rfl⟩]
      · refine hex ?_ ?_
        · unfold m284 m27
          rw [if_neg (by rw [e1]; decide), if_neg (by rw [e3]; decide), if_pos e5]
          rfl
        · unfold m129
          simp only [am_lt, e2, e4, e6, q_10, if_false, if_true, q47b]
          rfl
    · refine hex ?_ ?_
      · unfold m284 m27
        rw [if_neg (by rw [e1]; decide), if_pos e3]
        rfl
      · unfold m129
        simp only [am_lt, e2, e4, q_10, if_false, if_true, q47b]
        rfl
  · refine hex ?_ ?_
    · unfold m284 m27
      rw [if_pos e1]
      rfl
    · unfold m129
      simp only [am_lt, e2, if_true, q47b]
      rfl
end OP2
