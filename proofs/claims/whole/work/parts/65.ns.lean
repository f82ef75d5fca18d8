/-! the model's readers look at the model's cells alone; the reading goes on over any cells of the class -/
section NS
variable {D M : am_D} {N : Nat}
theorem j91 : m91 (q_hy D M) = m91 M := rfl
theorem j92 (v : Int32) : m92 (q_hy D M) v = (m92 M v).map (fun r => (r.1, q_hy D r.2)) := by
  unfold m92
  refine h_bi j91 fun q1 => h_li rfl fun q3 => h_li rfl fun q7 => h_lt (h := fun r => q_hy D r) (h_uM (by omega)) fun D11 => h_if Iff.rfl rfl rfl
theorem j93 (v w : Int32) : m93 (q_hy D M) v w = (m93 M v w).map (fun r => (r.1, q_hy D r.2)) := by
  unfold m93
  refine h_bi j91 fun q1 => h_bi (by rw [j91]) fun q3 => h_li rfl fun q9 => h_lt (h := fun r => q_hy D r) (h_uM (by omega)) fun D13 => rfl
theorem j94 : m94 (q_hy D M) = (m94 M).map (fun r => (r.1, q_hy D r.2)) := by
  unfold m94
  refine h_bd (j93 _ _) fun q1 => h_bd (h := fun r : Int32 × am_D => (r.1, q_hy D r.2)) (h_if Iff.rfl rfl (h_bd (j93 _ _) fun q7 => rfl)) fun q3 => h_if Iff.rfl rfl rfl
theorem j95 : m95 (q_hy D M) = (m95 M).map (fun r => (r.1, q_hy D r.2)) := by
  unfold m95
  refine h_bd (j93 _ _) fun q1 => h_lt (h := fun r => q_hy D r) (h_uM (by omega)) fun D3 => h_bd (h := fun r : Int32 × am_D => (r.1, q_hy D r.2)) (h_if Iff.rfl rfl (h_bd (j93 _ _) fun q9 => rfl)) fun q5 => h_li rfl fun q11 => h_lt (h := fun r => q_hy D r) (h_uM (by omega)) fun D15 => h_if Iff.rfl rfl rfl
theorem j96 : m96 (q_hy D M) = (m96 M).map (fun r => (r.1, q_hy D r.2)) := by
  unfold m96
  refine h_bi j91 fun q1 => h_lt (h := fun r => q_hy D r) (h_uM (by omega)) fun D3 => h_bd (j92 _) fun q5 => h_if Iff.rfl ?_ rfl
  refine h_bd (j92 _) fun q8 => h_if Iff.rfl ?_ (h_bd j95 fun q49 => h_if Iff.rfl rfl rfl)
  refine h_bd (j92 _) fun q11 => h_if Iff.rfl ?_ (h_bi j91 fun q35 => h_li rfl fun q37 => h_lt (h := fun r => q_hy D r) (h_uM (by omega)) fun D41 => h_bd (j92 _) fun q43 => h_if Iff.rfl (h_bd (j92 _) fun q46 => h_if Iff.rfl rfl rfl) rfl)
  refine h_bd (j92 _) fun q14 => h_bd (h := fun r : Int32 × am_D => (r.1, q_hy D r.2)) (h_if Iff.rfl rfl (h_bd j94 fun q20 => rfl)) fun q16 => h_lt (h := fun r => q_hy D r) (h_uM (by omega)) fun D22 => h_bi j91 fun q24 => h_lt (h := fun r => q_hy D r) (h_uM (by omega)) fun D26 => h_if Iff.rfl rfl (h_bd (j92 _) fun q29 => h_if Iff.rfl (h_bd (j92 _) fun q32 => h_if Iff.rfl rfl rfl) rfl)
/-- over another state's cells of the class -/
theorem j_mv {α : Type} {F : am_D → Option (α × am_D)} (h : ∀ D M, F (q_hy D M) = (F M).map (fun r => (r.1, q_hy D r.2))) {D M : am_D} {x : α} {D' : am_D} (e : F (q_hy D M) = some (x, D')) : ∃ E, F M = some (x, E) ∧ D' = q_hy D E ∧ ∀ a, a ≤ 105 → E.1 a = M.1 a := by
  rw [h D M] at e
  cases hF : F M with
  | none => rw [hF] at e; cases e
  | some r =>
    rw [hF] at e
    obtain ⟨y, E⟩ := r
    have h1 := h M M
    rw [h_self, hF] at h1
    have h2 : E = q_hy M E := congrArg Prod.snd (Option.some.inj h1)
    have h3 : (y, q_hy D E) = (x, D') := Option.some.inj e
    cases h3
    refine ⟨E, rfl, rfl, fun a ha => ?_⟩
    rw [h2, q_hy_c ha]
theorem q_hy_T {l : Nat} {tx : Nat → Nat} (h1 : D.1 91 1 = Int32.ofNat l) (h2 : M.1 106 5 = Int32.ofNat l) (h60 : l ≤ 60) (h3 : ∀ k, k < l → D.1 92 k = Int32.ofNat (tx k) ∧ M.1 108 k = Int32.ofNat (tx k) ∧ 33 ≤ tx k ∧ tx k ≤ 126) : q_T (q_hy D M) l tx := by
  refine ⟨h60, ?_, ?_, fun k hk => ?_⟩
  · rw [q_hy_c (by omega)]; exact h1
  · rw [q_hy_m (by omega)]; exact h2
  · rw [q_hy_c (by omega), q_hy_m (by omega)]; exact h3 k hk
/-- a reading over the model's own state -/
theorem j_ps {D M E D' : am_D} {i : Nat} (h : q_ps (q_hy D M) D' i) (e : D' = q_hy D E) (hc : ∀ a, a ≤ 105 → E.1 a = M.1 a) : q_ps M E i := by
  subst e
  obtain ⟨h1, h2, h3, h4⟩ := h
  refine ⟨fun a ha => ?_, fun j a1 a2 a3 => ?_, ?_, h4⟩
  · by_cases c : a ≤ 105
    · exact hc a c
    · have := h1 a ha
      rw [q_hy_m (by omega), q_hy_m (by omega)] at this
      exact this
  · have := h2 j a1 a2 a3
    rw [q_hy_m (by omega), q_hy_m (by omega)] at this
    exact this
  · rw [q_hy_m (by omega)] at h3
    exact h3
theorem j_ps0 {D M : am_D} {i : Nat} (h : M.1 106 6 = Int32.ofNat i) : q_ps (q_hy D M) (q_hy D M) i := ⟨fun _ _ => rfl, fun _ _ _ _ => rfl, by rw [q_hy_m (by omega)]; exact h, rfl⟩
end NS
