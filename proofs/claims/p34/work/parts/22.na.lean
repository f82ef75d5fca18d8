/-! deeds, with the shadow row made anew -/
section XE
variable {xs : Nat → Int32} {L : Nat}
theorem u_gh_c {D : am_D} {a : Nat} (h : a < 106) : (u_gh D).1 a = D.1 a := by
  show (if a = 107 then _ else if a = 106 then _ else if a = 109 then _ else if a = 110 then _ else D.1 a) = D.1 a
  rw [if_neg (by omega), if_neg (by omega), if_neg (by omega), if_neg (by omega)]
theorem u_gh_mk (D : am_D) : am_mk (u_gh D) = am_mk D := am_mk_cg fun a ha => ⟨u_gh_c ha, rfl, rfl⟩
theorem u_ghY {k d mc ms : Nat} {as : List Value} {D D' : am_D} {o : am_O} (h : am_Y xs L k d mc ms as D o D') : am_Y xs L k d mc ms as D o (u_gh D') := by
  unfold am_Y at h ⊢
  rw [u_gh_mk]
  exact h
theorem n1_okv {N : Nat} {D : am_D} {v1 : Int32} {v2 : Int32} {r : (Int32 ⊕ Nat) × am_D} {v : Int32} (h : n1 N D v1 v2 = some r) (hv : am_inl r.1 = some v) : am_Y xs L 1 5 0 0 [.ref 0, .int v1, .int v2] D (.inl (some (.int v))) r.2 := by
  obtain ⟨r0, h0, rfl⟩ := Option.map_eq_some_iff.mp h
  exact u_ghY (m1_okv h0 hv)
theorem n2_okv {N : Nat} {D : am_D} {v1 : Int32} {r : (Int32 ⊕ Nat) × am_D} {v : Int32} (h : n2 N D v1 = some r) (hv : am_inl r.1 = some v) : am_Y xs L 2 5 0 0 [.ref 0, .int v1] D (.inl (some (.int v))) r.2 := by
  obtain ⟨r0, h0, rfl⟩ := Option.map_eq_some_iff.mp h
  exact u_ghY (m2_okv h0 hv)
theorem n3_okv {N : Nat} {D : am_D} {v1 : Int32} {r : (Int32 ⊕ Nat) × am_D} {v : Int32} (h : n3 N D v1 = some r) (hv : am_inl r.1 = some v) : am_Y xs L 3 5 0 0 [.ref 0, .int v1] D (.inl (some (.int v))) r.2 := by
  obtain ⟨r0, h0, rfl⟩ := Option.map_eq_some_iff.mp h
  exact u_ghY (m3_okv h0 hv)
theorem n4_okv {N : Nat} {D : am_D} {r : (Int32 ⊕ Nat) × am_D} {v : Int32} (h : n4 N D = some r) (hv : am_inl r.1 = some v) : am_Y xs L 4 5 0 0 [.ref 0] D (.inl (some (.int v))) r.2 := by
  obtain ⟨r0, h0, rfl⟩ := Option.map_eq_some_iff.mp h
  exact u_ghY (m4_okv h0 hv)
theorem n5_okv {N : Nat} {D : am_D} {v1 : Int32} {v2 : Int32} {v3 : Int32} {r : (Int32 ⊕ Nat) × am_D} {v : Int32} (h : n5 N D v1 v2 v3 = some r) (hv : am_inl r.1 = some v) : am_Y xs L 5 7 0 0 [.ref 0, .int v1, .int v2, .int v3] D (.inl (some (.int v))) r.2 := by
  obtain ⟨r0, h0, rfl⟩ := Option.map_eq_some_iff.mp h
  exact u_ghY (m5_okv h0 hv)
theorem n6_okv {N : Nat} {D : am_D} {v1 : Int32} {r : (Int32 ⊕ Nat) × am_D} {v : Int32} (h : n6 N D v1 = some r) (hv : am_inl r.1 = some v) : am_Y xs L 6 6 0 0 [.ref 0, .int v1] D (.inl (some (.int v))) r.2 := by
  obtain ⟨r0, h0, rfl⟩ := Option.map_eq_some_iff.mp h
  exact u_ghY (m6_okv h0 hv)
theorem n7_okv {D : am_D} {v1 : Int32} {r : (Int32 ⊕ Nat) × am_D} {v : Int32} (h : n7 D v1 = some r) (hv : am_inl r.1 = some v) : am_Y xs L 7 5 0 0 [.ref 0, .int v1] D (.inl (some (.int v))) r.2 := by
  obtain ⟨r0, h0, rfl⟩ := Option.map_eq_some_iff.mp h
  exact u_ghY (m7_okv h0 hv)
theorem n8_okv {D : am_D} {v1 : Int32} {r : (Int32 ⊕ Nat) × am_D} {v : Int32} (h : n8 D v1 = some r) (hv : am_inl r.1 = some v) : am_Y xs L 8 5 0 0 [.ref 0, .int v1] D (.inl (some (.int v))) r.2 := by
  obtain ⟨r0, h0, rfl⟩ := Option.map_eq_some_iff.mp h
  exact u_ghY (m8_okv h0 hv)
theorem n9_okv {D : am_D} {v1 : Int32} {r : (Int32 ⊕ Nat) × am_D} {v : Int32} (h : n9 D v1 = some r) (hv : am_inl r.1 = some v) : am_Y xs L 9 5 0 0 [.ref 0, .int v1] D (.inl (some (.int v))) r.2 := by
  obtain ⟨r0, h0, rfl⟩ := Option.map_eq_some_iff.mp h
  exact u_ghY (m9_okv h0 hv)
theorem n16_okv {D : am_D} {r : (Int32 ⊕ Nat) × am_D} {v : Int32} (h : n16 D = some r) (hv : am_inl r.1 = some v) : am_Y xs L 16 5 0 0 [.ref 0] D (.inl (some (.int v))) r.2 := by
  obtain ⟨r0, h0, rfl⟩ := Option.map_eq_some_iff.mp h
  exact u_ghY (m16_okv h0 hv)
theorem n17_okv {D : am_D} {r : (Int32 ⊕ Nat) × am_D} {v : Int32} (h : n17 D = some r) (hv : am_inl r.1 = some v) : am_Y xs L 17 5 0 0 [.ref 0] D (.inl (some (.int v))) r.2 := by
  obtain ⟨r0, h0, rfl⟩ := Option.map_eq_some_iff.mp h
  exact u_ghY (m17_okv h0 hv)
end XE
