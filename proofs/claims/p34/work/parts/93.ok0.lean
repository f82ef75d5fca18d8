/-! what a program decides of the tables: classes, library members, exceptions -/
set_option maxRecDepth 100000 in
theorem am_clsOk_p : am_clsOk := by
  unfold am_clsOk
  decide +kernel
set_option maxRecDepth 100000 in
theorem am_glOk_p : am_glOk := by
  unfold am_glOk
  decide +kernel
set_option maxRecDepth 100000 in
theorem am_ex1 : ∀ w ∈ vx_atS "" 0 (am_exn 1) am_exs, w = .methodLink "" 0 (Bundle.initS (am_exn 1)) ∨ w ∈ am_gw ∨ w ∈ am_xw := by decide +kernel
set_option maxRecDepth 100000 in
theorem am_ex1' : ∀ w ∈ vx_atS "" 1 (am_exn 1) am_exs, w = .methodLink "" 1 (Bundle.initS (am_exn 1)) ∨ w ∈ am_gw ∨ w ∈ am_xw := by decide +kernel
set_option maxRecDepth 100000 in
theorem am_ex2 : ∀ w ∈ vx_atS "" 0 (am_exn 2) am_exs, w = .methodLink "" 0 (Bundle.initS (am_exn 2)) ∨ w ∈ am_gw ∨ w ∈ am_xw := by decide +kernel
set_option maxRecDepth 100000 in
theorem am_ex2' : ∀ w ∈ vx_atS "" 1 (am_exn 2) am_exs, w = .methodLink "" 1 (Bundle.initS (am_exn 2)) ∨ w ∈ am_gw ∨ w ∈ am_xw := by decide +kernel
set_option maxRecDepth 100000 in
theorem am_ex3 : ∀ w ∈ vx_atS "" 0 (am_exn 3) am_exs, w = .methodLink "" 0 (Bundle.initS (am_exn 3)) ∨ w ∈ am_gw ∨ w ∈ am_xw := by decide +kernel
set_option maxRecDepth 100000 in
theorem am_ex3' : ∀ w ∈ vx_atS "" 1 (am_exn 3) am_exs, w = .methodLink "" 1 (Bundle.initS (am_exn 3)) ∨ w ∈ am_gw ∨ w ∈ am_xw := by decide +kernel
theorem am_lt2 {P : Nat → Prop} (h0 : P 0) (h1 : P 1) : ∀ z : Nat, z < 2 → P z := fun z hz => match z, hz with
  | 0, _ => h0
  | 1, _ => h1
  | z + 2, hz => absurd hz (by omega)
set_option maxRecDepth 100000 in
theorem am_exOk_p : am_exOk := by
  intro E h1 h3
  rcases (show E = 1 ∨ E = 2 ∨ E = 3 by omega) with rfl | rfl | rfl
  · exact ⟨by decide +kernel, by decide +kernel, am_lt2 (P := fun z => ∀ w ∈ vx_atS "" z (am_exn 1) am_exs, w = .methodLink "" z (Bundle.initS (am_exn 1)) ∨ w ∈ am_gw ∨ w ∈ am_xw) am_ex1 am_ex1', by decide +kernel⟩
  · exact ⟨by decide +kernel, by decide +kernel, am_lt2 (P := fun z => ∀ w ∈ vx_atS "" z (am_exn 2) am_exs, w = .methodLink "" z (Bundle.initS (am_exn 2)) ∨ w ∈ am_gw ∨ w ∈ am_xw) am_ex2 am_ex2', by decide +kernel⟩
  · exact ⟨by decide +kernel, by decide +kernel, am_lt2 (P := fun z => ∀ w ∈ vx_atS "" z (am_exn 3) am_exs, w = .methodLink "" z (Bundle.initS (am_exn 3)) ∨ w ∈ am_gw ∨ w ∈ am_xw) am_ex3 am_ex3', by decide +kernel⟩
