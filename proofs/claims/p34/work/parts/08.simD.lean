/-! the abstract machine over the machine itself: whole methods -/
def am_exn (E : Nat) : String := match E with
  | 1 => "java/lang/IndexOutOfBoundsException"
  | 2 => "java/lang/IllegalArgumentException"
  | _ => "java/lang/IllegalStateException"
def am_exs : List String := ["java/lang/RuntimeException", "java/lang/Exception"]
def am_isX (w : Cond) : Bool := match w with
  | .declares _ => true
  | .castable _ _ => true
  | .methodLinkNest _ _ _ _ => true
  | _ => false
/-- the tables' words that a contract can't carry: they are carried as premises of the state -/
def am_xw : List Cond := lw_tbl.filter am_isX
def am_xd (j : Nat) (w : Cond) : Bool := decide (lw_tbl[j]? = some w) && am_isX w
theorem am_xdI {j : Nat} {w : Cond} (h : am_xd j w = true) : w ∈ am_xw := by
  unfold am_xd at h
  simp only [Bool.and_eq_true, decide_eq_true_eq] at h
  exact List.mem_filter.mpr ⟨List.mem_of_getElem? h.1, h.2⟩
theorem am_isX_tab {w : Cond} (h : am_isX w = true) : w.onTables = true := by
  cases w <;> first | rfl | cases h
/-- some method has handlers -/
def am_hasH : Prop := ∃ (k : Nat) (mi : am_MI), am_pg[k]? = some mi ∧ mi.2.1.2.2.2 ≠ []
def am_StX (A : Nat → Prop) (U : State) (H : Heap) : Prop :=
  (∀ w ∈ am_xw, va_Nw w U) ∧ va_AO "ClockDominoes$Table" U ∧ (∀ (k : Nat) (q : String × Nat × String), am_strs[k]? = some q → ∃ a, vk_R q.1 q.2.1 q.2.2 a U) ∧ (am_hasH → ∀ E1 E2 : Nat, 1 ≤ E1 → E1 ≤ 3 → 1 ≤ E2 → E2 ≤ 3 → E1 ≠ E2 → va_Nc (am_exn E1) (am_exn E2) U) ∧ vx_Zq Bundle.tN "UNASSIGNED_STACK" Bundle.steD A U H ∧ vx_Zq Bundle.tN "SUPPRESSED_SENTINEL" Bundle.listD A U H
theorem am_StX.move {A B : Nat → Prop} {u U : State} {H H1 : Heap} (h : am_StX A u H) (hW : u.WarmedH U.vm) (hq : ∀ a : Nat, a < H.size → ¬ A a → H1[a]? = H[a]?) (hAB : ∀ q, B q → A q) : am_StX B U H1 := by
  obtain ⟨h1, h2, h3, h4, h5, h6⟩ := h
  refine ⟨fun w hw => ?_, h2.moved hW.alike, fun k q hk => ?_, fun a0 E1 E2 a1 a2 a3 a4 a5 => (h4 a0 E1 E2 a1 a2 a3 a4 a5).moved hW.alike, ((h5.moved hW.alike).kept hq).narrow hAB, ((h6.moved hW.alike).kept hq).narrow hAB⟩
  · have h9 := h1 w hw
    have hx := (List.mem_filter.mp hw).2
    cases w <;> first | exact va_Nw.warmD hW h9 | exact va_Nw.warmC hW h9 | exact va_Nw.warmM hW h9 | cases hx
  · obtain ⟨a, ha⟩ := h3 k q hk
    exact ⟨a, vk_R.warm hW ha⟩
theorem am_StA.move {A B : Nat → Prop} {tt : Nat → Nat} {xs : Nat → Int32} {L : Nat} {u U : State} {H H1 : Heap} (h : am_StA A tt xs L u H) (hW : u.WarmedH U.vm) (hs : H.size ≤ H1.size) (hq : ∀ a : Nat, a < H.size → ¬ A a → H1[a]? = H[a]?) (hAB : ∀ q, B q → A q) : am_StA B tt xs L U H1 := by
  obtain ⟨h1, h2, h3, h4, h5, h6, h7⟩ := h
  exact ⟨((h1.moved hW.alike).kept hq).narrow hAB, ((h2.moved hW.alike).kept hq).narrow hAB, ((h3.moved hW.alike).kept hq).narrow hAB, ((h4.moved hW.alike).kept hq).narrow hAB, (h5.moved hW.alike).kept (hq _ h6 h7), Nat.lt_of_lt_of_le h6 hs, fun z => h7 (hAB _ z)⟩
/-! what is checked of a row and of a method -/
def am_spLike (au : List Nat) : Bool := match au with
  | 1000 :: _ => true
  | 1001 :: _ => true
  | 1002 :: _ => true
  | 1003 :: _ => true
  | _ => false
def am_isInv : Instr → Bool
  | .invokestatic _ => true
  | .invokevirtual _ => true
  | .invokespecial _ => true
  | _ => false
def am_astore (cc : ByteArray) (h p i : Nat) : Bool := match decode cc h with
  | .ok (.astore j, 2) => j == i && p == h + 2
  | .ok (.astore_n j, 1) => (j : Nat) == i && p == h + 1
  | _ => false
def am_hqOk (own : String) (cc : ByteArray) (pc : Nat) : List (Nat × Nat × Nat × Nat) → List Nat → Bool
  | [], [] => true
  | (s, e, h, ct) :: r, E :: p :: i :: h' :: q => (h == h' && (decide (s ≤ pc) && (decide (pc < e) && (!(ct == 0) && (decide (1 ≤ E) && (decide (E ≤ 3) && (am_gw.contains (.classLink own ct (am_exn E)) && am_astore cc h p i))))))) && am_hqOk own cc pc r q
  | _, _ => false
def am_nocov (hh : List (Nat × Nat × Nat × Nat)) (pc : Nat) : Bool := hh.all (fun q => !(decide (q.1 ≤ pc) && decide (pc < q.2.1)))
/-- the index of the law's own method, which no method calls -/
def am_law : Nat := 287
def am_callOk (mi : am_MI) (pc : Nat) (i : Instr) (au : List Nat) : Bool := match au with
  | k :: n :: j :: nest :: hq => match am_pg[k]? with
    | some mi' => !(k == am_law) && ((match i, mi'.2.1.1 with
        | .invokestatic idx, 0 => nest == 0 && (n == mi'.2.1.2.1 && am_wd j (.methodLink mi.1.1 idx mi'.1.2.1))
        | .invokevirtual idx, 1 => nest == 0 && (n == mi'.2.1.2.1 + 1 && am_wd j (.methodLink mi.1.1 idx mi'.1.2.1))
        | .invokespecial idx, 2 => n == mi'.2.1.2.1 + 1 && (if nest = 0 then am_wd j (.methodLink mi.1.1 idx mi'.1.2.1) else am_xd j (.methodLinkNest mi.1.1 idx mi'.1.2.1 "ClockDominoes"))
        | _, _ => false) && (match hq with
        | [] => am_nocov mi.2.1.2.2.2 pc
        | _ => am_hqOk mi.1.1 mi.1.2.2.1 pc mi.2.1.2.2.2 hq))
    | none => false
  | _ => false
def am_thOk (mi : am_MI) (pc : Nat) (i : Instr) (au : List Nat) : Bool := match i, au with
  | .new ik, [9, E, form, is, ic, j1, j2, si, j3] =>
    decide (1 ≤ E) && (decide (E ≤ 3) && (am_wd j1 (.classLink mi.1.1 ik (am_exn E)) && (am_wd j2 (.initialized (am_exn E)) && (am_wd j3 (.methodLink mi.1.1 ic (Bundle.initS (am_exn E))) && (((am_strs[si]?).map (fun q => (q.1, q.2.1)) == some (mi.1.1, is)) &&
      (decide (decode mi.1.2.2.1 (pc + 3) = .ok (.dup, 1)) && (if form = 0 then decide (decode mi.1.2.2.1 (pc + 4) = .ok (.ldc is, 2)) && (decide (decode mi.1.2.2.1 (pc + 6) = .ok (.invokespecial ic, 3)) && (decide (decode mi.1.2.2.1 (pc + 9) = .ok (.athrow, 1)) && am_nocov mi.2.1.2.2.2 (pc + 9)))
        else decide (decode mi.1.2.2.1 (pc + 4) = .ok (.ldc_w is, 3)) && (decide (decode mi.1.2.2.1 (pc + 7) = .ok (.invokespecial ic, 3)) && (decide (decode mi.1.2.2.1 (pc + 10) = .ok (.athrow, 1)) && am_nocov mi.2.1.2.2.2 (pc + 10))))))))))
  | _, _ => false
def am_rowOk (mi : am_MI) (r : Nat × am_AI) : Bool :=
  decide (decode mi.1.2.2.1 r.1 = .ok (r.2.1, r.2.2.1)) && ((am_isSw r.2.1 || r.2.2.1 == am_lenOf r.2.1) && (am_brOk r.2.1 r.2.2.2 r.1 && (am_hpOk mi.1.1 mi.1.2.1.name r.2.1 r.2.2.2 && ((r.2.2.2 == [9999] || ((am_isInv r.2.1 && !(am_spLike r.2.2.2)) || am_spOk mi.1.1 r.2.1 r.2.2.2)) && ((r.2.2.2 == [9999] || (!(am_isInv r.2.1) || (am_spLike r.2.2.2 || am_callOk mi r.1 r.2.1 r.2.2.2))) && ((r.2.2.2.headD 0 == 9 && am_thOk mi r.1 r.2.1 r.2.2.2) || am_alOk mi.1.1 r.2.1 r.2.2.2))))))
def am_methOk (mi : am_MI) : Bool := match mi.2.1.2.2.1 with
  | [jc, jk, js, ji] =>
    (match mi.2.1.2.2.2 with
      | [] => am_wd jc (.code mi.1.2.1 mi.1.2.2.1 mi.1.2.2.2.1 mi.1.2.2.2.2)
      | hh => am_wd jc (.codeWith mi.1.2.1 mi.1.2.2.1 mi.1.2.2.2.1 mi.1.2.2.2.2 hh)) &&
    ((match mi.2.1.1 with
      | 0 => am_wd jk (.static mi.1.2.1)
      | 1 => am_wd jk (.instanceMethod mi.1.2.1) && (am_wd js (.selects mi.1.2.1.cls mi.1.2.1 mi.1.2.1) && decide (mi.2.1.2.2.2 = []))
      | _ => am_wd jk (.instanceMethod mi.1.2.1) && (mi.1.2.1.name == "<init>" && (decide (mi.1.2.2.2.2 = none) && decide (mi.2.1.2.2.2 = [])))) &&
    (am_wd ji (.initialized mi.1.2.1.cls) && (plainName mi.1.2.1.cls && (mi.1.2.1.cls == mi.1.1 && (!(mi.1.2.1.cls == "java/lang/invoke/MethodHandle") && (!(mi.1.2.1.cls == "java/lang/invoke/VarHandle") && (((parseMethodDescriptor mi.1.2.1.desc).map (fun d => d.parameters.length) == some mi.2.1.2.1) && decide (mi.1.2.2.2.1 + 19 ≤ 64))))))))
  | _ => false
/-- all that a program decides of the tables -/
def am_pgOk : Prop := ∀ (k : Nat) (mi : am_MI), am_pg[k]? = some mi → (∀ r ∈ mi.2.2, am_rowOk mi r = true) ∧ (k ≠ am_law → am_methOk mi = true)
def am_exOk : Prop := ∀ E : Nat, 1 ≤ E → E ≤ 3 → Bundle.fit (am_exn E) = true ∧ (∀ n ∈ am_exs, Bundle.fit n = true) ∧ (∀ z : Nat, z < 2 → ∀ w ∈ vx_atS "" z (am_exn E) am_exs, w = .methodLink "" z (Bundle.initS (am_exn E)) ∨ w ∈ am_gw ∨ w ∈ am_xw) ∧ Cond.castable (am_exn E) (am_exn E) ∈ am_xw
def am_allOk : Prop := am_clsOk ∧ am_glOk ∧ am_pgOk ∧ am_exOk
/-! a method's contract -/
def am_ws0 (mi : am_MI) : List Cond := (match mi.2.1.2.2.2 with
  | [] => Cond.code mi.1.2.1 mi.1.2.2.1 mi.1.2.2.2.1 mi.1.2.2.2.2
  | hh => Cond.codeWith mi.1.2.1 mi.1.2.2.1 mi.1.2.2.2.1 mi.1.2.2.2.2 hh) :: am_gw
def am_rm (d mc ms : Nat) : Room := { frames := d + 8, cells := mc, slots := ms, locals := 64 * d + 512 }
def am_B (D : va_G) (A : Nat → Prop) (tt : Nat → Nat) (U : State) (ad : Nat → Nat) (ca : Nat → ClassId) (h : am_AH) : Prop :=
  va_P D am_cl (am_ws ad ca h) U.heap ∧ va_D A (am_ws ad ca h) ∧ am_KA U ca h ∧ h.length ≤ 1000000 ∧ ∀ k, 1000000 ≤ k → ad k = tt k
def am_S (D : va_G) (A : Nat → Prop) (tt : Nat → Nat) (xs : Nat → Int32) (L : Nat) (U : State) : Prop := va_K D am_cl [] U ∧ am_StA A tt xs L U U.heap ∧ am_StX A U U.heap
def am_Pc (D : va_G) (tt : Nat → Nat) (xs : Nat → Int32) (L : Nat) (as : List Value) (ad : Nat → Nat) (ca : Nat → ClassId) (h : am_AH) (sz : Nat) : Array Value → State → Prop := fun v U =>
  v = (as.map (am_cv ad)).toArray ∧ U.heap.size = sz ∧ am_B D (va_A (am_ws ad ca h) sz) tt U ad ca h ∧ am_S D (va_A (am_ws ad ca h) sz) tt xs L U
def am_Qc (D : va_G) (tt : Nat → Nat) (ad : Nat → Nat) (ca : Nat → ClassId) (h : am_AH) (sz : Nat) (Q : am_O → am_AH → Prop) : Array Value → State → Outcome → State → Prop := fun _ st o t =>
  (∃ (ad' : Nat → Nat) (ca' : Nat → ClassId) (h' : am_AH) (v : Option Value), o = .returned (v.map (am_cv ad')) ∧ am_ag ad h ad' h' ∧ Q (.inl v) h' ∧ am_B D (va_A (am_ws ad ca h) sz) tt t ad' ca' h') ∧ va_F (va_A (am_ws ad ca h) sz) st t
def am_XC (D : va_G) (tt : Nat → Nat) (ad : Nat → Nat) (ca : Nat → ClassId) (h : am_AH) (sz : Nat) (Q : am_O → am_AH → Prop) : String → State → State → Prop := fun E st t =>
  (∃ (ad' : Nat → Nat) (ca' : Nat → ClassId) (h' : am_AH) (En : Nat), 1 ≤ En ∧ En ≤ 3 ∧ am_exn En = E ∧ am_ag ad h ad' h' ∧ Q (.inr En) h' ∧ am_B D (va_A (am_ws ad ca h) sz) tt t ad' ca' h') ∧ va_F (va_A (am_ws ad ca h) sz) st t
section AMD
variable {p : Program} {l : Launch} {e : Env} {R : Room} {s : State} {m : MethodId} {args : Array Value} {below : List Frame} {meth : Method} {c : Code} {H : Heap} {locs : List Loc} {cells slots : Nat} {Q : State → Prop}
variable {cc : ByteArray} {pc : Nat} {ls : Array Slot} {D : va_G} {A : Nat → Prop} {tt : Nat → Nat} {xs : Nat → Int32} {L : Nat} {ca : Nat → ClassId}
theorem am_blind {as : List Value} {ad : Nat → Nat} {h : am_AH} {sz : Nat} : FrameBlind (am_Pc D tt xs L as ad ca h sz) := by
  intro a U g mk q
  obtain ⟨q0, q1, ⟨b1, b2, b3, b4, b5⟩, s1, s2, s3⟩ := q
  have hW : U.WarmedH (U.calling g mk a).vm := State.WarmedH.refl U
  refine ⟨q0, q1, ⟨b1, b2, b3.moved (u := U) (U := U.calling g mk a) (Vm.Alike.refl U.vm), b4, b5⟩, va_K.moved (u := U) (U := U.calling g mk a) (Vm.Alike.refl U.vm) s1, ?_, ?_⟩
  · exact s2.move (U := U.calling g mk a) (H1 := (U.calling g mk a).heap) hW (Nat.le_refl _) (fun _ _ _ => rfl) (fun _ z => z)
  · exact s3.move (U := U.calling g mk a) (H1 := (U.calling g mk a).heap) hW (fun _ _ _ => rfl) (fun _ z => z)
theorem am_call {mc ms : Nat} {rest st0 : List Value} {A0 A1 : Nat → Prop} {H0 : Heap} {free : Addr → Prop} {Qa : State → Outcome → State → Prop} {XC : String → State → State → Prop} (hr : vx_Run p l e R s m args below meth c H locs cells slots mc ms (F0 m pc ls st0) rest Qa XC free) (hS : va_S A0 H0 H locs) (hA : ∀ q, q < H.size → A1 q → A0 q) (hf : ∀ q, free q → A0 q)
    (hQF : ∀ st v t, Qa st (.returned v) t → va_F A1 st t) (hXF : ∀ E st t, XC E st t → va_F A1 st t)
    (kx : ∀ (E : String) (ce : Cell) (q9 : Addr) (st t : State) (H1 : Heap) (locs1 : List Loc), st.heap = H → t.heap = H1 → s.vm.Alike t.vm → XC E st t → va_S A0 H0 H1 locs1 → H1[q9]? = some ce → ce.vm = .none → s.vm.findClass E = some ce.cls → vx_W p l e R s m args below meth c H1 locs1 (cells + mc) (slots + ms) Q (F0 m pc ls rest) q9)
    (kk : ∀ (v : Option Value) (st t : State) (H1 : Heap) (locs1 : List Loc), st.heap = H → t.heap = H1 → s.vm.Alike t.vm → Qa st (.returned v) t → va_S A0 H0 H1 locs1 → W p l e R s m args below meth c H1 locs1 (cells + mc) (slots + ms) Q (F0 m (pc + 3) ls (v.toList ++ rest))) : W p l e R s m args below meth c H locs cells slots Q (F0 m pc ls st0) := by
  intro T hT X
  rcases hr T hT X with ⟨v, st₀, t, T', L, h0, X', hL, e1, e2, hq, st⟩ | ⟨q, st₀, t, T', L, E, ce, h0, X', hL, e1, e2, hq, hce, hcv, hcl, st⟩
  · obtain ⟨-, -, k3⟩ := vx_keep h0 e1 hS hA hf hL (hQF _ _ _ hq)
    obtain ⟨t2, a1, b1⟩ := kk v st₀ t T'.heap (locs ++ L) h0 e1.symm (by rw [← e2]; exact X'.warmed.alike) hq k3 T' rfl X'
    exact ⟨t2, st t2 a1, b1⟩
  · obtain ⟨-, -, k3⟩ := vx_keep h0 e1 hS hA hf hL (hXF _ _ _ hq)
    obtain ⟨t2, a1, b1⟩ := kx E ce q st₀ t T'.heap (locs ++ L) h0 e1.symm (by rw [← e2]; exact X'.warmed.alike) hq k3 (by rw [e1]; exact hce) hcv hcl T' rfl X'
    exact ⟨t2, st.trans a1, b1⟩
theorem am_atS {own cls : String} {ic : Nat} {names : List String} {w : Cond} (h : w ∈ vx_atS own ic cls names) : w = .methodLink own ic (Bundle.initS cls) ∨ ∀ z : Nat, w ∈ vx_atS "" z cls names := by
  unfold vx_atS at h ⊢
  obtain ⟨h1, h2⟩ := List.mem_filter.mp h
  unfold Bundle.ownAtoms at h1
  rcases List.mem_append.mp h1 with h3 | h3
  · exact Or.inr fun z => List.mem_filter.mpr ⟨by unfold Bundle.ownAtoms; exact List.mem_append_left _ h3, h2⟩
  · rcases List.mem_cons.mp h3 with h4 | h4
    · exact Or.inl h4
    · exact Or.inr fun z => List.mem_filter.mpr ⟨by unfold Bundle.ownAtoms; exact List.mem_append_right _ (List.mem_cons_of_mem _ h4), h2⟩
end AMD
