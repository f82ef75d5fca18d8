/-! the claim out of one walk: the skeleton's beginning (kit/laws/SKELETON.whole), the start as the abstract machine's -/
def R_law : String := "ClockDominoesLaw"
def lw_P (b : Addr) (xs : List Int32) (args : Array Value) (s : State) : Prop := args = #[.ref b] ∧ s.IntsAt b xs ∧ xs.length ≤ 260 ∧ (Jvm.Cond.and given_1 narrow_1).before args s = true
/-- what a walk over the start with the record d0 says of its end, said of the start itself -/
theorem lw_closed {s t : State} {o : Outcome} {d0 : Drawn} {L : List Loc} {k n : Nat} (hd0 : s.drawn.sameBut d0 lw_cs) (hv : ∃ v, o = .returned v) (hW : (s.setDrawn d0).WarmedH t.vm) (hs : (s.setDrawn d0).sameButNew ({ t with vm := s.vm } : State) L k n) : State.butDraws s t lw_cs (fun t1 => Framed s o t1 L k n) := by
  have h2 : t.drawn = d0 := congrArg State.drawn hs.1
  refine ⟨⟨hv, hW, State.sameButNew.setDrawn hs s.drawn⟩, ?_, by decide⟩
  rw [h2]
  exact hd0
def lw_Q (_ : Array Value) (s : State) (o : Outcome) (t : State) : Prop := o = .returned (some (.int 1)) ∧ State.butDraws s t lw_cs (fun t1 => Framed s o t1 [] 600104 7301314)
def lw_Z (below : List Frame) (a : Array Value) (s : State) : State → Prop := fun t => ∃ o, t.status = .running ∧ Ended t below o ∧ lw_Q a s o t
/-- the law's own end, with 1 on the stack, nothing written that was there before, its room as the claim has it; d0: the record of draws at this point (at the entry s.drawn: begin with 'refine W.base ?_' and 'have hd0 := Drawn.sameBut.refl s.drawn lw_cs') -/
theorem lw_ret {p : Program} {l : Launch} {e : Env} {s : State} {m : MethodId} {below : List Frame} {meth : Method} {c : Code} {b : Nat} {d0 : Drawn} (hd0 : s.drawn.sameBut d0 lw_cs) (hx : p.tables.exec = Jvm.exec) (hb : c.code = code) (hr : meth.sig.returnType = ret) (hlocks : meth.locks = false) {pc : Nat} {H : Heap} {ls : Array Slot} (hdg : decode code pc = .ok (.ireturn, 1)) : W p l e room_1 (s.setDrawn d0) m #[Value.ref b] below meth c H [] 600104 7301314 (lw_Z below #[Value.ref b] s) (F0 m pc ls [.int 1]) := by
  intro T hT X
  obtain ⟨fs, hret, hrun, hended, hW, hframe⟩ := X.leave (v := some (.int 1)) (hlocks := hlocks) (fun h => by rw [hr] at h; cases h)
  have hmeth' : T.vm.method? m = some meth := X.method'
  refine ⟨T.setFrames fs, ?_, .returned (some (.int 1)), hrun, hended, rfl, lw_closed hd0 ⟨_, rfl⟩ hW hframe⟩
  jvm_step X.here [X.here.top, hx, hb, hdg, hmeth', hr, ret, narrow_b1]
  (try refine ⟨rfl, ?_⟩); (try refine ⟨rfl, ?_⟩)
  first | (intro acts; rw [hret _ acts rfl rfl rfl]) | rw [hret _ _ rfl rfl rfl]
  exact Steps.refl _
/-- what holds at the law's entry: the machine, the code, the tables' words (any of lw_tbl by 'hts w (by decide +kernel)'), the script of L ints xs at the cell b, what the Statement gives of the start (any of its parts by flat_of_before) -/
def lw_At (p : Program) (s : State) (m : MethodId) (meth : Method) (c : Code) (b L : Nat) (xs : Nat → Int32) : Prop :=
  p.tables.exec = Jvm.exec ∧ c.code = code ∧ meth.sig.returnType = ret ∧ c.maxLocals = 13 ∧ s.vm.findClass R_law = some m.cls ∧ (∀ w ∈ lw_tbl, w.before #[Value.ref b] s = true) ∧ va_X b L xs s s.heap ∧ b < s.heap.size ∧ meth.locks = false ∧ (Jvm.Cond.and given_1 narrow_1).before #[Value.ref b] s = true
theorem pg287 : am_pg[287]? = some am_m287 := by rfl
def w_gv : List Cond := flatC (Jvm.Cond.and given_1 narrow_1)
abbrev w_LOW : Term := .static "ClockDominoes$Tile" "LOW" "[I"
abbrev w_HIGH : Term := .static "ClockDominoes$Tile" "HIGH" "[I"
theorem w_lowE : ∀ j, j < 28 → Cond.eq (.elem w_LOW (.int (Int32.ofNat j))) (.int (am_low j)) ∈ w_gv := by decide +kernel
theorem w_highE : ∀ j, j < 28 → Cond.eq (.elem w_HIGH (.int (Int32.ofNat j))) (.int (am_high j)) ∈ w_gv := by decide +kernel
theorem w_lowA : Cond.arrayOf w_LOW .int ∈ w_gv := by decide +kernel
theorem w_highA : Cond.arrayOf w_HIGH .int ∈ w_gv := by decide +kernel
theorem w_lowL : Cond.eq (.length w_LOW) (.int (Int32.ofNat 28)) ∈ w_gv := by decide +kernel
theorem w_highL : Cond.eq (.length w_HIGH) (.int (Int32.ofNat 28)) ∈ w_gv := by decide +kernel
theorem w_t1 : Cond.laysStatic "ClockDominoes$Tile" "LOW" "[I" ∈ lw_tbl := by decide +kernel
theorem w_t2 : Cond.laysStatic "ClockDominoes$Tile" "HIGH" "[I" ∈ lw_tbl := by decide +kernel
theorem w_t3 : Cond.initialized "ClockDominoes$Tile" ∈ lw_tbl := by decide +kernel
theorem w_t4 : Cond.laysStatic Bundle.tN "UNASSIGNED_STACK" Bundle.steD ∈ lw_tbl := by decide +kernel
theorem w_t5 : Cond.laysStatic Bundle.tN "SUPPRESSED_SENTINEL" Bundle.listD ∈ lw_tbl := by decide +kernel
theorem w_t6 : Cond.initialized Bundle.tN ∈ lw_tbl := by decide +kernel
theorem w_t7 : Cond.arrayOver (.object "ClockDominoes$Table") ∈ lw_tbl := by decide +kernel
theorem w_r1 : Cond.isRef (.static Bundle.tN "UNASSIGNED_STACK" Bundle.steD) ∈ w_gv := by decide +kernel
theorem w_r2 : Cond.isRef (.static Bundle.tN "SUPPRESSED_SENTINEL" Bundle.listD) ∈ w_gv := by decide +kernel
set_option maxRecDepth 100000 in
theorem w_nohA : ∀ mi ∈ am_pg, mi.2.1.2.2.2 = [] := by decide +kernel
theorem w_noh : ¬ am_hasH := fun ⟨_, mi, h, q⟩ => q (w_nohA mi (List.mem_of_getElem? h))
theorem w_s1 : ∀ q ∈ am_strs, Cond.stringRef q.1 q.2.1 q.2.2 ∈ lw_tbl := by decide +kernel
theorem w_s2 : ∀ q ∈ am_strs, Cond.exactly (.string q.1 q.2.1) "java/lang/String" ∈ w_gv := by decide +kernel
def w_inst (C : String) (w : Cond) : Bool := match w with
  | .instantiable D _ => D == C
  | _ => false
theorem w_in : ∀ q ∈ am_cls, lw_tbl.any (w_inst q.1) = true := by decide +kernel
theorem w_inS {C : String} (h : lw_tbl.any (w_inst C) = true) : ∃ n, Cond.instantiable C n ∈ lw_tbl := by
  obtain ⟨w, h1, h2⟩ := List.any_eq_true.mp h
  unfold w_inst at h2
  split at h2
  · next D n =>
    rw [beq_iff_eq] at h2
    subst h2
    exact ⟨n, h1⟩
  · cases h2
/-- the law's own end, as the abstract machine tells it -/
theorem w_rt {i : Instr} {st : List Value} {C : Prop} (h : am_rt ret i st = some (C, some (.int 1))) : i = .ireturn ∧ st = [.int 1] := by
  unfold am_rt at h
  split at h
  · split at h
    · split at h
      · cases h; exact ⟨rfl, rfl⟩
      · cases h; exact ⟨rfl, rfl⟩
      · cases h
    · cases h
  all_goals first
    | (cases h; done)
    | (split at h
       · split at h
         · cases h
         · cases h
       · cases h)
section WA
variable {p : Program} {e : Env} {s : State} {m : MethodId} {below : List Frame} {meth : Method} {c : Code}
theorem w_K (hall : am_allOk) {b : Nat} (hts : ∀ w ∈ lw_tbl, w.before #[Value.ref b] s = true) : ∃ D : va_G, va_K D am_cl [] s := by
  have h : ∀ k : Nat, ∃ (d : ClassId) (di : Nat → Nat), ∀ q : vw_C, am_cl[k]? = some q → u_Kn s q.1 q.2.1 q.2.2 d di := by
    intro k
    cases hq : am_cls[k]? with
    | none =>
      refine ⟨default, fun _ => 0, fun q h => ?_⟩
      unfold am_cl at h
      rw [List.getElem?_map, hq] at h
      cases h
    | some q0 =>
      have hm : q0 ∈ am_cls := List.mem_of_getElem? hq
      obtain ⟨n, hn⟩ := w_inS (w_in q0 hm)
      obtain ⟨d, di, g⟩ := u_known (ws := am_gw) (C := q0.1) (T := am_TT q0.2) (N := q0.2.length) (fun w hw => hts w (List.mem_filter.mp hw).1) (am_clOkS (hall.1 q0 hm)).1 (hts _ hn)
      refine ⟨d, di, fun q h => ?_⟩
      rw [am_cl_at hq] at h
      cases h
      exact g
  refine ⟨(fun k => Classical.choose (h k), fun k => Classical.choose (Classical.choose_spec (h k))), fun k q hq => Classical.choose_spec (Classical.choose_spec (h k)) q hq, fun k q h => by simp at h⟩
theorem w_StX {b : Nat} (hts : ∀ w ∈ lw_tbl, w.before #[Value.ref b] s = true) (hgv : ∀ w ∈ w_gv, w.before #[Value.ref b] s = true) : am_StX (fun q : Nat => s.heap.size ≤ q) s s.heap := by
  have hA0 : ∀ a : Nat, a < s.heap.size → ¬ (fun q : Nat => s.heap.size ≤ q) a := fun a h => Nat.not_le.mpr h
  refine ⟨fun w hw => ?_, va_AO.of (hts _ w_t7), fun k q hq => ?_, fun q => absurd q w_noh, vx_Zqof (hts _ w_t4) (hts _ w_t6) (hgv _ w_r1) hA0, vx_Zqof (hts _ w_t5) (hts _ w_t6) (hgv _ w_r2) hA0⟩
  · obtain ⟨h1, h2⟩ := List.mem_filter.mp hw
    exact va_tabs (am_isX_tab h2) rfl (hts w h1)
  · have hm : q ∈ am_strs := List.mem_of_getElem? hq
    obtain ⟨a, c0, cell, k0, g1, -⟩ := Cond.exactly_spec (show (Cond.exactly (.string q.1 q.2.1) "java/lang/String").holds #[Value.ref b] s none s [] = true from hgv _ (w_s2 q hm))
    exact ⟨a, vk_R.of (hts _ (w_s1 q hm)) g1⟩
theorem whole_startH (hall : am_allOk) (l : Launch) (hflags : l.flags = flags0) {b L : Nat} {xs : Nat → Int32} (hL : L ≤ 260) (C0 : lw_At p s m meth c b L xs) : W p l e room_1 s m #[Value.ref b] below meth c s.heap [] 0 0 (lw_Z below #[Value.ref b] s) (entryFrame m ([Value.ref b] : List Value).toArray 13) := by
  obtain ⟨hx, hb, hr, hml, hown, hts, hX, hbl, hlocks, hgv⟩ := id C0
  have hgvF : ∀ w ∈ w_gv, w.before #[Value.ref b] s = true := flat_of_before _ hgv
  have hA0 : ∀ a : Nat, a < s.heap.size → ¬ (fun q : Nat => s.heap.size ≤ q) a := fun a h => Nat.not_le.mpr h
  have hd0 := Drawn.sameBut.refl s.drawn lw_cs
  have hst : l.stackTraces = false := by
    unfold Launch.stackTraces
    rw [hflags]
    decide +kernel
  obtain ⟨tl, ttl, hTl⟩ := va_Tof (tm := w_LOW) (ty := .int) (N := 28) (f := fun j => .int (am_low j)) (by decide) (hgvF _ w_lowA) (va_eqt (hgvF _ w_lowL)) (fun j hj => va_eqt (hgvF _ (w_lowE j hj))) hA0
  obtain ⟨th, tth, hTh⟩ := va_Tof (tm := w_HIGH) (ty := .int) (N := 28) (f := fun j => .int (am_high j)) (by decide) (hgvF _ w_highA) (va_eqt (hgvF _ w_highL)) (fun j hj => va_eqt (hgvF _ (w_highE j hj))) hA0
  obtain ⟨D, hK⟩ := w_K hall hts
  obtain ⟨tt, htt⟩ : ∃ tt : Nat → Nat, tt = fun k => if k = 1000000 then tl else if k = 1000001 then th else b := ⟨_, rfl⟩
  have e0 : tt 1000000 = tl := by rw [htt]; rfl
  have e1 : tt 1000001 = th := by rw [htt]; rfl
  have e2 : tt 1000002 = b := by rw [htt]; rfl
  have hStA : am_StA (fun q : Nat => s.heap.size ≤ q) tt xs L s s.heap := by
    unfold am_StA
    rw [e0, e1, e2]
    exact ⟨va_Zref (hts _ w_t1) (hts _ w_t3) ttl hA0, va_Zref (hts _ w_t2) (hts _ w_t3) tth hA0, hTl, hTh, hX, hbl, hA0 b hbl⟩
  have hF : am_F p room_1 s m #[Value.ref b] meth c am_m287 D (fun q : Nat => s.heap.size ≤ q) tt xs L 60 1000 10000 :=
    ⟨⟨hx, hb, hml, hr, fun h => absurd h (by decide), hown, fun w hw => hts w (List.mem_filter.mp hw).1⟩, fun h => absurd rfl h, ⟨hK, hStA, w_StX hts hgvF⟩, fun q h => h, Nat.le_of_ble_eq_true rfl, Nat.le_of_ble_eq_true rfl, Nat.le_of_ble_eq_true rfl, Nat.le_of_ble_eq_true rfl⟩
  obtain ⟨n, hn⟩ := law_all (xs := xs) (L := L) (Q := fun o _ => o = .inl (some (.int 1))) (Nat.le_trans hL (Nat.le_of_ble_eq_true rfl)) (fun _ => rfl)
  have hI : am_I D (fun q : Nat => s.heap.size ≤ q) tt s s.heap s.heap [] tt (fun _ => default) [] :=
    ⟨fun k q h => by simp [am_ws] at h, ⟨fun i j p q h => by simp [am_ws] at h, fun k q h => by simp [am_ws] at h⟩, va_S.rf, fun k tag x h => by simp at h, by simp, fun k _ => rfl⟩
  have hlr := am_entry (ad := tt) (as := [.ref 1000002]) (n := 13) (by decide)
  have ecv : ([.ref 1000002] : List Value).map (am_cv tt) = [.ref b] := by
    show [Value.ref (tt 1000002)] = _
    rw [e2]
  rw [ecv] at hlr
  rw [lg_entry_eq]
  refine (am_sim hst hall n).1 p e room_1 s m #[Value.ref b] below meth c 287 am_m287 D _ tt 60 1000 10000 _ _ tt [] pg287 hF ?_ ?_ ?_ 0 _ [] [] 0 0 _ s.heap [] tt (fun _ => default) hn (Nat.zero_le _) (Nat.zero_le _) hlr hI (am_ag.rf _ _)
  · intro pc ls H locs cells slots st ad ca h i len C v hcl hsl hI1 hag hdec hlen hrt hC hQ
    cases hQ
    obtain ⟨rfl, rfl⟩ := w_rt hrt
    refine W.base ?_
    refine va_forget (fun q hq => hI1.2.2.1.2.2 q hq) ?_
    refine W.widen (k := 600104) (n := 7301314) (Nat.le_trans hcl (Nat.le_of_ble_eq_true rfl)) (Nat.le_trans hsl (Nat.le_of_ble_eq_true rfl)) ?_
    subst hlen
    exact lw_ret hd0 hx hb hr hlocks hdec
  · intro pc ls H locs cells slots st ad ca h i au rest E h1 h2 h3 h4 h5 h6 h7 h8 h9 hQ
    cases hQ
  · intro pc ls H locs cells slots rest ad ca h E ce q h1 h2 h3 h4 h5 h6 h7 h8 h9 h10 hQ
    cases hQ
end WA
