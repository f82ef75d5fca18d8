/-! the abstract machine over the machine itself: a frame, step by step; a method, by contract -/
def am_F (p : Program) (R : Room) (s : State) (m : MethodId) (args : Array Value) (meth : Method) (c : Code) (mi : am_MI) (D : va_G) (A : Nat → Prop) (tt : Nat → Nat) (xs : Nat → Int32) (L d mc ms : Nat) : Prop :=
  (p.tables.exec = Jvm.exec ∧ c.code = mi.1.2.2.1 ∧ c.maxLocals = mi.1.2.2.2.1 ∧ meth.sig.returnType = mi.1.2.2.2.2 ∧ (mi.1.2.1.name = "<init>" → meth.name = "<init>") ∧ s.vm.findClass mi.1.1 = some m.cls ∧ (∀ w ∈ am_gw, w.before args s = true)) ∧
  (mi.2.1.2.2.2 ≠ [] → c.exceptionTable.toList = tableOf mi.2.1.2.2.2) ∧ am_S D A tt xs L s ∧ (∀ q, s.heap.size ≤ q → A q) ∧ d + 8 ≤ R.frames ∧ 64 * d + 512 ≤ R.locals ∧ mc ≤ R.cells ∧ ms ≤ R.slots
section AME
variable (p : Program) (l : Launch) (e : Env) (R : Room) (s : State) (m : MethodId) (args : Array Value) (below : List Frame) (meth : Method) (c : Code) (mi : am_MI) (D : va_G) (A : Nat → Prop) (tt : Nat → Nat) (mc ms : Nat) (Q0 : State → Prop) (QQ : am_O → am_AH → Prop) (ad0 : Nat → Nat) (h0 : am_AH)
def am_Kret : Prop := ∀ (pc : Nat) (ls : Array Slot) (H : Heap) (locs : List Loc) (cells slots : Nat) (st : List Value) (ad : Nat → Nat) (ca : Nat → ClassId) (h : am_AH) (i : Instr) (len : Nat) (C : Prop) (v : Option Value), cells ≤ mc → slots ≤ ms → am_I D A tt s s.heap H locs ad ca h → am_ag ad0 h0 ad h →
  decode mi.1.2.2.1 pc = .ok (i, len) → len = am_lenOf i → am_rt mi.1.2.2.2.2 i st = some (C, v) → C → QQ (.inl v) h → W p l e R s m args below meth c H locs cells slots Q0 (F0 m pc ls (st.map (am_cv ad)))
def am_Kthr : Prop := ∀ (pc : Nat) (ls : Array Slot) (H : Heap) (locs : List Loc) (cells slots : Nat) (st : List Value) (ad : Nat → Nat) (ca : Nat → ClassId) (h : am_AH) (i : Instr) (au rest : List Nat) (E : Nat), au = 9 :: E :: rest → cells + 1 ≤ mc → slots + 6 ≤ ms → ls.size = mi.1.2.2.2.1 → am_I D A tt s s.heap H locs ad ca h → am_ag ad0 h0 ad h →
  decode mi.1.2.2.1 pc = .ok (i, 3) → am_thOk mi pc i au = true → (st.map fun v => v.category).sum ≤ 8 → QQ (.inr E) h → W p l e R s m args below meth c H locs cells slots Q0 (F0 m pc ls (st.map (am_cv ad)))
def am_Kexc : Prop := ∀ (pc : Nat) (ls : Array Slot) (H : Heap) (locs : List Loc) (cells slots : Nat) (rest : List Value) (ad : Nat → Nat) (ca : Nat → ClassId) (h : am_AH) (E : Nat) (ce : Cell) (q : Addr), cells ≤ mc → slots ≤ ms → am_I D A tt s s.heap H locs ad ca h → am_ag ad0 h0 ad h →
  am_nocov mi.2.1.2.2.2 pc = true → 1 ≤ E → E ≤ 3 → H[q]? = some ce → ce.vm = .none → s.vm.findClass (am_exn E) = some ce.cls → QQ (.inr E) h → vx_W p l e R s m args below meth c H locs cells slots Q0 (F0 m pc ls rest) q
end AME
def am_FS (l : Launch) (xs : Nat → Int32) (L n : Nat) : Prop := ∀ (p : Program) (e : Env) (R : Room) (s : State) (m : MethodId) (args : Array Value) (below : List Frame) (meth : Method) (c : Code) (k : Nat) (mi : am_MI) (D : va_G) (A : Nat → Prop) (tt : Nat → Nat) (d mc ms : Nat) (Q0 : State → Prop) (QQ : am_O → am_AH → Prop) (ad0 : Nat → Nat) (h0 : am_AH),
  am_pg[k]? = some mi → am_F p R s m args meth c mi D A tt xs L d mc ms → am_Kret p l e R s m args below meth c mi D A tt mc ms Q0 QQ ad0 h0 → am_Kthr p l e R s m args below meth c mi D A tt mc ms Q0 QQ ad0 h0 → am_Kexc p l e R s m args below meth c mi D A tt mc ms Q0 QQ ad0 h0 →
  ∀ (pc : Nat) (lc st : List Value) (h : am_AH) (cells slots : Nat) (ls : Array Slot) (H : Heap) (locs : List Loc) (ad : Nat → Nat) (ca : Nat → ClassId), am_w xs L n d k mc ms (pc, lc, st, h, cells, slots) QQ → cells ≤ mc → slots ≤ ms → am_lr ls mi.1.2.2.2.1 ad lc → am_I D A tt s s.heap H locs ad ca h → am_ag ad0 h0 ad h →
  W p l e R s m args below meth c H locs cells slots Q0 (F0 m pc ls (st.map (am_cv ad)))
def am_MS (l : Launch) (xs : Nat → Int32) (L n : Nat) : Prop := ∀ (k : Nat) (mi : am_MI) (d mc ms : Nat) (as : List Value) (h : am_AH) (QQ : am_O → am_AH → Prop), am_pg[k]? = some mi → am_methOk mi = true → (am_args as).length ≤ mi.1.2.2.2.1 → am_w xs L n d k mc ms (0, am_ent as mi.1.2.2.2.1, [], h, 0, 0) QQ →
  ∀ (ad : Nat → Nat) (ca : Nat → ClassId) (sz : Nat) (D : va_G) (tt : Nat → Nat), vx_Met l mi.1.2.1 (am_ws0 mi) (am_rm d mc ms) (am_Pc D tt xs L as ad ca h sz) (am_Qc D tt ad ca h sz QQ) (am_XC D tt ad ca h sz QQ) mc ms (va_A (am_ws ad ca h) sz)
theorem am_lookup {α : Type} {a : Nat} {b : α} : ∀ {l : List (Nat × α)}, l.lookup a = some b → (a, b) ∈ l
  | [], h => by cases h
  | (x, y) :: r, h => by
    rw [List.lookup_cons] at h
    split at h
    · next hx =>
      cases h
      rw [eq_of_beq hx]
      exact List.mem_cons_self ..
    · exact List.mem_cons_of_mem _ (am_lookup h)
theorem am_sw_only {xs : Nat → Int32} {L : Nat} {i : Instr} {au : List Nat} {lc st : List Value} {h : am_AH} {ret : Option FieldType} (hi : am_isSw i = true) : am_ar i st = none ∧ am_ld i lc = none ∧ am_sto i lc st = none ∧ am_hp xs L i au st h = none ∧ am_sp i au st h = none ∧ am_cl1 i au st = none ∧ am_rt ret i st = none ∧ am_al i au lc st h = none := by
  cases i <;> first | exact ⟨rfl, rfl, rfl, rfl, rfl, rfl, rfl, rfl⟩ | cases hi
theorem am_goodIn {w0 : Cond} (h : w0 ∈ am_gw) : GoodIn am_gw (w0 :: am_gw) := fun w hw => by
  rcases List.mem_cons.mp hw with rfl | h2
  · exact ⟨h, good_of_word (List.mem_filter.mp h).2⟩
  · exact ⟨h2, good_of_word (List.mem_filter.mp h2).2⟩
set_option maxRecDepth 20000 in
theorem am_room_le {a d r : Nat} (h : a + 19 ≤ 64) (h2 : 64 * d + 576 ≤ r) : 8 + (a + 11) + (64 * d + 512) ≤ r := by omega
theorem am_rcv1 {mi : am_MI} {as : List Value} {h : am_AH} (hk : mi.2.1.1 = 1) (h0 : am_rcv mi as h = true) : ∃ (a : Nat) (as' : List Value) (ci : Nat) (fs : List Value) (q : String × List (String × String × String × Bool)), as = .ref a :: as' ∧ h[a]? = some (.inr (ci, fs)) ∧ am_cls[ci]? = some q ∧ q.1 = mi.1.1 := by
  unfold am_rcv at h0
  split at h0
  · next e => rw [hk] at e; cases e
  · split at h0
    · next a as' =>
      split at h0
      · next ci fs ha =>
        split at h0
        · next q hq => exact ⟨a, as', ci, fs, q, rfl, ha, hq, by simpa using h0⟩
        · cases h0
      · cases h0
    · cases h0
  · next e1 e2 => exact absurd hk e2
theorem am_rcv2 {mi : am_MI} {as : List Value} {h : am_AH} (hk : mi.2.1.1 = 2) (h0 : am_rcv mi as h = true) : ∃ (a : Nat) (as' : List Value), as = .ref a :: as' := by
  unfold am_rcv at h0
  split at h0
  · next e => rw [hk] at e; cases e
  · next e => rw [hk] at e; cases e
  · split at h0
    · next a as' => exact ⟨a, as', rfl⟩
    · cases h0
section AMR
variable {p : Program} {l : Launch} {e : Env} {R : Room} {s : State} {m : MethodId} {args : Array Value} {below : List Frame} {meth : Method} {c : Code} {H : Heap} {locs : List Loc} {cells slots : Nat} {Q : State → Prop}
variable {pc : Nat} {ls : Array Slot} {D : va_G} {A : Nat → Prop} {tt : Nat → Nat} {xs : Nat → Int32} {L : Nat} {ca : Nat → ClassId}
set_option maxHeartbeats 4000000 in
theorem am_runs {mi mi' : am_MI} {i : Instr} {k n j nest d mc ms : Nat} {hq : List Nat} {as r st : List Value} {h : am_AH} {ad : Nat → Nat} {Pc : Array Value → State → Prop} {Qc : Array Value → State → Outcome → State → Prop} {XC : String → State → State → Prop} {free : Addr → Prop}
    (hx : p.tables.exec = Jvm.exec) (hb : c.code = mi.1.2.2.1) (hml : c.maxLocals = mi.1.2.2.2.1) (hown : s.vm.findClass mi.1.1 = some m.cls) (hts : ∀ w ∈ am_gw, w.before args s = true) (hxw : ∀ w ∈ am_xw, va_Nw w s) (hK : va_K D am_cl [] s) (hP : va_P D am_cl (am_ws ad ca h) H)
    (hM : vx_Met l mi'.1.2.1 (am_ws0 mi') (am_rm d mc ms) Pc Qc XC mc ms free) (hbl : FrameBlind Pc) (hpc : ∀ U : State, U.heap = H → s.WarmedH U.vm → Pc (as.map (am_cv ad)).toArray U) (hrcv : am_rcv mi' as h = true) (hmeth : am_methOk mi' = true) (hpg : am_pg[k]? = some mi') (hcall : am_callOk mi pc i (k :: n :: j :: nest :: hq) = true)
    (hdec : decode mi.1.2.2.1 pc = .ok (i, 3)) (hlen : as.length = n) (hst : st = as.reverse ++ r) (hcat : (r.map fun v => v.category).sum ≤ 8) (hsize : ls.size = mi.1.2.2.2.1) (hf : cells + mc ≤ R.cells ∧ slots + ms ≤ R.slots) (hR : d + 9 ≤ R.frames ∧ 64 * d + 576 ≤ R.locals) :
    vx_Run p l e R s m args below meth c H locs cells slots mc ms (F0 m pc ls (st.map (am_cv ad))) (r.map (am_cv ad)) (Qc (as.map (am_cv ad)).toArray) XC free := by
  have S : CallFix p m c mi.1.2.2.1 mi.1.2.2.2.1 s args am_gw mi.1.1 := ⟨hx, hb, hml, hown, hts⟩
  have hW : 2 * (F0 m pc ls (st.map (am_cv ad))).monitorRoom + ((r.map (am_cv ad)).map fun v => v.category).sum ≤ 8 := by rw [am_cats]; show 2 * 0 + _ ≤ 8; omega
  have hstm : st.map (am_cv ad) = (as.map (am_cv ad)).reverse ++ r.map (am_cv ad) := by rw [hst, List.map_append, List.map_reverse]
  unfold am_methOk at hmeth
  split at hmeth
  · next jc jk js ji hjs =>
    simp only [Bool.and_eq_true] at hmeth
    obtain ⟨m1, m2, m3, m4, m5, m6, m7, m8, m9⟩ := hmeth
    have hini : (Cond.initialized mi'.1.2.1.cls).before args s = true := hts _ (am_wdI m3)
    have hd : mi'.1.2.1.cls ≠ "java/lang/invoke/MethodHandle" ∧ mi'.1.2.1.cls ≠ "java/lang/invoke/VarHandle" ∧ (parseMethodDescriptor mi'.1.2.1.desc).map (fun d => d.parameters.length) = some mi'.2.1.2.1 := by
      refine ⟨fun q => by rw [q] at m6; simp at m6, fun q => by rw [q] at m7; simp at m7, by simpa using m8⟩
    have hnl : mi'.1.2.2.2.1 + 19 ≤ 64 := of_decide_eq_true m9
    have hRR : (am_rm d mc ms).frames + 1 ≤ R.frames ∧ 8 + (mi'.1.2.2.2.1 + 11) + (am_rm d mc ms).locals ≤ R.locals := by
      exact ⟨hR.1, am_room_le hnl hR.2⟩
    unfold am_callOk at hcall
    dsimp only at hcall
    rw [hpg] at hcall
    dsimp only at hcall
    rw [Bool.and_eq_true, Bool.and_eq_true] at hcall
    obtain ⟨-, c1, -⟩ := hcall
    split at c1
    · next idx hkind =>
      rw [hkind] at m2
      simp only [Bool.and_eq_true, beq_iff_eq] at c1
      obtain ⟨-, hn, c2⟩ := c1
      cases hh : mi'.2.1.2.2.2 with
      | nil =>
        rw [hh] at m1
        have hws : am_ws0 mi' = Cond.code mi'.1.2.1 mi'.1.2.2.1 mi'.1.2.2.2.1 mi'.1.2.2.2.2 :: am_gw := by unfold am_ws0; rw [hh]
        exact vx_runS S hM ⟨callB_of mi'.2.1.2.1 hts (by rw [hws]; exact am_goodIn (am_wdI m1)) hws rfl rfl hini (hts _ (am_wdI c2)) hd hRR, hts _ (am_wdI m2)⟩ ⟨hbl, hpc⟩ rfl (by rw [List.length_map, hlen, hn]) hsize hstm hW hdec hf
      | cons q0 qs =>
        rw [hh] at m1
        have hws : am_ws0 mi' = Cond.codeWith mi'.1.2.1 mi'.1.2.2.1 mi'.1.2.2.2.1 mi'.1.2.2.2.2 (q0 :: qs) :: am_gw := by unfold am_ws0; rw [hh]
        have hGI : GoodIn am_gw (va_wsS mi.1.1 idx mi'.1.2.1 (am_ws0 mi')) := by
          unfold va_wsS
          intro w hw
          rcases List.mem_append.mp hw with h1 | h1
          · have hin : w ∈ am_gw := by
              simp only [List.mem_cons, List.not_mem_nil, or_false] at h1
              rcases h1 with rfl | rfl | rfl
              · exact am_wdI c2
              · exact am_wdI m2
              · exact am_wdI m3
            exact ⟨hin, good_of_word (List.mem_filter.mp hin).2⟩
          · rw [hws] at h1
            exact am_goodIn (am_wdI m1) w h1
        exact vx_runSX S hM (vx_cwSW mi'.2.1.2.1 hts hGI hws rfl rfl hd hRR) ⟨hbl, hpc⟩ rfl (by rw [List.length_map, hlen, hn]) hsize hstm hW hdec hf
    · next idx hkind =>
      rw [hkind] at m2
      simp only [Bool.and_eq_true, beq_iff_eq] at c1
      obtain ⟨-, hn, c2⟩ := c1
      simp only [Bool.and_eq_true] at m2
      obtain ⟨m2, ms2, mh⟩ := m2
      have hh : mi'.2.1.2.2.2 = [] := of_decide_eq_true mh
      rw [hh] at m1
      have hws : am_ws0 mi' = Cond.code mi'.1.2.1 mi'.1.2.2.1 mi'.1.2.2.2.1 mi'.1.2.2.2.2 :: am_gw := by unfold am_ws0; rw [hh]
      obtain ⟨a, as', ci, fs, q, rfl, ha, hq1, hrcv⟩ := am_rcv1 hkind hrcv
      have hqc : q.1 = mi'.1.2.1.cls := by
        have h2 : mi'.1.2.1.cls = mi'.1.1 := by simpa using m5
        rw [hrcv, h2]
      have hrec := va_recv hK hP (am_cl_at hq1) (am_ws_of ha)
      rw [show (q.1, am_TT q.2, q.2.length).1 = mi'.1.2.1.cls from hqc] at hrec
      exact vx_runV (As := as'.map (am_cv ad)) (b := ad a) S hM ⟨callB_of mi'.2.1.2.1 hts (by rw [hws]; exact am_goodIn (am_wdI m1)) hws rfl rfl hini (hts _ (am_wdI c2)) hd hRR, hts _ (am_wdI m2), hts _ (am_wdI ms2)⟩ ⟨hbl, hrec, hpc⟩ rfl (by rw [List.length_map]; simp at hlen; omega) hsize (by rw [show (F0 m pc ls (st.map (am_cv ad))).stack = st.map (am_cv ad) from rfl, hstm]; simp [am_cv]) hW hdec hf
    · next idx hkind =>
      rw [hkind] at m2
      simp only [Bool.and_eq_true, beq_iff_eq] at c1
      obtain ⟨hn, c2⟩ := c1
      simp only [Bool.and_eq_true] at m2
      obtain ⟨m2, mn, mr, mh⟩ := m2
      have hh : mi'.2.1.2.2.2 = [] := of_decide_eq_true mh
      have hret : mi'.1.2.2.2.2 = none := of_decide_eq_true mr
      have hnm : mi'.1.2.1.name = "<init>" := by simpa using mn
      rw [hh] at m1
      rw [hret] at m1
      have hws : am_ws0 mi' = Cond.code mi'.1.2.1 mi'.1.2.2.1 mi'.1.2.2.2.1 none :: am_gw := by unfold am_ws0; rw [hh, hret]
      obtain ⟨a, as', rfl⟩ := am_rcv2 hkind hrcv
      split at c2
      · next hne =>
        exact vx_runI (As := as'.map (am_cv ad)) (b := ad a) S hM ⟨callB_of mi'.2.1.2.1 hts (by rw [hws]; exact am_goodIn (am_wdI m1)) hws rfl rfl hini (hts _ (am_wdI c2)) hd hRR, hnm, hts _ (am_wdI m2)⟩ ⟨hbl, hpc⟩ rfl (by rw [List.length_map]; simp at hlen; omega) hsize (by rw [show (F0 m pc ls (st.map (am_cv ad))).stack = st.map (am_cv ad) from rfl, hstm]; simp [am_cv]) hW hdec hf
      · next hne =>
        exact vx_runIN (As := as'.map (am_cv ad)) (b := ad a) (host := "ClockDominoes") S hM ⟨va_cnB mi'.2.1.2.1 hts (by rw [hws]; exact am_goodIn (am_wdI m1)) hws rfl rfl (hxw _ (am_xdI c2)) hini hd hRR, hnm, hts _ (am_wdI m2)⟩ ⟨hbl, hpc⟩ rfl (by rw [List.length_map]; simp at hlen; omega) hsize (by rw [show (F0 m pc ls (st.map (am_cv ad))).stack = st.map (am_cv ad) from rfl, hstm]; simp [am_cv]) hW hdec hf
    · cases c1
  · cases hmeth
end AMR

section AMT
variable {p : Program} {l : Launch} {e : Env} {R : Room} {s : State} {m : MethodId} {args : Array Value} {below : List Frame} {meth : Method} {c : Code} {H : Heap} {locs : List Loc} {cells slots : Nat} {Q : State → Prop}
variable {pc : Nat} {ls : Array Slot} {D : va_G} {A : Nat → Prop} {tt : Nat → Nat} {xs : Nat → Int32} {L : Nat} {ca : Nat → ClassId}
theorem am_cv_ag {ad ad' : Nat → Nat} {h h' : am_AH} (ha : am_ag ad h ad' h') {lc : List Value} (hs : h'.length = h.length ∨ am_scp h.length lc = true) : ∀ v ∈ lc, am_cv ad' v = am_cv ad v := by
  intro v hv
  rcases hs with hs | hs
  · rw [ha.2.2 hs]
  · unfold am_scp at hs
    have h1 := List.all_eq_true.mp hs v hv
    cases v <;> try rfl
    next a =>
      simp at h1
      show Value.ref _ = Value.ref _
      rw [ha.2.1 a h1]
theorem am_lr_putX {ls' : Array Slot} {nL i : Nat} {ad : Nat → Nat} {lc : List Value} {v : Value} (hn : lc.length = nL) (h : lv_has ls' nL ((i, v) :: (am_lvl ad lc).filter (fun q => !(q.1 == i) && !(q.1 + 1 == i && q.2.category == 2)))) : am_lr ls' nL ad (am_put lc i am_dead) := by
  refine ⟨h.1, by rw [am_put_len]; exact hn, h.2.1, fun j w hw hd => ?_⟩
  rcases am_put_at hw hd with ⟨rfl, rfl⟩ | ⟨h1, h2, h3, -⟩
  · exact absurd rfl hd
  · refine h.2.2 (j, am_cv ad w) (List.mem_cons_of_mem _ (List.mem_filter.mpr ⟨am_lvl_mem.mpr ⟨w, h2, hd, rfl⟩, ?_⟩))
    simp only [am_cv_cat]
    simp only [Bool.and_eq_true, Bool.not_eq_true', beq_eq_false_iff_ne, ne_eq, Bool.and_eq_false_iff]
    refine ⟨h1, ?_⟩
    by_cases q : j + 1 = i
    · exact Or.inr fun z => h3 ⟨q, z⟩
    · exact Or.inl q
/-- the store of what was caught -/
theorem am_astoreW {cc : ByteArray} (hx : p.tables.exec = Jvm.exec) (hb : c.code = cc) {ad : Nat → Nat} {lc : List Value} {hp pn i nL q : Nat} (ha : am_astore cc hp pn i = true) (hl : am_lr ls nL ad lc) (hi : i < lc.length) (k : ∀ ls', am_lr ls' nL ad (am_put lc i am_dead) → W p l e R s m args below meth c H locs cells slots Q (F0 m pn ls' [])) : W p l e R s m args below meth c H locs cells slots Q (F0 m hp ls [.ref q]) := by
  have hh := am_lr_has hl
  have hn := hl.2.1
  unfold am_astore at ha
  split at ha
  · next j hd =>
    simp only [Bool.and_eq_true, beq_iff_eq] at ha
    obtain ⟨rfl, rfl⟩ := ha
    exact lv_astore hx hb hd hh (hn ▸ hi) rfl fun ls' h' => k ls' (am_lr_putX hn h')
  · next j hd =>
    simp only [Bool.and_eq_true, beq_iff_eq] at ha
    obtain ⟨rfl, rfl⟩ := ha
    exact lv_astore_n hx hb hd rfl hh (hn ▸ hi) rfl fun ls' h' => k ls' (am_lr_putX hn h')
  · cases ha
/-- the handler that is found -/
theorem am_hqS {own : String} {cc : ByteArray} {E p i : Nat} : ∀ {hh : List (Nat × Nat × Nat × Nat)} {hq : List Nat}, am_hqOk own cc pc hh hq = true → am_hd hq E = some (p, i) → ∃ (pre : List (Nat × Nat × Nat × Nat)) (x : Nat × Nat × Nat × Nat) (suf : List (Nat × Nat × Nat × Nat)), hh = pre ++ x :: suf ∧
    (∀ z ∈ pre, z.2.2.2 ≠ 0 ∧ ∃ E' : Nat, 1 ≤ E' ∧ E' ≤ 3 ∧ E' ≠ E ∧ Cond.classLink own z.2.2.2 (am_exn E') ∈ am_gw) ∧ x.1 ≤ pc ∧ pc < x.2.1 ∧ x.2.2.2 ≠ 0 ∧ Cond.classLink own x.2.2.2 (am_exn E) ∈ am_gw ∧ am_astore cc x.2.2.1 p i = true
  | [], [], _, h => by cases h
  | [], _ :: _, h, _ => by unfold am_hqOk at h; cases h
  | _ :: _, [], _, h => by cases h
  | _ :: _, [_], h, _ => by unfold am_hqOk at h; cases h
  | _ :: _, [_, _], h, _ => by unfold am_hqOk at h; cases h
  | _ :: _, [_, _, _], h, _ => by unfold am_hqOk at h; cases h
  | (s0, e0, h0, ct) :: r, E0 :: p0 :: i0 :: h' :: q, hok, hd => by
    unfold am_hqOk at hok
    simp only [Bool.and_eq_true, decide_eq_true_eq, beq_iff_eq, Bool.not_eq_true', beq_eq_false_iff_ne, List.contains_iff_mem] at hok
    obtain ⟨⟨rfl, a1, a2, a3, a4, a5, a6, a7⟩, hr⟩ := hok
    unfold am_hd at hd
    by_cases hE : E0 = E
    · rw [if_pos hE] at hd
      cases hd
      subst hE
      exact ⟨[], _, r, rfl, fun z hz => (by cases hz), a1, a2, a3, a6, a7⟩
    · rw [if_neg hE] at hd
      obtain ⟨pre, x, suf, b1, b2, b3⟩ := am_hqS hr hd
      refine ⟨(s0, e0, h0, ct) :: pre, x, suf, by rw [b1]; rfl, fun z hz => ?_, b3⟩
      rcases List.mem_cons.mp hz with rfl | hz
      · exact ⟨a3, E0, a4, a5, hE, a6⟩
      · exact b2 z hz
end AMT
