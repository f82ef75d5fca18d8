/-! the abstract machine over the machine itself: the induction -/
theorem am_hp_len {xs : Nat → Int32} {L : Nat} {i : Instr} {au : List Nat} {st st' : List Value} {h h' : am_AH} {C : Prop} {n : Nat} (hh : am_hp xs L i au st h = some (C, n, st', h')) : h'.length = h.length := by
  unfold am_hp at hh
  repeat' split at hh
  all_goals first | (cases hh; rfl) | (cases hh; exact List.length_set) | cases hh
theorem am_sp_len {i : Instr} {au : List Nat} {st st' : List Value} {h h' : am_AH} {C : Prop} {n : Nat} (hh : am_sp i au st h = some (C, n, st', h')) : h'.length = h.length := by
  unfold am_sp at hh
  repeat' split at hh
  all_goals first | (cases hh; rfl) | (cases hh; exact List.length_set) | cases hh
theorem am_sp_ok {own : String} {i : Instr} {au : List Nat} {st : List Value} {h : am_AH} {x : Prop × Nat × List Value × am_AH} (h5 : au = [9999] ∨ ((am_isInv i = true ∧ am_spLike au = false) ∨ am_spOk own i au = true)) (hh : am_sp i au st h = some x) : am_spOk own i au = true := by
  rcases h5 with rfl | ⟨h1, h2⟩ | h1
  · exfalso
    unfold am_sp at hh
    split at hh <;> simp at hh
  · exfalso
    unfold am_sp at hh
    split at hh
    · split at hh
      · cases h2
      · cases h2
      · cases h2
      · cases hh
    · split at hh
      · cases h2
      · cases hh
    · cases h1
    · cases h1
    · cases h1
    · cases hh
  · exact h1
theorem am_cl_ok {mi : am_MI} {pc : Nat} {i : Instr} {au : List Nat} {st as r : List Value} {k : Nat} (h6 : au = [9999] ∨ (am_isInv i = false ∨ (am_spLike au = true ∨ am_callOk mi pc i au = true))) (hh : am_cl1 i au st = some (k, as, r)) :
    ∃ (n j nest : Nat) (hq : List Nat), au = k :: n :: j :: nest :: hq ∧ am_callOk mi pc i (k :: n :: j :: nest :: hq) = true ∧ as.length = n ∧ st = as.reverse ++ r ∧ (r.map fun v => v.category).sum ≤ 8 ∧ am_isInv i = true := by
  have key : ∀ (hi : am_isInv i = true) (k0 n j : Nat) (rest : List Nat), au = k0 :: n :: j :: rest → (if k0 < 1000 ∧ n ≤ st.length ∧ ((st.drop n).map fun v => v.category).sum ≤ 8 then some (k0, (st.take n).reverse, st.drop n) else none) = some (k, as, r) → ∃ (n j nest : Nat) (hq : List Nat), au = k :: n :: j :: nest :: hq ∧ am_callOk mi pc i (k :: n :: j :: nest :: hq) = true ∧ as.length = n ∧ st = as.reverse ++ r ∧ (r.map fun v => v.category).sum ≤ 8 ∧ am_isInv i = true := by
    intro hi k0 n j rest hau h9
    split at h9
    · next hc =>
      cases h9
      obtain ⟨c1, c2, c3⟩ := hc
      rcases h6 with h6 | h6 | h6 | h6
      · rw [hau] at h6; cases h6
      · rw [hi] at h6; cases h6
      · exfalso
        rw [hau] at h6
        unfold am_spLike at h6
        split at h6
        · next e => cases e; omega
        · next e => cases e; omega
        · next e => cases e; omega
        · next e => cases e; omega
        · cases h6
      · cases rest with
        | nil => rw [hau] at h6; unfold am_callOk at h6; cases h6
        | cons nest hq =>
          refine ⟨n, j, nest, hq, hau, by rw [← hau]; exact h6, by simp; omega, by rw [List.reverse_reverse, List.take_append_drop], c3, hi⟩
    · cases h9
  unfold am_cl1 at hh
  split at hh
  · split at hh
    · exact key rfl _ _ _ _ rfl hh
    · cases hh
  · split at hh
    · exact key rfl _ _ _ _ rfl hh
    · cases hh
  · split at hh
    · exact key rfl _ _ _ _ rfl hh
    · cases hh
  · cases hh
theorem am_al_ok {own : String} {mi : am_MI} {pc : Nat} {i : Instr} {au : List Nat} {lc st : List Value} {h : am_AH} {x : Prop × Nat × List Value × am_AH × Nat} (h7 : (au.headD 0 = 9 ∧ am_thOk mi pc i au = true) ∨ am_alOk own i au = true) (hh : am_al i au lc st h = some x) : am_alOk own i au = true := by
  rcases h7 with ⟨h1, -⟩ | h1
  · exfalso
    unfold am_al at hh
    split at hh
    · split at hh
      · cases h1
      · cases hh
    · split at hh
      · split at hh
        · cases h1
        · cases h1
        · cases h1
        · cases hh
      · cases hh
    · split at hh
      · cases h1
      · cases hh
    · cases hh
  · exact h1
theorem am_inv_len {i : Instr} (h : am_isInv i = true) : am_lenOf i = 3 := by
  cases i <;> first | rfl | cases h
theorem am_th_inv {i : Instr} {au : List Nat} {P : Prop} {X : Prop × am_ST} (h : (match i, au with
  | .new _, 9 :: E :: _ => some (P, (.inr (.inr (.inr E)) : am_ST))
  | _, _ => none) = some X) : ∃ (idx E : Nat) (rest : List Nat), i = .new idx ∧ au = 9 :: E :: rest ∧ (P, (.inr (.inr (.inr E)) : am_ST)) = X := by
  split at h
  · exact ⟨_, _, _, rfl, rfl, Option.some.inj h⟩
  · cases h
section AMU
variable {p : Program} {l : Launch} {e : Env} {R : Room} {s : State} {m : MethodId} {args : Array Value} {below : List Frame} {meth : Method} {c : Code} {H : Heap} {locs : List Loc} {cells slots : Nat} {Q : State → Prop}
variable {pc : Nat} {ls : Array Slot} {D : va_G} {A : Nat → Prop} {tt : Nat → Nat} {xs : Nat → Int32} {L : Nat} {ca : Nat → ClassId}
set_option maxHeartbeats 4000000 in
theorem am_fs_succ {n : Nat} (hall : am_allOk) (hFS : am_FS l xs L n) (hMS : am_MS l xs L n) : am_FS l xs L (n + 1) := by
  obtain ⟨hcls, hgl, hpg, hex⟩ := hall
  intro p e R s m args below meth c k mi D A tt d mc ms Q0 QQ ad0 h0 hk hF hret hthr hexc pc lc st h cells slots ls H locs ad ca hw hcc hss hlr hI hag
  have ih := hFS p e R s m args below meth c k mi D A tt d mc ms Q0 QQ ad0 h0 hk hF hret hthr hexc
  obtain ⟨⟨hx, hb, hml, hr, hin, hown, hts⟩, htab, ⟨hK, hZ, hX⟩, hA, hRf, hRl, hRc, hRs⟩ := id hF
  rw [am_w, hk] at hw
  dsimp only at hw
  split at hw
  · exact hw.elim
  next ai hai =>
  have hrow := (hpg k mi hk).1 _ (am_lookup hai)
  obtain ⟨i, len, au⟩ := ai
  unfold am_rowOk at hrow
  dsimp only at hrow
  rw [Bool.and_eq_true, Bool.and_eq_true, Bool.and_eq_true, Bool.and_eq_true, Bool.and_eq_true, Bool.and_eq_true] at hrow
  obtain ⟨r1, r2, r3, r4, r5, r6, r7⟩ := hrow
  replace r1 := of_decide_eq_true r1
  have r2 : am_isSw i = true ∨ len = am_lenOf i := by simpa using r2
  have r5 : au = [9999] ∨ ((am_isInv i = true ∧ am_spLike au = false) ∨ am_spOk mi.1.1 i au = true) := by simpa using r5
  have r6 : au = [9999] ∨ (am_isInv i = false ∨ (am_spLike au = true ∨ am_callOk mi pc i au = true)) := by simpa using r6
  have r7 : (au.headD 0 = 9 ∧ am_thOk mi pc i au = true) ∨ am_alOk mi.1.1 i au = true := by
    rw [Bool.or_eq_true, Bool.and_eq_true, beq_iff_eq] at r7; exact r7
  have sw := fun q => am_sw_only (xs := xs) (L := L) (i := i) (au := au) (lc := lc) (st := st) (h := h) (ret := mi.1.2.2.2.2) q
  have hRf8 : 8 ≤ R.frames := Nat.le_trans (Nat.le_add_left 8 d) hRf
  have hRl5 : 512 ≤ R.locals := Nat.le_trans (Nat.le_add_left 512 (64 * d)) hRl
  cases hst : am_step xs L mc ms mi.1.2.2.2.2 (i, len, au) pc lc st h cells slots with
  | none => rw [hst] at hw; exact hw.elim
  | some Cr =>
    rw [hst] at hw
    unfold am_step at hst
    dsimp only at hst
    split at hst
    · next C st' he =>
      cases hst
      obtain ⟨w1, w2⟩ := hw
      have hlen := r2.resolve_left (fun q => by rw [(sw q).1] at he; cases he)
      exact am_arW hx hb ad r1 hlen he w1 (ih _ _ _ _ _ _ _ _ _ _ _ w2 hcc hss hlr hI hag)
    split at hst
    · next nn v he =>
      cases hst
      obtain ⟨w1, w2⟩ := hw
      have hlen := r2.resolve_left (fun q => by rw [(sw q).2.1] at he; cases he)
      exact am_ldW hx hb ad r1 hlen hlr he (ih _ _ _ _ _ _ _ _ _ _ _ w2 hcc hss hlr hI hag)
    split at hst
    · next nn lc' st' he =>
      cases hst
      obtain ⟨w1, w2⟩ := hw
      have hlen := r2.resolve_left (fun q => by rw [(sw q).2.2.1] at he; cases he)
      exact am_stoW hx hb ad r1 hlen hlr he (fun ls' hlr' => ih _ _ _ _ _ _ _ _ _ _ _ w2 hcc hss hlr' hI hag)
    split at hst
    · next pc' st' he =>
      cases hst
      obtain ⟨w1, w2⟩ := hw
      exact am_brW hx hb ad r1 (fun q => r2.resolve_left (fun z => by rw [q] at z; cases z)) r3 he (ih _ _ _ _ _ _ _ _ _ _ _ w2 hcc hss hlr hI hag)
    split at hst
    · next C nn st' h' he =>
      cases hst
      obtain ⟨w1, w2⟩ := hw
      have hlen := r2.resolve_left (fun q => by rw [(sw q).2.2.2.1] at he; cases he)
      exact am_hpW hx hb hcls hts hown hin hK hI hZ r1 hlen r4 he w1 (fun H' locs' hI' => ih _ _ _ _ _ _ _ _ _ _ _ w2 hcc hss hlr hI' (hag.same (am_hp_len he)))
    split at hst
    · next C nn st' h' he =>
      cases hst
      obtain ⟨w1, w2⟩ := hw
      have hlen := r2.resolve_left (fun q => by rw [(sw q).2.2.2.2.1] at he; cases he)
      exact am_spW hx hb hgl hts hown (hml.trans hlr.1.symm) hRf8 hRl5 (Nat.le_trans hcc hRc) (Nat.le_trans hss hRs) hK hI r1 hlen (am_sp_ok r5 he) he w1 (fun H' locs' hI' => ih _ _ _ _ _ _ _ _ _ _ _ w2 hcc hss hlr hI' (hag.same (am_sp_len he)))
    split at hst
    · next k' as r he =>
      cases hst
      obtain ⟨w1, d', mc', ms', mi', rfl, hc', hs', hk', hal, hrcv, hw2⟩ := hw
      have hlen := r2.resolve_left (fun q => by rw [(sw q).2.2.2.2.2.1] at he; cases he)
      obtain ⟨na, j, nest, hq, rfl, hcall, hna, hst2, hcat, hinv⟩ := am_cl_ok r6 he
      rw [am_inv_len hinv] at hlen
      subst hlen
      have hcall2 := hcall
      unfold am_callOk at hcall2
      dsimp only at hcall2
      rw [hk'] at hcall2
      dsimp only at hcall2
      rw [Bool.and_eq_true, Bool.and_eq_true] at hcall2
      obtain ⟨g1, -, g3⟩ := hcall2
      have hmeth' : am_methOk mi' = true := (hpg k' mi' hk').2 (fun q => by rw [q] at g1; simp at g1)
      obtain ⟨hP, hD, hS, hKA, hle, htt⟩ := id hI
      have hM := hMS k' mi' d' mc' ms' as h _ hk' hmeth' hal hw2 ad ca H.size D tt
      have hF1 : ∀ q, va_A (am_ws ad ca h) H.size q → A q := by
        intro q hq
        rcases hq with ⟨j, e, hj⟩ | hq
        · exact hD.2 j _ hj
        · exact hA q (Nat.le_trans hS.1 hq)
      have hpc : ∀ U : State, U.heap = H → s.WarmedH U.vm → am_Pc D tt xs L as ad ca h H.size (as.map (am_cv ad)).toArray U := by
        intro U hU hW
        refine ⟨rfl, by rw [hU], ⟨by rw [hU]; exact hP, hD.self, hKA.moved hW.alike, hle, htt⟩, va_K.moved hW.alike hK, ?_, ?_⟩
        · exact hZ.move hW (by rw [hU]; exact hS.1) (by rw [hU]; exact hS.2.1) hF1
        · exact hX.move hW (by rw [hU]; exact hS.2.1) hF1
      have hrun := am_runs (e := e) (below := below) (meth := meth) (locs := locs) (st := st) (r := r) hx hb hml hown hts hX.1 hK hP hM am_blind hpc hrcv hmeth' hk' hcall r1 hna hst2 hcat hlr.1 ⟨Nat.le_trans hc' hRc, Nat.le_trans hs' hRs⟩ ⟨by rw [show d' + 9 = d' + 1 + 8 by omega]; exact hRf, by rw [show 64 * d' + 576 = 64 * (d' + 1) + 512 by omega]; exact hRl⟩
      refine am_call hrun hS (fun q _ h9 => hF1 q h9) hF1 (fun st9 v9 t9 h9 => h9.2) (fun E9 st9 t9 h9 => h9.2) (fun E ce q9 st9 t H1 locs1 hst9 ht hvm hXC hS1 hce hcv hcl => ?_) (fun v st9 t H1 locs1 hst9 ht hvm hQ hS1 => ?_)
      · obtain ⟨⟨ad', ca', h', En, l1, l3, rfl, hag', hQ, hB⟩, -⟩ := hXC
        obtain ⟨b1, b2, b3, b4, b5⟩ := hB
        rw [ht] at b1
        have hI' : am_I D A tt s s.heap H1 locs1 ad' ca' h' := ⟨b1, b2.weaken (fun _ q _ h9 => hF1 _ h9), hS1, b3.moved hvm.symm, b4, b5⟩
        dsimp only at hQ
        rw [show (k' :: na :: j :: nest :: hq).drop 4 = hq from rfl] at hQ
        cases hhd : am_hd hq En with
        | none =>
          rw [hhd] at hQ
          obtain ⟨rfl, hQ⟩ := hQ
          exact hexc pc ls H1 locs1 _ _ _ ad' ca' h' En ce q9 hc' hs' hI' (hag.tr hag') g3 l1 l3 hce hcv hcl hQ
        | some pi =>
          obtain ⟨pn, il⟩ := pi
          rw [hhd] at hQ
          obtain ⟨hil, hsc, hw3⟩ := hQ
          have g4 : am_hqOk mi.1.1 mi.1.2.2.1 pc mi.2.1.2.2.2 hq = true := by
            cases hq with
            | nil => cases hhd
            | cons a b => exact g3
          obtain ⟨pre, x, suf, e1, e2, e3, e4, e5, e6, e7⟩ := am_hqS g4 hhd
          have htb : c.exceptionTable.toList = tableOf pre ++ ⟨x.1, x.2.1, x.2.2.1, x.2.2.2⟩ :: tableOf suf := by
            rw [htab (by rw [e1]; simp), e1]
            unfold tableOf
            rw [List.map_append, List.map_cons]
          refine vx_catch hown (tableOf pre) ⟨x.1, x.2.1, x.2.2.1, x.2.2.2⟩ (tableOf suf) htb (fun z hz => ?_) ?_ e5 (hts _ e6) (va_Nw.use rfl (hX.1 _ (hex En l1 l3).2.2.2)) hce hcv hcl ?_
          · unfold tableOf at hz
            obtain ⟨z0, hz0, rfl⟩ := List.mem_map.mp hz
            obtain ⟨f1, E', f2, f3, f4, f5⟩ := e2 z0 hz0
            exact Or.inr ⟨f1, _, hts _ f5, hX.2.2.2.1 ⟨k, mi, hk, by rw [e1]; simp⟩ En E' l1 l3 f2 f3 (fun q => f4 q.symm)⟩
          · show (decide (x.1 ≤ pc) && decide (pc < x.2.1)) = true
            simp [e3, e4]
          · refine am_astoreW hx hb e7 (am_lr_moved hlr (am_cv_ag hag' hsc)) hil (fun ls' hlr' => ?_)
            exact ih _ _ _ _ _ _ _ _ _ _ _ hw3 hc' hs' hlr' hI' (hag.tr hag')
      · obtain ⟨⟨ad', ca', h', v', hv, hag', ⟨hsc, hw3⟩, hB⟩, -⟩ := hQ
        obtain ⟨b1, b2, b3, b4, b5⟩ := hB
        rw [ht] at b1
        have hI' : am_I D A tt s s.heap H1 locs1 ad' ca' h' := ⟨b1, b2.weaken (fun _ q _ h9 => hF1 _ h9), hS1, b3.moved hvm.symm, b4, b5⟩
        cases hv
        have hsl : h'.length = h.length ∨ am_scp h.length lc = true := hsc.imp id (fun q => by rw [Bool.and_eq_true] at q; exact q.1)
        have hsr : h'.length = h.length ∨ am_scp h.length r = true := hsc.imp id (fun q => by rw [Bool.and_eq_true] at q; exact q.2)
        have e9 : (v'.map (am_cv ad')).toList ++ r.map (am_cv ad) = (v'.toList ++ r).map (am_cv ad') := by
          rw [List.map_append]
          congr 1
          · cases v' <;> rfl
          · exact (List.map_congr_left (am_cv_ag hag' hsr)).symm
        rw [e9]
        exact ih _ _ _ _ _ _ _ _ _ _ _ hw3 hc' hs' (am_lr_moved hlr (am_cv_ag hag' hsl)) hI' (hag.tr hag')
    split at hst
    · next C v he =>
      cases hst
      obtain ⟨w1, w2⟩ := hw
      have hlen := r2.resolve_left (fun q => by rw [(sw q).2.2.2.2.2.2.1] at he; cases he)
      exact hret pc ls H locs cells slots st ad ca h i len C v hcc hss hI hag r1 hlen he w1 w2
    split at hst
    · next C nn st' h' z he =>
      cases hst
      obtain ⟨⟨w1, wc, wz⟩, w2⟩ := hw
      have hlen := r2.resolve_left (fun q => by rw [(sw q).2.2.2.2.2.2.2] at he; cases he)
      exact am_alW hx hb hcls hgl hts hown hX.2.1 hK hI hA r1 hlen (am_al_ok r7 he) he w1 (Nat.le_trans wc hRc) (Nat.le_trans wz hRs) (fun H' locs' ad' ca' hI' hag' hlv => ih _ _ _ _ _ _ _ _ _ _ _ w2 wc wz (am_lr_moved hlr hlv) hI' (hag.tr hag'))
    obtain ⟨idx, E, rest, rfl, rfl, hst⟩ := am_th_inv hst
    cases hst
    obtain ⟨⟨wc, wz, wcat⟩, w2⟩ := hw
    have hlen := r2.resolve_left (fun q => by cases q)
    have hth : am_thOk mi pc (.new idx) (9 :: E :: rest) = true := by
      rcases r7 with r7 | r7
      · exact r7.2
      · exfalso
        unfold am_alOk at r7
        dsimp only at r7
        split at r7
        · next e => cases e
        · cases r7
    subst hlen
    exact hthr pc ls H locs cells slots st ad ca h (.new idx) _ rest E rfl wc wz hlr.1 hI hag r1 hth wcat w2
theorem am_two {w : Cond} {y : MethodName} {P1 P2 : Prop} (h0 : w = .methodLink "" 0 y ∨ P1 ∨ P2) (h1 : w = .methodLink "" 1 y ∨ P1 ∨ P2) : P1 ∨ P2 := by
  rcases h0 with h0 | h0
  · rcases h1 with h1 | h1
    · rw [h0] at h1; cases h1
    · exact h1
  · exact h0
theorem am_nocovS {hh : List (Nat × Nat × Nat × Nat)} {pc : Nat} (h : am_nocov hh pc = true) : ∀ x ∈ tableOf hh, covers x pc = false := by
  intro x hx
  unfold tableOf at hx
  obtain ⟨z, hz, rfl⟩ := List.mem_map.mp hx
  have h1 := List.all_eq_true.mp h z hz
  show (decide (z.1 ≤ pc) && decide (pc < z.2.1)) = false
  rw [Bool.not_eq_true'] at h1
  exact h1
set_option maxHeartbeats 4000000 in
theorem am_ms_of {n : Nat} (hl : l.stackTraces = false) (hall : am_allOk) (hFS : am_FS l xs L n) : am_MS l xs L n := by
  obtain ⟨hcls, hgl, hpg, hex⟩ := hall
  intro k mi d mc ms as h QQ hk hmeth hlen hw ad ca sz D tt
  have hmeth0 := hmeth
  unfold am_methOk at hmeth
  split at hmeth
  case h_2 => cases hmeth
  next jc jk js ji hjs =>
  simp only [Bool.and_eq_true] at hmeth
  obtain ⟨m1, m2, m3, m4, m5, m6, m7, m8, m9⟩ := hmeth
  have hcl : mi.1.2.1.cls = mi.1.1 := by simpa using m5
  have body : ∀ (p : Program) (e : Env) (s : State) (m : MethodId) (args : Array Value) (below : List Frame) (meth : Method) (c : Code) (s₁ : State), BodyLoose p l mi.1.2.1 (headSpec (am_ws0 mi) (am_rm d mc ms)) mi.1.2.2.1 mi.1.2.2.2.1 mi.1.2.2.2.2 e s m args below meth c s₁ → c.maxLocals = mi.1.2.2.2.1 → c.exceptionTable.toList = tableOf mi.2.1.2.2.2 → am_Pc D tt xs L as ad ca h sz args s →
      W p l e (headSpec (am_ws0 mi) (am_rm d mc ms)).room s m args below meth c s.heap [] 0 0 (vx_MQ below (am_Qc D tt ad ca h sz QQ) (am_XC D tt ad ca h sz QQ) args s mc ms (va_A (am_ws ad ca h) sz)) (entryFrame m args mi.1.2.2.2.1) := by
    intro p e s m args below meth c s₁ B hml htab hv
    obtain ⟨rfl, rfl, ⟨b1, b2, b3, b4, b5⟩, hS⟩ := hv
    have hts0 := atoms_spec (ws := am_ws0 mi) B.pre
    have hts : ∀ w ∈ am_gw, w.before (as.map (am_cv ad)).toArray s = true := fun w h9 => hts0 w (by unfold am_ws0; exact List.mem_cons_of_mem _ h9)
    have hown : s.vm.findClass mi.1.1 = some m.cls := by rw [← hcl]; exact findClass_of_methodNamed B.named
    have hlocks := B.notSynchronized
    have hnm : meth.name = mi.1.2.1.name := (name_of_methodNamed B.named B.method).1
    have hb := B.bytes
    have hx := B.exec
    have hr := B.returns
    have hA : ∀ q, s.heap.size ≤ q → va_A (am_ws ad ca h) s.heap.size q := fun q h9 => Or.inr h9
    have hI : am_I D (va_A (am_ws ad ca h) s.heap.size) tt s s.heap s.heap [] ad ca h := ⟨b1, b2, va_S.rf, b3, b4, b5⟩
    have hF : am_F p (headSpec (am_ws0 mi) (am_rm d mc ms)).room s m (as.map (am_cv ad)).toArray meth c mi D (va_A (am_ws ad ca h) s.heap.size) tt xs L d mc ms :=
      ⟨⟨hx, hb, hml, hr, fun q => by rw [hnm]; exact q, hown, hts⟩, fun _ => htab, hS, hA, Nat.le_refl _, Nat.le_refl _, Nat.le_refl _, Nat.le_refl _⟩
    rw [lg_entry_eq]
    refine hFS p e _ s m _ below meth c k mi D _ tt d mc ms _ QQ ad h hk hF ?_ ?_ ?_ 0 _ [] h 0 0 _ _ [] ad ca hw (Nat.zero_le _) (Nat.zero_le _) (am_entry hlen) hI (am_ag.rf ad h)
    · intro pc ls H locs cells slots st ad1 ca1 h1 i len C v hcc hss hI1 hag hdec hlen1 hrt hC hQ
      obtain ⟨c1, c2, c3, c4, c5, c6⟩ := hI1
      exact am_rtW hx hb hr hlocks ad1 hdec hlen1 hrt hC hcc hss (fun t ht hW => ⟨⟨ad1, ca1, h1, v, rfl, hag, hQ, by rw [ht]; exact c1, c2, c4.moved hW.alike, c5, c6⟩, c3.F ht⟩) c3.2.2
    · intro pc ls H locs cells slots st ad1 ca1 h1 i au rest E hau hcc hss hls hI1 hag hdec hth hcat hQ
      obtain ⟨c1, c2, c3, c4, c5, c6⟩ := hI1
      subst hau
      unfold am_thOk at hth
      split at hth
      case h_2 => cases hth
      next ik E2 form is ic j1 j2 si j3 he =>
      cases he
      rw [Bool.and_eq_true, Bool.and_eq_true, Bool.and_eq_true, Bool.and_eq_true, Bool.and_eq_true, Bool.and_eq_true, Bool.and_eq_true] at hth
      obtain ⟨t1, t2, t3, t4, t5, t6, t7, t8⟩ := hth
      have l1 := of_decide_eq_true t1
      have l3 := of_decide_eq_true t2
      obtain ⟨x1, x2, x3, x4⟩ := hex E l1 l3
      have hst : ∃ q : String × Nat × String, am_strs[si]? = some q ∧ q.1 = mi.1.1 ∧ q.2.1 = is := by
        cases hq : am_strs[si]? with
        | none => rw [hq] at t6; simp at t6
        | some q => rw [hq] at t6; simp at t6; exact ⟨q, rfl, t6.1, t6.2⟩
      obtain ⟨q, hq1, hq2, hq3⟩ := hst
      obtain ⟨sa, hsa⟩ := hS.2.2.2.2.1 si q hq1
      rw [hq2, hq3] at hsa
      have hat : ∀ w ∈ vx_atS mi.1.1 ic (am_exn E) am_exs, w.before (as.map (am_cv ad)).toArray s = true := by
        intro w hw9
        rcases am_atS hw9 with rfl | h9
        · exact hts _ (am_wdI t5)
        · rcases am_two (x3 0 (by omega) w (h9 0)) (x3 1 (by omega) w (h9 1)) with h8 | h8
          · exact hts _ h8
          · exact va_Nw.use (am_isX_tab (List.mem_filter.mp h8).2) (hS.2.2.1 w h8)
      have hgood : ∀ w ∈ Cond.classLink mi.1.1 ik (am_exn E) :: Cond.initialized (am_exn E) :: vx_atS mi.1.1 ic (am_exn E) am_exs, vx_ot w = true := by
        intro w hw9
        have gg : ∀ w ∈ am_gw, vx_ot w = true := fun w h8 => by unfold vx_ot; rw [(List.mem_filter.mp h8).2, Bool.or_true]
        rcases List.mem_cons.mp hw9 with rfl | hw9
        · exact gg _ (am_wdI t3)
        rcases List.mem_cons.mp hw9 with rfl | hw9
        · exact gg _ (am_wdI t4)
        rcases am_atS hw9 with rfl | h9
        · exact gg _ (am_wdI t5)
        · rcases am_two (x3 0 (by omega) w (h9 0)) (x3 1 (by omega) w (h9 1)) with h8 | h8
          · exact gg _ h8
          · unfold vx_ot; rw [am_isX_tab (List.mem_filter.mp h8).2, Bool.true_or]
      have hXC : ∀ t : State, s.vm.Alike t.vm → H.size ≤ t.heap.size → (∀ q : Nat, q < H.size → t.heap[q]? = H[q]?) → am_XC D tt ad ca h s.heap.size QQ (am_exn E) s t := by
        intro t hvm hsz hk9
        refine ⟨⟨ad1, ca1, h1, E, l1, l3, rfl, hag, hQ, fun k9 q9 hq9 => (c1 k9 q9 hq9).kept (hk9 _ (c1 k9 q9 hq9).lt), c2, c4.moved hvm, c5, c6⟩, Nat.le_trans c3.1 hsz, fun q9 g1 g2 => ?_⟩
        rw [hk9 q9 (Nat.lt_of_lt_of_le g1 c3.1)]
        exact c3.2.1 q9 g1 g2
      have hcat9 : ((st.map (am_cv ad1)).map fun v => v.category).sum + (13 * (am_exs.length + 1) + 43) ≤ 64 * d + 512 := by
        rw [am_cats]
        show _ + (13 * (2 + 1) + 43) ≤ _
        omega
      split at t8
      · rw [Bool.and_eq_true, Bool.and_eq_true, Bool.and_eq_true] at t8
        obtain ⟨u1, u2, u3, u4⟩ := t8
        exact vx_throwS (names := am_exs) (text := q.2.2) hx hb hl hown x1 x2 (hts _ (am_wdI t3)) (hts _ (am_wdI t4)) hsa hat hgood hS.2.2.2.2.2.2.1 hS.2.2.2.2.2.2.2 c3 (hls.trans hml.symm) hdec (of_decide_eq_true t7) (of_decide_eq_true u1) (of_decide_eq_true u2) (of_decide_eq_true u3) (by rw [htab]; exact am_nocovS u4) (by show 2 + 3 < d + 8; omega) hcat9 hcc hss hlocks hXC c3.2.2 hcc hss
      · rw [Bool.and_eq_true, Bool.and_eq_true, Bool.and_eq_true] at t8
        obtain ⟨u1, u2, u3, u4⟩ := t8
        exact vx_throwSW (names := am_exs) (text := q.2.2) hx hb hl hown x1 x2 (hts _ (am_wdI t3)) (hts _ (am_wdI t4)) hsa hat hgood hS.2.2.2.2.2.2.1 hS.2.2.2.2.2.2.2 c3 (hls.trans hml.symm) hdec (of_decide_eq_true t7) (of_decide_eq_true u1) (of_decide_eq_true u2) (of_decide_eq_true u3) (by rw [htab]; exact am_nocovS u4) (by show 2 + 3 < d + 8; omega) hcat9 hcc hss hlocks hXC c3.2.2 hcc hss
    · intro pc ls H locs cells slots rest ad1 ca1 h1 E ce q hcc hss hI1 hag hno l1 l3 hce hcv hcl9 hQ
      obtain ⟨c1, c2, c3, c4, c5, c6⟩ := hI1
      exact vx_out (by rw [htab]; exact am_nocovS hno) hlocks hce hcv hcl9 (fun t ht hvm => ⟨⟨ad1, ca1, h1, E, l1, l3, rfl, hag, hQ, by rw [ht]; exact c1, c2, c4.moved hvm, c5, c6⟩, c3.F ht⟩) c3.2.2 hcc hss
  cases hh : mi.2.1.2.2.2 with
  | nil =>
    refine vx_ofW (cc := mi.1.2.2.1) (maxL := mi.1.2.2.2.1) (ret := mi.1.2.2.2.2) (ws' := am_gw) m4 (by unfold am_ws0; rw [hh]) ?_
    intro p e s m args below meth c s₁ B hml ht hv
    refine body p e s m args below meth c s₁ B hml ?_ hv
    rw [hh]
    cases hc : c.exceptionTable.toList with
    | nil => rfl
    | cons x r => exact (ht x (by rw [hc]; exact List.mem_cons_self ..)).elim
  | cons q0 qs =>
    refine vx_ofWH (cc := mi.1.2.2.1) (maxL := mi.1.2.2.2.1) (ret := mi.1.2.2.2.2) (hh := q0 :: qs) (ws' := am_gw) m4 (by unfold am_ws0; rw [hh]) ?_
    intro p e s m args below meth c s₁ B hml hv
    refine body p e s m args below meth c s₁ B hml ?_ hv
    have hts0 := atoms_spec (ws := am_ws0 mi) B.pre
    exact hh ▸ vx_table (x := mi.1.2.1) B (hts0 (Cond.codeWith mi.1.2.1 mi.1.2.2.1 mi.1.2.2.2.1 mi.1.2.2.2.2 (q0 :: qs)) (by unfold am_ws0; rw [hh]; exact List.mem_cons_self))
/-- every run of the abstract machine is one of the machine -/
theorem am_sim (hl : l.stackTraces = false) (hall : am_allOk) : ∀ n : Nat, am_FS l xs L n ∧ am_MS l xs L n
  | 0 => by
    have h0 : am_FS l xs L 0 := by
      intro p e R s m args below meth c k mi D A tt d mc ms Q0 QQ ad0 h0 hk hF hret hthr hexc pc lc st h cells slots ls H locs ad ca hw
      exact hw.elim
    exact ⟨h0, am_ms_of hl hall h0⟩
  | n + 1 => by
    obtain ⟨h1, h2⟩ := am_sim hl hall n
    have h3 := am_fs_succ hall h1 h2
    exact ⟨h3, am_ms_of hl hall h3⟩
end AMU
