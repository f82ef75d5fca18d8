/-! the abstract machine over the machine itself: the library's members, constants, new things, ends -/
def am_glWs : List Cond := [.static Lib.Math.max.name, .code Lib.Math.max.name Lib.Math.max.code 2 (some .int), .static Lib.Math.min.name, .code Lib.Math.min.name Lib.Math.min.code 2 (some .int), .initialized "java/lang/Math", .native arraycopyName, .static arraycopyName, .initialized "java/lang/System", .instanceMethod Lib.objectInit, .code Lib.objectInit ⟨#[0xb1]⟩ 1 none, .arrayClass .int, .arrayClass .long]
def am_glOk : Prop := ∀ w ∈ am_glWs, w ∈ am_gw
def am_spOk (own : String) (i : Instr) (au : List Nat) : Bool := match i with
  | .invokestatic idx => match au with
    | [1000, _, j] => am_wd j (.methodLink own idx Lib.Math.max.name)
    | [1001, _, j] => am_wd j (.methodLink own idx Lib.Math.min.name)
    | [1002, _, j] => am_wd j (.methodLink own idx arraycopyName)
    | _ => false
  | .invokespecial idx => match au with
    | [1003, _, j] => am_wd j (.methodLink own idx Lib.objectInit)
    | _ => false
  | .ldc_w idx => match au with
    | [3, j, v] => am_wd j (.constant own idx (Int32.ofNat v))
    | [4, j, v] => am_wd j (.constantFloat own idx (UInt32.ofNat v))
    | _ => false
  | .ldc2_w idx => match au with
    | [1, j, v] => am_wd j (.constantLong own idx (Int64.ofNat v))
    | [2, j, v] => am_wd j (.constantDouble own idx (UInt64.ofNat v))
    | _ => false
  | .ldc idx => match au with
    | [3, j, v] => am_wd j (.constant own idx (Int32.ofNat v))
    | _ => false
  | _ => true
theorem am_cats (ad : Nat → Nat) (r : List Value) : ((r.map (am_cv ad)).map fun v => v.category) = r.map fun v => v.category := by
  rw [List.map_map]
  apply List.map_congr_left
  intro v _
  exact am_cv_cat ad v
section AMS
variable {p : Program} {l : Launch} {e : Env} {R : Room} {s : State} {m : MethodId} {args : Array Value} {below : List Frame} {meth : Method} {c : Code} {H : Heap} {locs : List Loc} {cells slots : Nat} {Q : State → Prop}
variable {cc : ByteArray} {pc : Nat} {ls : Array Slot} {D : va_G} {A : Nat → Prop} {tt : Nat → Nat} {xs : Nat → Int32} {L : Nat} {ca : Nat → ClassId}
theorem am_ldcwF (hexec : p.tables.exec = Jvm.exec) (hb : c.code = cc) {rest : List Value} {own : String} {index : Nat} {v : UInt32} (hown : s.vm.findClass own = some m.cls) (hconst : (Jvm.Cond.constantFloat own index v).before args s = true) (hdg : decode cc pc = .ok (.ldc_w index, 3)) (k : W p l e R s m args below meth c H locs cells slots Q (F0 m (pc + 3) ls (.float v :: rest))) : W p l e R s m args below meth c H locs cells slots Q (F0 m pc ls rest) := by
  intro T hT X
  obtain ⟨t, a, b⟩ := k T hT X
  obtain ⟨k, cf, hk, hcf, hcp⟩ := Cond.constantFloat_spec hown hconst
  obtain ⟨k', hk', he⟩ := X.warmed.alike.2.2 _ _ hk
  refine ⟨t, ?_, b⟩
  have hdg' : decode c.code pc = .ok (.ldc_w index, 3) := by rw [hb]; exact hdg
  jvm_step X.here [hexec, hdg', ldc_w.wp_float (s := T) (f := F0 m pc ls rest) X.here.top hk' (by rw [he]; exact hcf) hcp]
  exact a
set_option maxHeartbeats 4000000 in
theorem am_spW (hx : p.tables.exec = Jvm.exec) (hb : c.code = cc) {own : String} (hgl : am_glOk) (hts : ∀ w ∈ am_gw, w.before args s = true) (hown : s.vm.findClass own = some m.cls) (hml : c.maxLocals = ls.size) (hRf : 8 ≤ R.frames) (hRl : 512 ≤ R.locals) (hcc : cells ≤ R.cells) (hss : slots ≤ R.slots) (hK : va_K D am_cl [] s) {H0 : Heap} {ad : Nat → Nat} {h h' : am_AH} (hI : am_I D A tt s H0 H locs ad ca h)
    {i : Instr} {au : List Nat} {len n : Nat} {st st' : List Value} {C : Prop} (hdg : decode cc pc = .ok (i, len)) (hlen : len = am_lenOf i) (hok : am_spOk own i au = true) (hh : am_sp i au st h = some (C, n, st', h')) (hC : C)
    (kk : ∀ H' locs', am_I D A tt s H0 H' locs' ad ca h' → W p l e R s m args below meth c H' locs' cells slots Q (F0 m (pc + n) ls (st'.map (am_cv ad)))) : W p l e R s m args below meth c H locs cells slots Q (F0 m pc ls (st.map (am_cv ad))) := by
  subst hlen
  obtain ⟨hP, hD, hS, hKA, hle, htt⟩ := id hI
  have gl : ∀ w ∈ am_glWs, w.before args s = true := fun w hw => hts w (hgl w hw)
  unfold am_sp at hh
  split at hh
  case h_1 idx =>
    split at hh
    · next rest =>
      split at hh
      · next y x r =>
        split at hh
        · next hc =>
          cases hh
          dsimp only [am_spOk] at hok
          split at hok <;> try cases hok
          · next q1 q2 hq =>
            cases hq
            exact va_mmax hx hb hml hown (hts _ (am_wdI hok)) (gl _ (by simp [am_glWs])) (gl _ (by simp [am_glWs])) (gl _ (by simp [am_glWs])) (by omega) (by rw [am_cats]; omega) hcc hss hdg (kk H locs hI)
          · next q1 q2 hq => cases hq
          · next q1 q2 hq => cases hq
        · cases hh
      · cases hh
    · next rest =>
      split at hh
      · next y x r =>
        split at hh
        · next hc =>
          cases hh
          dsimp only [am_spOk] at hok
          split at hok <;> try cases hok
          · next q1 q2 hq => cases hq
          · next q1 q2 hq =>
            cases hq
            exact va_mmin hx hb hml hown (hts _ (am_wdI hok)) (gl _ (by simp [am_glWs])) (gl _ (by simp [am_glWs])) (gl _ (by simp [am_glWs])) (by omega) (by rw [am_cats]; omega) hcc hss hdg (kk H locs hI)
          · next q1 q2 hq => cases hq
        · cases hh
      · cases hh
    · next rest =>
      split at hh
      · next n0 dp a sp b r =>
        split at hh
        · next hc =>
          split at hh
          · next nb f na g hsb hsa =>
            cases hh
            obtain ⟨c1, c2, c3, c4, c5⟩ := hC
            dsimp only [am_spOk] at hok
            split at hok <;> try cases hok
            · next q1 q2 hq => cases hq
            · next q1 q2 hq => cases hq
            · next q1 q2 hq =>
              cases hq
              have K2 : va_K D am_cl [(ca b, .int), (ca a, .int)] s := by
                refine ⟨hK.1, fun k q hq => ?_⟩
                match k, hq with
                | 0, hq => cases hq; exact hKA _ _ _ hsb
                | 1, hq => cases hq; exact hKA _ _ _ hsa
                | k + 2, hq => simp at hq
              exact va_copyi hx hb hml hown (hts _ (am_wdI hok)) (gl _ (by simp [am_glWs])) (gl _ (by simp [am_glWs])) (gl _ (by simp [am_glWs])) K2 hP hD hS b a 0 1 (am_ws_of hsb) (am_ws_of hsa) rfl rfl rfl c1 c2 c3 c4 c5 (fun _ _ => rfl) (by omega) (by rw [am_cats, show nativeFrameWords "java/lang/System" "arraycopy" 5 = 7 from by decide +kernel]; omega) hdg
                (fun H1 locs1 hP1 hD1 hS1 => kk H1 locs1 (hI.set rfl hP1 hD1 hS1 (fun tag x q => by cases q; exact ⟨_, hsa⟩)))
          · cases hh
        · cases hh
      · cases hh
    · cases hh
  case h_2 idx =>
    split at hh
    · next rest =>
      split at hh
      · next a r =>
        split at hh
        · next hc =>
          cases hh
          dsimp only [am_spOk] at hok
          split at hok <;> try cases hok
          · next q1 q2 hq =>
            cases hq
            exact W.objInit hx hb hown (hts _ (am_wdI hok)) (gl _ (by simp [am_glWs])) (gl _ (by simp [am_glWs])) (g := F0 m pc ls ((Value.ref a :: st').map (am_cv ad))) rfl hml.symm (a := ad a) rfl hdg (by omega) (by rw [am_cats]; show 2 * 0 + _ + 12 ≤ _; omega) (kk H locs hI)
        · cases hh
      · cases hh
    · cases hh
  case h_3 idx =>
    split at hh
    · next j v rest =>
      cases hh
      dsimp only [am_spOk] at hok
      split at hok <;> try cases hok
      · next q1 q2 hq =>
        cases hq
        exact lv_ldcw hx hb hown (hts _ (am_wdI hok)) hdg (kk H locs hI)
      · next q1 q2 hq => cases hq
    · next j v rest =>
      cases hh
      dsimp only [am_spOk] at hok
      split at hok <;> try cases hok
      · next q1 q2 hq => cases hq
      · next q1 q2 hq =>
        cases hq
        exact am_ldcwF hx hb hown (hts _ (am_wdI hok)) hdg (kk H locs hI)
    · cases hh
  case h_4 idx =>
    split at hh
    · next j v rest =>
      cases hh
      dsimp only [am_spOk] at hok
      split at hok <;> try cases hok
      · next q1 q2 hq =>
        cases hq
        exact lv_ldc2 hx hb hown (hts _ (am_wdI hok)) hdg (kk H locs hI)
      · next q1 q2 hq => cases hq
    · next j v rest =>
      cases hh
      dsimp only [am_spOk] at hok
      split at hok <;> try cases hok
      · next q1 q2 hq => cases hq
      · next q1 q2 hq =>
        cases hq
        exact lv_ldc2d hx hb hown (hts _ (am_wdI hok)) hdg (kk H locs hI)
    · cases hh
  case h_5 idx =>
    split at hh
    · next j v rest =>
      cases hh
      dsimp only [am_spOk] at hok
      split at hok <;> try cases hok
      · next q1 q2 hq =>
        cases hq
        exact lv_ldc hx hb hown (hts _ (am_wdI hok)) hdg (kk H locs hI)
    · cases hh
  case h_6 => cases hh
/-! new things -/
def am_clOk2 (q : String × List (String × String × String × Bool)) : Bool := q.2.all (fun f => match parseFieldDescriptor f.2.2.1 with
  | some ty => decide (defaultValue ty = am_dv f.2.2.1)
  | none => false)
def am_hasD : Bool := am_gw.contains (.arrayClass .double)
theorem am_hasD_s (h : am_hasD = true) : Cond.arrayClass .double ∈ am_gw := by
  unfold am_hasD at h
  exact List.contains_iff_mem.mp h
def am_alOk (own : String) (i : Instr) (au : List Nat) : Bool := match i with
  | .new idx => match au with
    | [0, ci, j1, j2, j3] => match am_cls[ci]? with
      | some q => am_wd j1 (.classLink own idx q.1) && (am_wd j2 (.instantiable q.1 q.2.length) && (am_wd j3 (.initialized q.1) && am_clOk2 q))
      | none => false
    | _ => false
  | .newarray t => match au with
    | [0] => match t with
      | .int => true
      | _ => false
    | [1] => match t with
      | .long => true
      | _ => false
    | [2] => (match t with
      | .double => true
      | _ => false) && am_hasD
    | _ => false
  | .anewarray idx => match au with
    | [3, j, _] => am_wd j (.classLink own idx "ClockDominoes$Table")
    | _ => false
  | _ => true
def am_up (ad : Nat → Nat) (n q : Nat) : Nat → Nat := fun k => if k = n then q else ad k
theorem am_nvS {ad : Nat → Nat} {n q : Nat} {lc : List Value} (h : am_nv n lc = true) : ∀ v ∈ lc, am_cv (am_up ad n q) v = am_cv ad v := by
  intro v hv
  unfold am_nv at h
  have h1 := List.all_eq_true.mp h v hv
  cases v <;> try rfl
  next a =>
    simp at h1
    simp [am_cv, am_up, h1]
theorem am_nvM {ad : Nat → Nat} {n q : Nat} {lc : List Value} (h : am_nv n lc = true) : lc.map (am_cv (am_up ad n q)) = lc.map (am_cv ad) := List.map_congr_left (am_nvS h)
theorem am_va_D_addr {A : Nat → Prop} {w1 w2 : va_W} (h : ∀ k : Nat, (w2[k]?).map Prod.fst = (w1[k]?).map Prod.fst) (hD : va_D A w1) : va_D A w2 := by
  have key : ∀ (k : Nat) (x : Nat × va_E), w2[k]? = some x → ∃ y, w1[k]? = some y ∧ y.1 = x.1 := by
    intro k x hk
    have h1 := h k
    rw [hk] at h1
    cases hw : w1[k]? with
    | none => rw [hw] at h1; cases h1
    | some y => rw [hw] at h1; exact ⟨y, rfl, (Option.some.inj h1).symm⟩
  refine ⟨fun i j x y hi hj hxy => ?_, fun k x hk => ?_⟩
  · obtain ⟨x1, a1, a2⟩ := key i x hi
    obtain ⟨y1, b1, b2⟩ := key j y hj
    exact hD.1 i j x1 y1 a1 b1 (a2.trans (hxy.trans b2.symm))
  · obtain ⟨y, a1, a2⟩ := key k x hk
    rw [← a2]
    exact hD.2 k y a1
theorem am_at_fresh {ad : Nat → Nat} {ca ca' : Nat → ClassId} {n q k : Nat} {e : va_E} {H : Heap} (hk : k ≠ n) (hca : ca' k = ca k) (hf : (match e with
  | .inr (_, fs) => am_nv n fs
  | .inl (_, m, .inr (.inr (.inr (.inr f)))) => (List.range m).all (fun j => !(f j == some n))
  | _ => true) = true) (h : va_at D am_cl (ad k, am_ce ad ca k e) H) : va_at D am_cl (am_up ad n q k, am_ce (am_up ad n q) ca' k e) H := by
  have e1 : am_up ad n q k = ad k := by unfold am_up; rw [if_neg hk]
  rw [e1]
  rcases e with ⟨tag, m, f⟩ | ⟨ci, fs⟩
  · rcases f with f | f | f | f | f
    · show H[_]? = some (vp_cell (ca' k) _); rw [hca]; exact h
    · show H[_]? = some (vp_cell (ca' k) _); rw [hca]; exact h
    · show H[_]? = some (vp_cell (ca' k) _); rw [hca]; exact h
    · show H[_]? = some (vp_cell (ca' k) _); rw [hca]; exact h
    · show H[_]? = some (vp_cell (ca' k) (m, .inr (.inr (.inr (.inr (fun j => (f j).map (am_up ad n q)))))))
      rw [hca]
      have h1 : H[ad k]? = some (vp_cell (ca k) (m, .inr (.inr (.inr (.inr (fun j => (f j).map ad)))))) := h
      rw [h1, vp_cell_q, vp_cell_q]
      congr 1
      unfold arrV
      congr 1
      apply Array.ext
      · simp
      · intro j hj1 hj2
        have hj : j < m := by simpa using hj1
        have h2 := List.all_eq_true.mp hf j (List.mem_range.mpr hj)
        simp only [Array.getElem_ofFn]
        cases hfj : f j with
        | none => rfl
        | some z =>
          rw [hfj] at h2
          simp at h2
          simp [am_up, h2]
  · have h1 : (fs.map (am_cv (am_up ad n q))) = fs.map (am_cv ad) := am_nvM hf
    show va_at D am_cl (ad k, .inr (ci, fs.map (am_cv (am_up ad n q)))) H
    rw [h1]
    exact h
theorem am_I.push {ad : Nat → Nat} {h : am_AH} {H0 H H1 : Heap} {locs locs1 : List Loc} (hI : am_I D A tt s H0 H locs ad ca h) {q : Nat} {e1 : va_E} {cA : ClassId} {e : va_E} (hfr : am_fresh h.length h = true)
    (hP : va_P D am_cl (am_ws ad ca h ++ [(q, e1)]) H1) (hD : va_D A (am_ws ad ca h ++ [(q, e1)])) (hS : va_S A H0 H1 locs1) (he : am_ce (am_up ad h.length q) (am_up ca h.length cA) h.length e = e1)
    (hKA : ∀ (tag : Nat) (x : vp_A), e = .inl (tag, x) → ArrOfT s cA (am_ty tag) ∧ va_RA s cA (am_ty tag)) : am_I D A tt s H0 H1 locs1 (am_up ad h.length q) (am_up ca h.length cA) (h ++ [e]) := by
  unfold am_fresh at hfr
  simp only [Bool.and_eq_true, decide_eq_true_eq] at hfr
  obtain ⟨hlt, hfr⟩ := hfr
  have hup : am_up ad h.length q h.length = q := by unfold am_up; rw [if_pos rfl]
  have hlen := am_ws_len ad ca h
  refine ⟨fun k w hw => ?_, am_va_D_addr (fun k => ?_) hD, hS, fun k tag x hk => ?_, by simp; omega, fun k hk => ?_⟩
  · rw [am_ws_at] at hw
    by_cases hk : k < h.length
    · rw [List.getElem?_append_left hk, List.getElem?_eq_getElem hk] at hw
      cases hw
      have h1 : va_at D am_cl (ad k, am_ce ad ca k h[k]) H1 := hP k _ (by rw [List.getElem?_append_left (by rw [hlen]; exact hk)]; exact am_ws_of (List.getElem?_eq_getElem hk))
      exact am_at_fresh (by omega) (by unfold am_up; rw [if_neg (by omega)]) (List.all_eq_true.mp hfr _ (List.getElem_mem hk)) h1
    · rw [List.getElem?_append_right (by omega)] at hw
      cases hz : k - h.length with
      | zero =>
        have hkk : k = h.length := by omega
        subst hkk
        rw [Nat.sub_self] at hw
        cases hw
        rw [hup]
        show va_at D am_cl (q, am_ce (am_up ad h.length q) (am_up ca h.length cA) h.length e) H1
        rw [he]
        exact hP h.length (q, e1) (by rw [List.getElem?_append_right (by omega), hlen, Nat.sub_self]; rfl)
      | succ z => rw [hz] at hw; cases hw
  · rw [am_ws_at]
    by_cases hk : k < h.length
    · rw [List.getElem?_append_left hk, List.getElem?_append_left (by rw [hlen]; exact hk), am_ws_at, List.getElem?_eq_getElem hk]
      show some (am_up ad h.length q k) = some (ad k)
      unfold am_up
      rw [if_neg (by omega)]
    · rw [List.getElem?_append_right (by omega), List.getElem?_append_right (by omega), hlen]
      cases hz : k - h.length with
      | zero =>
        have hkk : k = h.length := by omega
        subst hkk
        show some (am_up ad h.length q h.length) = some q
        rw [hup]
      | succ z => rfl
  · by_cases hkk : k < h.length
    · rw [List.getElem?_append_left hkk] at hk
      have := hI.2.2.2.1 k tag x hk
      unfold am_up
      rw [if_neg (by omega)]
      exact this
    · rw [List.getElem?_append_right (by omega)] at hk
      cases hz : k - h.length with
      | zero =>
        have hkk : k = h.length := by omega
        subst hkk
        rw [Nat.sub_self] at hk
        cases hk
        unfold am_up
        rw [if_pos rfl]
        exact hKA _ _ rfl
      | succ z => rw [hz] at hk; cases hk
  · unfold am_up
    rw [if_neg (by omega)]
    exact hI.2.2.2.2.2 k hk
/-- what a frame's things name doesn't change -/
def am_ag (ad0 : Nat → Nat) (h0 : am_AH) (ad : Nat → Nat) (h : am_AH) : Prop := h0.length ≤ h.length ∧ (∀ k, k < h0.length ∨ 1000000 ≤ k → ad k = ad0 k) ∧ (h.length = h0.length → ad = ad0)
theorem am_ag.rf (ad : Nat → Nat) (h : am_AH) : am_ag ad h ad h := ⟨Nat.le_refl _, fun _ _ => rfl, fun _ => rfl⟩
theorem am_ag.tr {ad0 ad1 ad2 : Nat → Nat} {h0 h1 h2 : am_AH} (a : am_ag ad0 h0 ad1 h1) (b : am_ag ad1 h1 ad2 h2) : am_ag ad0 h0 ad2 h2 := by
  refine ⟨Nat.le_trans a.1 b.1, fun k hk => ?_, fun he => ?_⟩
  · rw [b.2.1 k (hk.imp (fun q => Nat.lt_of_lt_of_le q a.1) id), a.2.1 k hk]
  · have h3 : h1.length = h0.length := Nat.le_antisymm (by have := b.1; omega) a.1
    rw [b.2.2 (by omega), a.2.2 h3]
theorem am_ag.same {ad0 ad : Nat → Nat} {h0 h h' : am_AH} (a : am_ag ad0 h0 ad h) (hl : h'.length = h.length) : am_ag ad0 h0 ad h' := ⟨by rw [hl]; exact a.1, a.2.1, by rw [hl]; exact a.2.2⟩
theorem am_ag.push {ad : Nat → Nat} {h : am_AH} {q : Nat} {e : va_E} (hlt : h.length < 1000000) : am_ag ad h (am_up ad h.length q) (h ++ [e]) := by
  refine ⟨by simp, fun k hk => ?_, fun q => by simp at q⟩
  unfold am_up
  rw [if_neg (by omega)]
theorem am_dvs {q : String × List (String × String × String × Bool)} (h2 : am_clOk2 q = true) (ad : Nat → Nat) (j : Nat) (hj : j < q.2.length) : defaultValue ((parseFieldDescriptor (am_TT q.2 j).2.2.1).getD .int) = vp_V ((q.2.map (fun f => am_dv f.2.2.1)).map (am_cv ad)) j := by
  have hf : q.2[j]? = some q.2[j] := List.getElem?_eq_getElem hj
  rw [am_TT_at hf]
  unfold am_clOk2 at h2
  have h3 := List.all_eq_true.mp h2 _ (List.getElem_mem hj)
  unfold vp_V
  rw [List.getD_eq_getElem?_getD, List.getElem?_map, List.getElem?_map, hf]
  show _ = am_cv ad (am_dv (q.2[j]).2.2.1)
  split at h3
  · next ty hty =>
    rw [hty]
    have h4 := of_decide_eq_true h3
    show defaultValue ty = _
    rw [h4]
    unfold am_dv
    split
    · rfl
    · split
      · rfl
      · split <;> rfl
  · cases h3
set_option maxHeartbeats 4000000 in
theorem am_alW (hx : p.tables.exec = Jvm.exec) (hb : c.code = cc) {own : String} (hcls : am_clsOk) (hgl : am_glOk) (hts : ∀ w ∈ am_gw, w.before args s = true) (hown : s.vm.findClass own = some m.cls) (hAO : va_AO "ClockDominoes$Table" s) (hK : va_K D am_cl [] s) {H0 : Heap} {ad : Nat → Nat} {h h' : am_AH} (hI : am_I D A tt s H0 H locs ad ca h) (hA : ∀ q, H0.size ≤ q → A q)
    {i : Instr} {au : List Nat} {len n z : Nat} {lc st st' : List Value} {C : Prop} (hdg : decode cc pc = .ok (i, len)) (hlen : len = am_lenOf i) (hok : am_alOk own i au = true) (hh : am_al i au lc st h = some (C, n, st', h', z)) (hC : C) (hcells : cells + 1 ≤ R.cells) (hslots : slots + z ≤ R.slots)
    (kk : ∀ H' locs' ad' ca', am_I D A tt s H0 H' locs' ad' ca' h' → am_ag ad h ad' h' → (∀ v ∈ lc, am_cv ad' v = am_cv ad v) → W p l e R s m args below meth c H' locs' (cells + 1) (slots + z) Q (F0 m (pc + n) ls (st'.map (am_cv ad')))) : W p l e R s m args below meth c H locs cells slots Q (F0 m pc ls (st.map (am_cv ad))) := by
  subst hlen
  obtain ⟨hP, hD, hS, hKA, hle, htt⟩ := id hI
  have hup : ∀ q, am_up ad h.length q h.length = q := fun q => by unfold am_up; rw [if_pos rfl]
  have hltf : am_fresh h.length h = true → h.length < 1000000 := by
    intro hf
    unfold am_fresh at hf
    simp only [Bool.and_eq_true, decide_eq_true_eq] at hf
    exact hf.1
  unfold am_al at hh
  split at hh
  case h_1 idx =>
    split at hh
    · next ci rest =>
      split at hh
      · next q hq =>
        cases hh
        obtain ⟨c1, c2, c3⟩ := hC
        dsimp only [am_alOk] at hok
        split at hok
        · next ci' j1 j2 j3 hau =>
          cases hau
          rw [hq] at hok
          simp only [Bool.and_eq_true] at hok
          obtain ⟨w1, w2, w3, w4⟩ := hok
          have hcl := am_clOkS (hcls q (List.mem_of_getElem? hq))
          refine va_new (D := D) (ci := ci) (C := q.1) (T := am_TT q.2) (N := q.2.length) (own := own) (fs := (q.2.map (fun f => am_dv f.2.2.1)).map (am_cv ad)) hx hb hts hcl.1 _ hcl.2.1 hown (hts _ (am_wdI w1)) (hts _ (am_wdI w2)) (hts _ (am_wdI w3)) hK hP hD hS hA (am_cl_at hq) (am_dvs w4 ad) hcells hslots hdg (fun q0 H1 hP1 hD1 hS1 => ?_)
          have e2 : (q.2.map (fun f => am_dv f.2.2.1)).map (am_cv (am_up ad h.length q0)) = (q.2.map (fun f => am_dv f.2.2.1)).map (am_cv ad) := by
            apply List.map_congr_left
            intro v hv
            obtain ⟨f, -, rfl⟩ := List.mem_map.mp hv
            unfold am_dv
            split
            · rfl
            · split
              · rfl
              · split <;> rfl
          have hI1 := hI.push (cA := 0) (e := .inr (ci, q.2.map (fun f => am_dv f.2.2.1))) c3 hP1 hD1 hS1 (by show Sum.inr (ci, _) = _; rw [e2]) (fun tag x q => by cases q)
          have h9 := kk H1 locs _ _ hI1 (am_ag.push (hltf c3)) (am_nvS c1)
          rw [List.map_cons, am_nvM c2] at h9
          have e3 : am_cv (am_up ad h.length q0) (.ref h.length) = .ref q0 := by show Value.ref _ = _; rw [hup]
          rw [e3] at h9
          exact h9
        · cases hok
      · cases hh
    · cases hh
  case h_2 t =>
    split at hh
    · next tag rest n0 r =>
      have arr : ∀ (ty : FieldType) (a0 : vp_A) (t0 : ArrayType) (tg : Nat), newarray.typeOf t0 = ty → Cond.arrayClass ty ∈ am_gw → am_ty tg = ty → (∀ cA : ClassId, vp_cell cA a0 = arrV cA n0.toNatClampNeg (fun _ => defaultValue ty)) → n0.toNatClampNeg * componentBytes ty ≤ 536870912 → decode cc pc = .ok (.newarray t0, 2) →
          (∀ (cA : ClassId) (q : Nat), am_ce (am_up ad h.length q) (am_up ca h.length cA) h.length (.inl (tg, a0)) = .inl (cA, a0)) → am_nv h.length lc = true → am_nv h.length r = true → am_fresh h.length h = true → ¬ n0 < 0 → slots + n0.toNatClampNeg ≤ R.slots →
          (∀ H' locs' ad' ca', am_I D A tt s H0 H' locs' ad' ca' (h ++ [.inl (tg, a0)]) → am_ag ad h ad' (h ++ [.inl (tg, a0)]) → (∀ v ∈ lc, am_cv ad' v = am_cv ad v) → W p l e R s m args below meth c H' locs' (cells + 1) (slots + n0.toNatClampNeg) Q (F0 m (pc + 2) ls ((.ref h.length :: r).map (am_cv ad')))) →
          W p l e R s m args below meth c H locs cells slots Q (F0 m pc ls ((.int n0 :: r).map (am_cv ad))) := by
        intro ty a0 t0 tg hty hw htg ha hbytes hdg hce c1 c2 c3 c4 hsl k9
        refine va_newa hx hb (by rw [hty]; exact hts _ hw) hty hK hP hD hS hA ha c4 rfl hbytes hcells hsl hdg (fun q0 cA H1 hK1 hP1 hD1 hS1 => ?_)
        have hk1 := hK1.2 0 _ rfl
        have hI1 := hI.push (cA := cA) (e := .inl (tg, a0)) c3 hP1 hD1 hS1 (hce cA q0) (fun tag x q => by cases q; rw [htg]; exact hk1)
        have h9 := k9 H1 locs _ _ hI1 (am_ag.push (hltf c3)) (am_nvS c1)
        rw [List.map_cons, am_nvM c2] at h9
        have e3 : am_cv (am_up ad h.length q0) (.ref h.length) = .ref q0 := by show Value.ref _ = _; rw [hup]
        rw [e3] at h9
        exact h9
      have upc : ∀ cA : ClassId, am_up ca h.length cA h.length = cA := fun cA => by unfold am_up; rw [if_pos rfl]
      split at hh
      · cases hh
        obtain ⟨c1, c2, c3, c4, c5⟩ := hC
        dsimp only [am_alOk] at hok
        split at hok <;> try cases hok
        · next hau =>
          cases hau
          cases t <;> try cases hok
          refine arr .int (n0.toNatClampNeg, .inl (fun _ => 0)) .int 0 rfl (hgl _ (by simp [am_glWs])) rfl (fun _ => rfl) (by show _ * 4 ≤ _; omega) hdg (fun cA q => ?_) c1 c2 c3 c4 hslots kk
          show Sum.inl (am_up ca h.length cA h.length, _) = _
          rw [upc]
        · next hau => cases hau
        · next hau => cases hau
      · cases hh
        obtain ⟨c1, c2, c3, c4, c5⟩ := hC
        dsimp only [am_alOk] at hok
        split at hok <;> try cases hok
        · next hau => cases hau
        · next hau =>
          cases hau
          cases t <;> try cases hok
          refine arr .long (n0.toNatClampNeg, .inr (.inl (fun _ => 0))) .long 1 rfl (hgl _ (by simp [am_glWs])) rfl (fun _ => rfl) (by show _ * 8 ≤ _; omega) hdg (fun cA q => ?_) c1 c2 c3 c4 hslots kk
          show Sum.inl (am_up ca h.length cA h.length, _) = _
          rw [upc]
        · next hau => cases hau
      · cases hh
        obtain ⟨c1, c2, c3, c4, c5⟩ := hC
        dsimp only [am_alOk] at hok
        split at hok <;> try cases hok
        · next hau => cases hau
        · next hau => cases hau
        · next hau =>
          cases hau
          rw [Bool.and_eq_true] at hok
          obtain ⟨hokD, hasD⟩ := hok
          cases t <;> try cases hokD
          refine arr .double (n0.toNatClampNeg, .inr (.inr (.inr (.inl (fun _ => 0))))) .double 2 rfl (am_hasD_s hasD) rfl (fun _ => rfl) (by show _ * 8 ≤ _; omega) hdg (fun cA q => ?_) c1 c2 c3 c4 hslots kk
          show Sum.inl (am_up ca h.length cA h.length, _) = _
          rw [upc]
      · cases hh
    · cases hh
  case h_3 idx =>
    split at hh
    · next rest n0 r =>
      cases hh
      obtain ⟨c1, c2, c3, c4, c5⟩ := hC
      dsimp only [am_alOk] at hok
      split at hok
      · next j j2 hau =>
        cases hau
        refine va_newq hx hb hown (hts _ (am_wdI hok)) hAO hK hP hD hS hA c4 rfl (by omega) hcells hslots hdg (fun q0 cA H1 hK1 hP1 hD1 hS1 => ?_)
        have hk1 := hK1.2 0 _ rfl
        have hI1 := hI.push (cA := cA) (e := .inl (3, n0.toNatClampNeg, .inr (.inr (.inr (.inr (fun _ => none)))))) c3 hP1 hD1 hS1 (by
          show Sum.inl (am_up ca h.length cA h.length, _) = _
          rw [show am_up ca h.length cA h.length = cA from by unfold am_up; rw [if_pos rfl]]
          rfl) (fun tag x q => by cases q; exact hk1)
        have h9 := kk H1 locs _ _ hI1 (am_ag.push (hltf c3)) (am_nvS c1)
        have c2' : am_nv h.length r = true := c2
        rw [List.map_cons, am_nvM c2'] at h9
        have e3 : am_cv (am_up ad h.length q0) (.ref h.length) = .ref q0 := by show Value.ref _ = _; rw [hup]
        rw [e3] at h9
        exact h9
      · cases hok
    · cases hh
  case h_4 => cases hh
/-! ends -/
theorem am_rtW {Qc : Array Value → State → Outcome → State → Prop} {XC : String → State → State → Prop} {free : Addr → Prop} {mc ms : Nat} (hx : p.tables.exec = Jvm.exec) (hb : c.code = cc) {ret : Option FieldType} (hr : meth.sig.returnType = ret) (hlocks : meth.locks = false) (ad : Nat → Nat)
    {i : Instr} {len : Nat} {st : List Value} {C : Prop} {v : Option Value} (hdg : decode cc pc = .ok (i, len)) (hlen : len = am_lenOf i) (hh : am_rt ret i st = some (C, v)) (hC : C) (hc : cells ≤ mc) (hs : slots ≤ ms)
    (hq : ∀ t : State, t.heap = H → s.WarmedH t.vm → Qc args s (.returned (v.map (am_cv ad))) t) (hf : ∀ q ∈ locs, free q.base) : W p l e R s m args below meth c H locs cells slots (vx_MQ below Qc XC args s mc ms free) (F0 m pc ls (st.map (am_cv ad))) := by
  subst hlen
  refine vx_ret (W.widen (k := mc) (n := ms) hc hs ?_)
  unfold am_rt at hh
  split at hh
  case h_1 =>
    split at hh
    · split at hh
      · cases hh
        exact W.iret hx hb hr hq hf hdg hlocks
      · cases hh
        exact W.zret hx hb hr hC hq hf hdg hlocks
      · cases hh
    · cases hh
  case h_2 =>
    split at hh
    · split at hh
      · cases hh
        exact W.lret hx hb hr hq hf hdg hlocks
      · cases hh
    · cases hh
  case h_3 =>
    split at hh
    · split at hh
      · cases hh
        exact W.fret hx hb hr hq hf hdg hlocks
      · cases hh
    · cases hh
  case h_4 =>
    split at hh
    · split at hh
      · cases hh
        exact W.dret hx hb hr hq hf hdg hlocks
      · cases hh
    · cases hh
  case h_5 =>
    split at hh
    · split at hh
      · cases hh
        exact W.aret hx hb hr (Or.inl ⟨_, rfl⟩) (Or.inr ⟨_, rfl⟩) hq hf hdg hlocks
      · cases hh
    · cases hh
  case h_6 =>
    split at hh
    · split at hh
      · cases hh
        exact W.vret hx hb hr hq hf hdg hlocks
      · cases hh
    · cases hh
  case h_7 => cases hh
end AMS
