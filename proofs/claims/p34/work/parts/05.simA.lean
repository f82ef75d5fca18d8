/-! the abstract machine over the machine itself: instructions of the frame alone -/
def am_lenOf : Instr → Nat
  | .bipush _ | .iload _ | .lload _ | .fload _ | .dload _ | .aload _ | .istore _ | .lstore _ | .fstore _ | .dstore _ | .astore _ | .newarray _ | .ldc _ => 2
  | .sipush _ | .iinc _ _ | .ifCond _ _ | .if_icmp _ _ | .goto _ | .ifnull _ | .ifnonnull _ | .getfield _ | .putfield _ | .getstatic _ | .invokestatic _ | .invokevirtual _ | .invokespecial _ | .new _ | .anewarray _ | .ldc_w _ | .ldc2_w _ => 3
  | _ => 1
/-- a value: places become addresses -/
def am_cv (ad : Nat → Nat) : Value → Value
  | .ref a => .ref (ad a)
  | v => v
theorem am_cv_cat (ad : Nat → Nat) (v : Value) : (am_cv ad v).category = v.category := by cases v <;> rfl
theorem am_cv_dead {ad : Nat → Nat} {v : Value} (h : v ≠ am_dead) : am_cv ad v ≠ am_dead := by
  cases v <;> simp_all [am_cv, am_dead]
/-- the locals -/
def am_lr (ls : Array Slot) (nL : Nat) (ad : Nat → Nat) (lc : List Value) : Prop := ls.size = nL ∧ lc.length = nL ∧ lv_wf ls ∧ ∀ (i : Nat) (v : Value), lc[i]? = some v → v ≠ am_dead → ls[i]? = some (.val (am_cv ad v))
def am_lvl (ad : Nat → Nat) (lc : List Value) : List (Nat × Value) := (List.range lc.length).filterMap (fun i => match lc[i]? with
  | some v => if v = am_dead then none else some (i, am_cv ad v)
  | none => none)
theorem am_lvl_mem {ad : Nat → Nat} {lc : List Value} {q : Nat × Value} : q ∈ am_lvl ad lc ↔ ∃ v, lc[q.1]? = some v ∧ v ≠ am_dead ∧ q.2 = am_cv ad v := by
  unfold am_lvl
  rw [List.mem_filterMap]
  constructor
  · rintro ⟨i, -, h⟩
    cases hv : lc[i]? with
    | none => rw [hv] at h; cases h
    | some v =>
      rw [hv] at h
      dsimp only at h
      split at h
      · cases h
      · cases h
        exact ⟨v, hv, by assumption, rfl⟩
  · rintro ⟨v, h1, h2, h3⟩
    refine ⟨q.1, List.mem_range.mpr (List.getElem?_eq_some_iff.mp h1).1, ?_⟩
    rw [h1]
    dsimp only
    rw [if_neg h2, ← h3]
theorem am_lr_has {ls : Array Slot} {nL : Nat} {ad : Nat → Nat} {lc : List Value} (h : am_lr ls nL ad lc) : lv_has ls nL (am_lvl ad lc) := by
  refine ⟨h.1, h.2.2.1, fun q hq => ?_⟩
  obtain ⟨v, h1, h2, h3⟩ := am_lvl_mem.mp hq
  rw [h3]
  exact h.2.2.2 q.1 v h1 h2
theorem am_lr_moved {ls : Array Slot} {nL : Nat} {ad ad' : Nat → Nat} {lc : List Value} (h : am_lr ls nL ad lc) (he : ∀ v ∈ lc, am_cv ad' v = am_cv ad v) : am_lr ls nL ad' lc :=
  ⟨h.1, h.2.1, h.2.2.1, fun i v hv hd => by rw [he v (List.mem_of_getElem? hv)]; exact h.2.2.2 i v hv hd⟩
theorem am_put_at {lc : List Value} {i j : Nat} {v w : Value} (h : (am_put lc i v)[j]? = some w) (hw : w ≠ am_dead) : (j = i ∧ w = v) ∨ (j ≠ i ∧ lc[j]? = some w ∧ ¬ (j + 1 = i ∧ w.category = 2) ∧ (v.category = 2 → j ≠ i + 1)) := by
  have hset : ∀ (l : List Value) (k : Nat) (x : Value), (l.set k x)[j]? = some w → (j = k ∧ w = x) ∨ (j ≠ k ∧ l[j]? = some w) := by
    intro l k x hx
    by_cases hk : j = k
    · subst hk
      rw [List.getElem?_set_self' ] at hx
      cases hl : l[j]? with
      | none => rw [hl] at hx; simp at hx
      | some y => rw [hl] at hx; simp at hx; exact Or.inl ⟨rfl, hx.symm⟩
    · rw [List.getElem?_set_ne (fun q => hk q.symm)] at hx
      exact Or.inr ⟨hk, hx⟩
  have hl1 : j ≠ i → (am_clr lc i)[j]? = some w → lc[j]? = some w ∧ ¬ (j + 1 = i ∧ w.category = 2) := by
    intro hj hx
    cases i with
    | zero => exact ⟨hx, fun q => by omega⟩
    | succ k =>
      dsimp only [am_clr] at hx
      cases hk : lc[k]? with
      | none =>
        rw [hk] at hx
        dsimp only at hx
        refine ⟨hx, fun q => ?_⟩
        have : j = k := by omega
        subst this
        rw [hk] at hx; cases hx
      | some u =>
        rw [hk] at hx
        dsimp only at hx
        by_cases hc : u.category = 2
        · rw [if_pos hc] at hx
          rcases hset lc k am_dead hx with ⟨-, h2⟩ | ⟨h1, h2⟩
          · exact absurd h2 hw
          · exact ⟨h2, fun q => h1 (by omega)⟩
        · rw [if_neg hc] at hx
          refine ⟨hx, fun q => ?_⟩
          have : j = k := by omega
          subst this
          rw [hk] at hx; cases hx
          exact hc q.2
  unfold am_put at h
  by_cases hc : v.category = 2
  · rw [if_pos hc] at h
    rcases hset _ _ _ h with ⟨-, h2⟩ | ⟨h1, h2⟩
    · exact absurd h2 hw
    · rcases hset _ _ _ h2 with h3 | ⟨h3, h4⟩
      · exact Or.inl h3
      · obtain ⟨h5, h6⟩ := hl1 h3 h4
        exact Or.inr ⟨h3, h5, h6, fun _ => h1⟩
  · rw [if_neg hc] at h
    rcases hset _ _ _ h with h3 | ⟨h3, h4⟩
    · exact Or.inl h3
    · obtain ⟨h5, h6⟩ := hl1 h3 h4
      exact Or.inr ⟨h3, h5, h6, fun q => absurd q hc⟩
theorem am_clr_len (lc : List Value) (i : Nat) : (am_clr lc i).length = lc.length := by
  cases i with
  | zero => rfl
  | succ k =>
    dsimp only [am_clr]
    cases lc[k]? with
    | none => rfl
    | some u => dsimp only; split <;> simp
theorem am_put_len (lc : List Value) (i : Nat) (v : Value) : (am_put lc i v).length = lc.length := by
  unfold am_put
  split <;> simp [am_clr_len]
theorem am_lr_put1 {ls' : Array Slot} {nL i : Nat} {ad : Nat → Nat} {lc : List Value} {v : Value} (hn : lc.length = nL) (h : lv_has ls' nL ((i, am_cv ad v) :: (am_lvl ad lc).filter (fun q => !(q.1 == i) && !(q.1 + 1 == i && q.2.category == 2)))) : am_lr ls' nL ad (am_put lc i v) := by
  refine ⟨h.1, by rw [am_put_len]; exact hn, h.2.1, fun j w hw hd => ?_⟩
  rcases am_put_at hw hd with ⟨rfl, rfl⟩ | ⟨h1, h2, h3, -⟩
  · exact h.2.2 _ (List.mem_cons_self ..)
  · refine h.2.2 (j, am_cv ad w) (List.mem_cons_of_mem _ (List.mem_filter.mpr ⟨am_lvl_mem.mpr ⟨w, h2, hd, rfl⟩, ?_⟩))
    simp only [am_cv_cat]
    simp only [Bool.and_eq_true, Bool.not_eq_true', beq_eq_false_iff_ne, ne_eq, Bool.and_eq_false_iff]
    refine ⟨h1, ?_⟩
    by_cases q : j + 1 = i
    · exact Or.inr fun z => h3 ⟨q, z⟩
    · exact Or.inl q
theorem am_lr_put2 {ls' : Array Slot} {nL i : Nat} {ad : Nat → Nat} {lc : List Value} {v : Value} (hn : lc.length = nL) (hv : v.category = 2) (h : lv_has ls' nL ((i, am_cv ad v) :: (am_lvl ad lc).filter (fun q => !(q.1 == i) && (!(q.1 == i + 1) && !(q.1 + 1 == i && q.2.category == 2))))) : am_lr ls' nL ad (am_put lc i v) := by
  refine ⟨h.1, by rw [am_put_len]; exact hn, h.2.1, fun j w hw hd => ?_⟩
  rcases am_put_at hw hd with ⟨rfl, rfl⟩ | ⟨h1, h2, h3, h4⟩
  · exact h.2.2 _ (List.mem_cons_self ..)
  · refine h.2.2 (j, am_cv ad w) (List.mem_cons_of_mem _ (List.mem_filter.mpr ⟨am_lvl_mem.mpr ⟨w, h2, hd, rfl⟩, ?_⟩))
    simp only [am_cv_cat]
    simp only [Bool.and_eq_true, Bool.not_eq_true', beq_eq_false_iff_ne, ne_eq, Bool.and_eq_false_iff]
    refine ⟨h1, h4 hv, ?_⟩
    by_cases q : j + 1 = i
    · exact Or.inr fun z => h3 ⟨q, z⟩
    · exact Or.inl q
theorem am_args_mem {ad : Nat → Nat} : ∀ (as : List Value) (off i : Nat) (v : Value), (am_args as)[i]? = some v → v ≠ am_dead → (off + i, am_cv ad v) ∈ lv_args off (as.map (am_cv ad))
  | [], off, i, v, h, _ => by simp [am_args] at h
  | a :: r, off, i, v, h, hd => by
    rw [List.map_cons]
    unfold lv_args
    rw [am_cv_cat]
    unfold am_args at h
    by_cases hc : a.category = 2
    · rw [if_pos hc] at h
      rw [if_pos hc]
      match i, h with
      | 0, h => cases h; exact List.mem_cons_self ..
      | 1, h => cases h; exact absurd rfl hd
      | i + 2, h =>
        have := am_args_mem (ad := ad) r (off + 2) i v h hd
        rw [show off + (i + 2) = off + 2 + i by omega]
        exact List.mem_cons_of_mem _ this
    · rw [if_neg hc] at h
      rw [if_neg hc]
      match i, h with
      | 0, h => cases h; exact List.mem_cons_self ..
      | i + 1, h =>
        have := am_args_mem (ad := ad) r (off + 1) i v h hd
        rw [show off + (i + 1) = off + 1 + i by omega]
        exact List.mem_cons_of_mem _ this
theorem am_args_len (ad : Nat → Nat) : ∀ as : List Value, (lg_sl (as.map (am_cv ad))).length = (am_args as).length
  | [] => rfl
  | a :: r => by
    have ih := am_args_len ad r
    unfold lg_sl at ih ⊢
    rw [List.map_cons, List.flatMap_cons, am_cv_cat]
    unfold am_args
    by_cases hc : a.category = 2
    · rw [if_pos hc, if_pos hc, List.length_append, ih]
      simp; omega
    · rw [if_neg hc, if_neg hc, List.length_append, ih]
      simp; omega
theorem am_entry {ad : Nat → Nat} {as : List Value} {n : Nat} (h : (am_args as).length ≤ n) : am_lr ((lg_sl (as.map (am_cv ad)) ++ List.replicate (n - (lg_sl (as.map (am_cv ad))).length) Slot.unset).toArray) n ad (am_ent as n) := by
  have h1 := lv_entry (as.map (am_cv ad)) (n := n) (by rw [am_args_len]; exact h)
  refine ⟨h1.1, ?_, h1.2.1, fun i v hv hd => ?_⟩
  · unfold am_ent
    simp
    omega
  · unfold am_ent at hv
    have h2 : (am_args as)[i]? = some v := by
      by_cases hi : i < (am_args as).length
      · rw [List.getElem?_append_left hi] at hv
        exact hv
      · rw [List.getElem?_append_right (Nat.le_of_not_lt hi)] at hv
        have := List.mem_of_getElem? hv
        exact absurd (List.eq_of_mem_replicate this) hd
    have h3 := am_args_mem (ad := ad) as 0 i v h2 hd
    rw [Nat.zero_add] at h3
    exact h1.2.2 (i, am_cv ad v) h3
section AMF
variable {p : Program} {l : Launch} {e : Env} {R : Room} {s : State} {m : MethodId} {args : Array Value} {below : List Frame} {meth : Method} {c : Code} {H : Heap} {locs : List Loc} {cells slots : Nat} {Q : State → Prop}
variable {cc : ByteArray} {pc : Nat} {ls : Array Slot}
set_option maxHeartbeats 2000000 in
theorem am_arW (hx : p.tables.exec = Jvm.exec) (hb : c.code = cc) (ad : Nat → Nat) {i : Instr} {len : Nat} {st st' : List Value} {C : Prop} (hdg : decode cc pc = .ok (i, len)) (hlen : len = am_lenOf i) (h : am_ar i st = some (C, st')) (hC : C)
    (k : W p l e R s m args below meth c H locs cells slots Q (F0 m (pc + len) ls (st'.map (am_cv ad)))) : W p l e R s m args below meth c H locs cells slots Q (F0 m pc ls (st.map (am_cv ad))) := by
  subst hlen
  unfold am_ar at h
  split at h
  case h_1 n => cases h; exact lv_iconst hx hb hdg rfl k
  case h_2 n => cases h; exact lv_bipush hx hb hdg rfl k
  case h_3 n => cases h; exact lv_sipush hx hb hdg rfl k
  case h_4 n => cases h; exact lv_lconst hx hb hdg rfl k
  case h_5 n =>
    cases h
    match n, hdg, k with
    | 0, hdg, k => exact lv_fconst0 hx hb hdg k
    | 1, hdg, k => exact lv_fconst1 hx hb hdg k
    | 2, hdg, k => exact lv_fconst2 hx hb hdg k
  case h_6 n =>
    cases h
    match n, hdg, k with
    | 0, hdg, k => exact lv_dconst0 hx hb hdg k
    | 1, hdg, k => exact lv_dconst1 hx hb hdg k
  case h_7 => split at h <;> cases h; exact lv_iadd hx hb hdg k
  case h_8 => split at h <;> cases h; exact lv_isub hx hb hdg k
  case h_9 => split at h <;> cases h; exact lv_imul hx hb hdg k
  case h_10 => split at h <;> cases h; exact lv_idiv hx hb hdg hC k
  case h_11 => split at h <;> cases h; exact lv_irem hx hb hdg hC k
  case h_12 => split at h <;> cases h; exact lv_ineg hx hb hdg k
  case h_13 => split at h <;> cases h; exact lv_iand hx hb hdg k
  case h_14 => split at h <;> cases h; exact lv_ior hx hb hdg k
  case h_15 => split at h <;> cases h; exact lv_ixor hx hb hdg k
  case h_16 => split at h <;> cases h; exact lv_ishl hx hb hdg k
  case h_17 => split at h <;> cases h; exact lv_ishr hx hb hdg k
  case h_18 => split at h <;> cases h; exact lv_ladd hx hb hdg k
  case h_19 => split at h <;> cases h; exact lv_lsub hx hb hdg k
  case h_20 => split at h <;> cases h; exact lv_lmul hx hb hdg k
  case h_21 => split at h <;> cases h; exact lv_lshl hx hb hdg rfl k
  case h_22 => split at h <;> cases h; exact W.lcmp hx hb hdg k
  case h_23 => split at h <;> cases h; exact lv_i2l hx hb hdg rfl k
  case h_24 => split at h <;> cases h; exact lv_l2i hx hb hdg rfl k
  case h_25 => split at h <;> cases h; exact lv_i2f hx hb hdg k
  case h_26 => split at h <;> cases h; exact lv_i2d hx hb hdg k
  case h_27 => split at h <;> cases h; exact lv_l2d hx hb hdg k
  case h_28 => split at h <;> cases h; exact lv_f2i hx hb hdg k
  case h_29 => split at h <;> cases h; exact lv_d2l hx hb hdg k
  case h_30 => split at h <;> cases h; exact lv_f2d hx hb hdg hC k
  case h_31 => split at h <;> cases h; exact lv_fsub hx hb hdg hC k
  case h_32 => split at h <;> cases h; exact lv_fmul hx hb hdg hC k
  case h_33 => split at h <;> cases h; exact lv_fdiv hx hb hdg hC k
  case h_34 => split at h <;> cases h; exact lv_dsub hx hb hdg hC k
  case h_35 => split at h <;> cases h; exact lv_dmul hx hb hdg hC k
  case h_36 => split at h <;> cases h; exact lv_ddiv hx hb hdg hC k
  case h_37 => split at h <;> cases h; exact lv_fcmp hx hb hdg k
  case h_38 => split at h <;> cases h; exact lv_dcmp hx hb hdg k
  case h_39 =>
    split at h
    · split at h
      · next hc => cases h; exact lv_dup hx hb hdg (by rw [am_cv_cat]; exact hc) k
      · cases h
    · cases h
  case h_40 =>
    split at h
    · split at h
      · next hc => cases h; exact lv_dup2_2 hx hb hdg (by rw [am_cv_cat]; exact hc) k
      · split at h
        · split at h
          · next hc => cases h; exact lv_dup2_11 hx hb hdg (by rw [am_cv_cat]; exact hc.1) (by rw [am_cv_cat]; exact hc.2) k
          · cases h
        · cases h
    · cases h
  case h_41 =>
    split at h
    · split at h
      · next hc => cases h; exact lv_pop hx hb hdg (by rw [am_cv_cat]; exact hc) k
      · cases h
    · cases h
  case h_42 => cases h
theorem am_ldIs {lc : List Value} {k : Nat} {v : Value} (h : am_ldI lc k = some v) : ∃ x, lc[k]? = some (.int x) ∧ v = .int x := by
  unfold am_ldI at h; split at h
  · next x hx => cases h; exact ⟨x, hx, rfl⟩
  · cases h
theorem am_ldLs {lc : List Value} {k : Nat} {v : Value} (h : am_ldL lc k = some v) : ∃ x, lc[k]? = some (.long x) ∧ v = .long x := by
  unfold am_ldL at h; split at h
  · next x hx => cases h; exact ⟨x, hx, rfl⟩
  · cases h
theorem am_ldFs {lc : List Value} {k : Nat} {v : Value} (h : am_ldF lc k = some v) : ∃ x, lc[k]? = some (.float x) ∧ v = .float x := by
  unfold am_ldF at h; split at h
  · next x hx => cases h; exact ⟨x, hx, rfl⟩
  · cases h
theorem am_ldDs {lc : List Value} {k : Nat} {v : Value} (h : am_ldD lc k = some v) : ∃ x, lc[k]? = some (.double x) ∧ v = .double x := by
  unfold am_ldD at h; split at h
  · next x hx => cases h; exact ⟨x, hx, rfl⟩
  · cases h
theorem am_ldAs {lc : List Value} {k : Nat} {v : Value} (h : am_ldA lc k = some v) : ∃ x, lc[k]? = some (.ref x) ∧ v = .ref x := by
  unfold am_ldA at h; split at h
  · next x hx => cases h; exact ⟨x, hx, rfl⟩
  · cases h
set_option maxHeartbeats 2000000 in
theorem am_ldW (hx : p.tables.exec = Jvm.exec) (hb : c.code = cc) (ad : Nat → Nat) {i : Instr} {len n nL : Nat} {lc st : List Value} {v : Value} (hdg : decode cc pc = .ok (i, len)) (hlen : len = am_lenOf i) (hl : am_lr ls nL ad lc) (h : am_ld i lc = some (n, v))
    (k : W p l e R s m args below meth c H locs cells slots Q (F0 m (pc + n) ls ((v :: st).map (am_cv ad)))) : W p l e R s m args below meth c H locs cells slots Q (F0 m pc ls (st.map (am_cv ad))) := by
  subst hlen
  have hl := hl.2.2.2
  unfold am_ld at h
  split at h
  case h_1 j =>
    obtain ⟨w, hw, e⟩ := Option.map_eq_some_iff.mp h; cases e; obtain ⟨x, h1, rfl⟩ := am_ldIs hw
    exact lv_iload hx hb hdg (hl _ _ h1 (by simp [am_dead])) k
  case h_2 j =>
    obtain ⟨w, hw, e⟩ := Option.map_eq_some_iff.mp h; cases e; obtain ⟨x, h1, rfl⟩ := am_ldIs hw
    exact lv_iload_n hx hb hdg rfl (hl _ _ h1 (by simp [am_dead])) k
  case h_3 j =>
    obtain ⟨w, hw, e⟩ := Option.map_eq_some_iff.mp h; cases e; obtain ⟨x, h1, rfl⟩ := am_ldLs hw
    exact lv_lload hx hb hdg (hl _ _ h1 (by simp [am_dead])) k
  case h_4 j =>
    obtain ⟨w, hw, e⟩ := Option.map_eq_some_iff.mp h; cases e; obtain ⟨x, h1, rfl⟩ := am_ldLs hw
    exact lv_lload_n hx hb hdg rfl (hl _ _ h1 (by simp [am_dead])) k
  case h_5 j =>
    obtain ⟨w, hw, e⟩ := Option.map_eq_some_iff.mp h; cases e; obtain ⟨x, h1, rfl⟩ := am_ldFs hw
    exact lv_fload_n hx hb hdg rfl (hl _ _ h1 (by simp [am_dead])) k
  case h_6 j =>
    obtain ⟨w, hw, e⟩ := Option.map_eq_some_iff.mp h; cases e; obtain ⟨x, h1, rfl⟩ := am_ldDs hw
    exact lv_dload hx hb hdg (hl _ _ h1 (by simp [am_dead])) k
  case h_7 j =>
    obtain ⟨w, hw, e⟩ := Option.map_eq_some_iff.mp h; cases e; obtain ⟨x, h1, rfl⟩ := am_ldDs hw
    exact lv_dload_n hx hb hdg rfl (hl _ _ h1 (by simp [am_dead])) k
  case h_8 j =>
    obtain ⟨w, hw, e⟩ := Option.map_eq_some_iff.mp h; cases e; obtain ⟨x, h1, rfl⟩ := am_ldAs hw
    exact lv_aload hx hb hdg (hl _ _ h1 (by simp [am_dead])) k
  case h_9 j =>
    obtain ⟨w, hw, e⟩ := Option.map_eq_some_iff.mp h; cases e; obtain ⟨x, h1, rfl⟩ := am_ldAs hw
    exact lv_aload_n hx hb hdg rfl (hl _ _ h1 (by simp [am_dead])) k
  case h_10 => cases h
theorem am_st1s {lc r lc' st' : List Value} {k n n' : Nat} {v : Value} (h : am_st1 lc k v n r = some (n', lc', st')) : k < lc.length ∧ n' = n ∧ lc' = am_put lc k v ∧ st' = r := by
  unfold am_st1 at h; split at h
  · next hk => cases h; exact ⟨hk, rfl, rfl, rfl⟩
  · cases h
theorem am_st2s {lc r lc' st' : List Value} {k n n' : Nat} {v : Value} (h : am_st2 lc k v n r = some (n', lc', st')) : k + 1 < lc.length ∧ n' = n ∧ lc' = am_put lc k v ∧ st' = r := by
  unfold am_st2 at h; split at h
  · next hk => cases h; exact ⟨hk, rfl, rfl, rfl⟩
  · cases h
set_option maxHeartbeats 2000000 in
theorem am_stoW (hx : p.tables.exec = Jvm.exec) (hb : c.code = cc) (ad : Nat → Nat) {i : Instr} {len n nL : Nat} {lc st lc' st' : List Value} (hdg : decode cc pc = .ok (i, len)) (hlen : len = am_lenOf i) (hl : am_lr ls nL ad lc) (h : am_sto i lc st = some (n, lc', st'))
    (k : ∀ ls', am_lr ls' nL ad lc' → W p l e R s m args below meth c H locs cells slots Q (F0 m (pc + n) ls' (st'.map (am_cv ad)))) : W p l e R s m args below meth c H locs cells slots Q (F0 m pc ls (st.map (am_cv ad))) := by
  subst hlen
  have hh := am_lr_has hl
  have hn := hl.2.1
  unfold am_sto at h
  split at h
  case h_1 j =>
    split at h
    · obtain ⟨h1, rfl, rfl, rfl⟩ := am_st1s h
      exact lv_istore hx hb hdg hh (hn ▸ h1) rfl fun ls' h' => k ls' (am_lr_put1 hn h')
    · cases h
  case h_2 j =>
    split at h
    · obtain ⟨h1, rfl, rfl, rfl⟩ := am_st1s h
      exact lv_istore_n hx hb hdg rfl hh (hn ▸ h1) rfl fun ls' h' => k ls' (am_lr_put1 hn h')
    · cases h
  case h_3 j =>
    split at h
    · obtain ⟨h1, rfl, rfl, rfl⟩ := am_st1s h
      exact lv_astore hx hb hdg hh (hn ▸ h1) rfl fun ls' h' => k ls' (am_lr_put1 hn h')
    · cases h
  case h_4 j =>
    split at h
    · obtain ⟨h1, rfl, rfl, rfl⟩ := am_st1s h
      exact lv_astore_n hx hb hdg rfl hh (hn ▸ h1) rfl fun ls' h' => k ls' (am_lr_put1 hn h')
    · cases h
  case h_5 j =>
    split at h
    · obtain ⟨h1, rfl, rfl, rfl⟩ := am_st1s h
      exact lv_fstore_n hx hb hdg rfl hh (hn ▸ h1) rfl fun ls' h' => k ls' (am_lr_put1 hn h')
    · cases h
  case h_6 j =>
    split at h
    · obtain ⟨h1, rfl, rfl, rfl⟩ := am_st2s h
      exact lv_lstore hx hb hdg hh (hn ▸ h1) rfl fun ls' h' => k ls' (am_lr_put2 hn rfl h')
    · cases h
  case h_7 j =>
    split at h
    · obtain ⟨h1, rfl, rfl, rfl⟩ := am_st2s h
      exact lv_lstore_n hx hb hdg rfl hh (hn ▸ h1) rfl fun ls' h' => k ls' (am_lr_put2 hn rfl h')
    · cases h
  case h_8 j =>
    split at h
    · obtain ⟨h1, rfl, rfl, rfl⟩ := am_st2s h
      exact lv_dstore hx hb hdg hh (hn ▸ h1) rfl fun ls' h' => k ls' (am_lr_put2 hn rfl h')
    · cases h
  case h_9 j =>
    split at h
    · obtain ⟨h1, rfl, rfl, rfl⟩ := am_st2s h
      exact lv_dstore_n hx hb hdg rfl hh (hn ▸ h1) rfl fun ls' h' => k ls' (am_lr_put2 hn rfl h')
    · cases h
  case h_10 j d =>
    split at h
    · next x hx1 =>
      obtain ⟨h1, rfl, rfl, rfl⟩ := am_st1s h
      have hm : (j, Value.int x) ∈ am_lvl ad lc := am_lvl_mem.mpr ⟨_, hx1, by simp [am_dead], rfl⟩
      obtain ⟨q, hq⟩ := List.getElem?_of_mem hm
      exact lv_iinc hx hb hdg hh hq rfl (hn ▸ h1) rfl fun ls' h' => k ls' (am_lr_put1 hn h')
    · cases h
  case h_11 => cases h
/-- a switch's keys and offsets out of its keys and targets -/
def am_swp (pc : Nat) : List Nat → List (Int × Int)
  | k :: t :: r => ((k : Int), (t : Int) - (pc : Int)) :: am_swp pc r
  | _ => []
def am_small : List Nat → Bool
  | k :: _ :: r => decide (k < 2147483648) && am_small r
  | _ => true
/-- the keys in a row from a on, as many as n -/
def am_cons : Nat → List Nat → Bool
  | a, k :: _ :: r => k == a && am_cons (a + 1) r
  | _, _ => true
theorem am_i32 {k : Nat} (h : k < 2147483648) : (Int32.ofNat k).toInt = (k : Int) := nI_toInt (n := k) (by simpa using h)
theorem am_sw_off (x : Int32) (pc d : Nat) : ∀ r : List Nat, am_small r = true → (pc : Int) + Op.lookupswitch.offset (am_swp pc r) ((d : Int) - (pc : Int)) x.toInt = (am_sw x r d : Nat)
  | [], _ => by
    unfold am_swp am_sw
    rw [Op.lookupswitch.offset_nil]; omega
  | [_], _ => by
    unfold am_swp am_sw
    rw [Op.lookupswitch.offset_nil]; omega
  | k :: t :: r, h => by
    unfold am_small at h
    simp only [Bool.and_eq_true, decide_eq_true_eq] at h
    have hk := am_i32 h.1
    unfold am_swp am_sw
    by_cases hx : x = Int32.ofNat k
    · rw [if_pos hx, Op.lookupswitch.offset_cons, if_pos (by rw [hx, hk])]
      omega
    · rw [if_neg hx, lv_osw hx hk]
      exact am_sw_off x pc d r h.2
def am_tg : List Nat → List Nat
  | _ :: t :: r => t :: am_tg r
  | _ => []
theorem am_sw_out (x : Int32) (d : Nat) : ∀ (r : List Nat) (a : Nat), am_small r = true → am_cons a r = true → x.toInt < (a : Int) ∨ (a : Int) + ((am_tg r).length : Int) ≤ x.toInt → am_sw x r d = d
  | [], _, _, _, _ => rfl
  | [_], _, _, _, _ => rfl
  | k :: t :: r, a, h, hc, ho => by
    unfold am_small at h
    unfold am_cons at hc
    simp only [Bool.and_eq_true, decide_eq_true_eq, beq_iff_eq] at h hc
    obtain ⟨rfl, hc⟩ := hc
    have hk := am_i32 h.1
    unfold am_tg at ho
    rw [List.length_cons] at ho
    unfold am_sw
    rw [if_neg]
    · exact am_sw_out x d r (k + 1) h.2 hc (by omega)
    · intro q
      rw [q, hk] at ho
      omega
theorem am_sw_in (x : Int32) (d : Nat) : ∀ (r : List Nat) (a j : Nat), am_small r = true → am_cons a r = true → x.toInt = (a : Int) + (j : Int) → j < (am_tg r).length → (am_tg r)[j]? = some (am_sw x r d)
  | [], _, _, _, _, _, hj => by simp [am_tg] at hj
  | [_], _, _, _, _, _, hj => by simp [am_tg] at hj
  | k :: t :: r, a, j, h, hc, hx, hj => by
    unfold am_small at h
    unfold am_cons at hc
    simp only [Bool.and_eq_true, decide_eq_true_eq, beq_iff_eq] at h hc
    obtain ⟨rfl, hc⟩ := hc
    have hk := am_i32 h.1
    unfold am_tg at hj ⊢
    unfold am_sw
    cases j with
    | zero =>
      rw [if_pos (Int32.toInt_inj.mp (by rw [hk, hx]; simp))]
      rfl
    | succ j =>
      rw [if_neg (fun q => by rw [q, hk] at hx; omega)]
      rw [List.getElem?_cons_succ]
      exact am_sw_in x d r (k + 1) j h.2 hc (by omega) (by simpa using hj)
/-- what is checked of a branch's row -/
def am_brOk (i : Instr) (au : List Nat) (pc : Nat) : Bool :=
  match i with
  | .ifCond _ off => decide ((pc : Int) + off = (au.headD 0 : Nat))
  | .if_icmp _ off => decide ((pc : Int) + off = (au.headD 0 : Nat))
  | .goto off => decide ((pc : Int) + off = (au.headD 0 : Nat))
  | .ifnull _ => true
  | .ifnonnull off => decide ((pc : Int) + off = (au.headD 0 : Nat))
  | .tableswitch dflt lo hi offs => decide ((pc : Int) + dflt = (au.headD 0 : Nat)) && (am_small au.tail && (am_cons lo.toNat au.tail && (decide (0 ≤ lo) && (decide (hi = lo + ((am_tg au.tail).length : Int) - 1) && decide (offs.toList = (am_tg au.tail).map (fun t : Nat => (t : Int) - (pc : Int)))))))
  | .lookupswitch dflt ps => decide (dflt = ((au.headD 0 : Nat) : Int) - (pc : Int)) && (am_small au.tail && (decide (ps.toList = am_swp pc au.tail) && (ps.toList.zip (ps.toList.drop 1)).all (fun (a, next) => a.1 < next.1)))
  | _ => true
def am_isSw : Instr → Bool
  | .tableswitch _ _ _ _ => true
  | .lookupswitch _ _ => true
  | _ => false
set_option maxHeartbeats 2000000 in
theorem am_brW (hx : p.tables.exec = Jvm.exec) (hb : c.code = cc) (ad : Nat → Nat) {i : Instr} {au : List Nat} {len pc' : Nat} {st st' : List Value} (hdg : decode cc pc = .ok (i, len)) (hlen : am_isSw i = false → len = am_lenOf i) (hok : am_brOk i au pc = true) (h : am_br i au pc st = some (pc', st'))
    (k : W p l e R s m args below meth c H locs cells slots Q (F0 m pc' ls (st'.map (am_cv ad)))) : W p l e R s m args below meth c H locs cells slots Q (F0 m pc ls (st.map (am_cv ad))) := by
  unfold am_br at h
  split at h
  case h_1 kk off =>
    have hlen := hlen rfl; subst hlen
    have ht : (pc : Int) + off = ((au.headD 0 : Nat) : Int) := of_decide_eq_true hok
    split at h
    · cases kk <;> cases h
      · exact lv_if_eq hx hb hdg ht (fun q => by rw [if_pos q] at k; exact k) (fun q => by rw [if_neg q] at k; exact k)
      · exact lv_if_ne hx hb hdg ht (fun q => by rw [if_neg q] at k; exact k) (fun q => by rw [if_pos q] at k; exact k)
      · exact lv_if_lt hx hb hdg ht (fun q => by rw [if_pos q] at k; exact k) (fun q => by rw [if_neg q] at k; exact k)
      · exact lv_if_ge hx hb hdg ht (fun q => by rw [if_pos q] at k; exact k) (fun q => by rw [if_neg q] at k; exact k)
      · exact lv_if_gt hx hb hdg ht (fun q => by rw [if_pos q] at k; exact k) (fun q => by rw [if_neg q] at k; exact k)
      · exact lv_if_le hx hb hdg ht (fun q => by rw [if_pos q] at k; exact k) (fun q => by rw [if_neg q] at k; exact k)
    · cases h
  case h_2 kk off =>
    have hlen := hlen rfl; subst hlen
    have ht : (pc : Int) + off = ((au.headD 0 : Nat) : Int) := of_decide_eq_true hok
    split at h
    · cases kk <;> cases h
      · exact lv_icmp_eq hx hb hdg ht (fun q => by rw [if_pos q] at k; exact k) (fun q => by rw [if_neg q] at k; exact k)
      · exact lv_icmp_ne hx hb hdg ht (fun q => by rw [if_neg q] at k; exact k) (fun q => by rw [if_pos q] at k; exact k)
      · exact lv_icmp_lt hx hb hdg ht (fun q => by rw [if_pos q] at k; exact k) (fun q => by rw [if_neg q] at k; exact k)
      · exact lv_icmp_ge hx hb hdg ht (fun q => by rw [if_pos q] at k; exact k) (fun q => by rw [if_neg q] at k; exact k)
      · exact lv_icmp_gt hx hb hdg ht (fun q => by rw [if_pos q] at k; exact k) (fun q => by rw [if_neg q] at k; exact k)
      · exact lv_icmp_le hx hb hdg ht (fun q => by rw [if_pos q] at k; exact k) (fun q => by rw [if_neg q] at k; exact k)
    · cases h
  case h_3 off =>
    have hlen := hlen rfl; subst hlen
    have ht : (pc : Int) + off = ((au.headD 0 : Nat) : Int) := of_decide_eq_true hok
    cases h
    exact lv_goto hx hb hdg ht k
  case h_4 off =>
    have hlen := hlen rfl; subst hlen
    split at h
    · cases h
      exact lv_ifnull hx hb hdg k
    · cases h
  case h_5 off =>
    have hlen := hlen rfl; subst hlen
    have ht : (pc : Int) + off = ((au.headD 0 : Nat) : Int) := of_decide_eq_true hok
    split at h
    · cases h
      exact lv_ifnonnull hx hb hdg ht k
    · cases h
  case h_6 dflt lo hi offs =>
    unfold am_brOk at hok
    simp only [Bool.and_eq_true, decide_eq_true_eq] at hok
    obtain ⟨h1, h2, h3, h4, h5, h6⟩ := hok
    have h7 : ((lo.toNat : Nat) : Int) = lo := Int.toNat_of_nonneg h4
    split at h
    · next x r =>
      cases h
      by_cases hout : x.toInt < lo ∨ hi < x.toInt
      · rw [am_sw_out x _ au.tail lo.toNat h2 h3 (by omega)] at k
        exact lv_tableOut hx hb hdg hout h1 k
      · have ha : ¬ x.toInt < lo := fun q => hout (Or.inl q)
        have hb2 : ¬ hi < x.toInt := fun q => hout (Or.inr q)
        have hj := am_sw_in x (au.headD 0) au.tail lo.toNat (x.toInt - lo).toNat h2 h3 (by omega) (by omega)
        refine lv_tableIn (off := ((am_sw x au.tail (au.headD 0) : Nat) : Int) - (pc : Int)) hx hb hdg ha hb2 ?_ (by omega) k
        rw [← Array.getElem?_toList, h6, List.getElem?_map, hj]
        rfl
    · cases h
  case h_7 dflt ps =>
    unfold am_brOk at hok
    simp only [Bool.and_eq_true, decide_eq_true_eq] at hok
    obtain ⟨h1, h2, h3, h4⟩ := hok
    split at h
    · next x r =>
      cases h
      refine lv_lookup hx hb hdg h4 rfl ?_ k
      rw [h3, h1]
      exact am_sw_off x pc _ au.tail h2
    · cases h
  case h_8 => cases h
end AMF
