/-! the abstract machine: more room, less known, and steps as rules -/
section XA
variable {xs : Nat → Int32} {L : Nat}
theorem am_step_mono {mc mc' ms ms' : Nat} (hmc : mc ≤ mc') (hms : ms ≤ ms') {ret : Option FieldType} {ai : am_AI} {pc : Nat} {lc st : List Value} {h : am_AH} {c s : Nat} {C : Prop} {r : am_ST} (h0 : am_step xs L mc ms ret ai pc lc st h c s = some (C, r)) : ∃ C' : Prop, am_step xs L mc' ms' ret ai pc lc st h c s = some (C', r) ∧ (C → C') := by
  unfold am_step at h0 ⊢
  cases h1 : am_ar ai.1 st with
  | some x => rw [h1] at h0; exact ⟨C, h0, id⟩
  | none =>
  rw [h1] at h0
  dsimp only at h0 ⊢
  cases h2 : am_ld ai.1 lc with
  | some x => rw [h2] at h0; exact ⟨C, h0, id⟩
  | none =>
  rw [h2] at h0
  dsimp only at h0 ⊢
  cases h3 : am_sto ai.1 lc st with
  | some x => rw [h3] at h0; exact ⟨C, h0, id⟩
  | none =>
  rw [h3] at h0
  dsimp only at h0 ⊢
  cases h4 : am_br ai.1 ai.2.2 pc st with
  | some x => rw [h4] at h0; exact ⟨C, h0, id⟩
  | none =>
  rw [h4] at h0
  dsimp only at h0 ⊢
  cases h5 : am_hp xs L ai.1 ai.2.2 st h with
  | some x => rw [h5] at h0; exact ⟨C, h0, id⟩
  | none =>
  rw [h5] at h0
  dsimp only at h0 ⊢
  cases h6 : am_sp ai.1 ai.2.2 st h with
  | some x => rw [h6] at h0; exact ⟨C, h0, id⟩
  | none =>
  rw [h6] at h0
  dsimp only at h0 ⊢
  cases h7 : am_cl1 ai.1 ai.2.2 st with
  | some x => rw [h7] at h0; exact ⟨C, h0, id⟩
  | none =>
  rw [h7] at h0
  dsimp only at h0 ⊢
  cases h8 : am_rt ret ai.1 st with
  | some x => rw [h8] at h0; exact ⟨C, h0, id⟩
  | none =>
  rw [h8] at h0
  dsimp only at h0 ⊢
  cases h9 : am_al ai.1 ai.2.2 lc st h with
  | some x =>
    rw [h9] at h0
    obtain ⟨C1, n1, st1, h1, z1⟩ := x
    dsimp only at h0 ⊢
    cases h0
    exact ⟨_, rfl, fun q => ⟨q.1, Nat.le_trans q.2.1 hmc, Nat.le_trans q.2.2 hms⟩⟩
  | none =>
  rw [h9] at h0
  dsimp only at h0 ⊢
  obtain ⟨idx, E, rest, e1, e2, h0⟩ := am_th_inv h0
  cases h0
  obtain ⟨i, len, au⟩ := ai
  dsimp only at e1 e2
  subst e1; subst e2
  exact ⟨_, rfl, fun q => ⟨Nat.le_trans q.1 hmc, Nat.le_trans q.2.1 hms, q.2.2⟩⟩
theorem am_w_mono : ∀ (n n' d d' k mc mc' ms ms' : Nat) (cf : am_CF) (Q Q' : am_O → am_AH → Prop), n ≤ n' → d ≤ d' → mc ≤ mc' → ms ≤ ms' → (∀ o h, Q o h → Q' o h) → am_w xs L n d k mc ms cf Q → am_w xs L n' d' k mc' ms' cf Q'
  | 0, n', d, d', k, mc, mc', ms, ms', cf, Q, Q', hn, hd, hmc, hms, hQ, h => h.elim
  | n + 1, 0, d, d', k, mc, mc', ms, ms', cf, Q, Q', hn, hd, hmc, hms, hQ, h => by omega
  | n + 1, n' + 1, d, d', k, mc, mc', ms, ms', (pc, lc, st, h0, c, s), Q, Q', hn, hd, hmc, hms, hQ, h => by
    have hn' : n ≤ n' := by omega
    rw [am_w] at h ⊢
    cases hk : am_pg[k]? with
    | none => rw [hk] at h; exact h.elim
    | some mi =>
    rw [hk] at h
    dsimp only at h ⊢
    cases hl : mi.2.2.lookup pc with
    | none => rw [hl] at h; exact h.elim
    | some ai =>
    rw [hl] at h
    dsimp only at h ⊢
    cases hst : am_step xs L mc ms mi.1.2.2.2.2 ai pc lc st h0 c s with
    | none => rw [hst] at h; exact h.elim
    | some Cr =>
    obtain ⟨C, r⟩ := Cr
    obtain ⟨C', hst', hCC⟩ := am_step_mono hmc hms hst
    rw [hst] at h
    rw [hst']
    match r, h with
    | .inl cf, h =>
      exact ⟨hCC h.1, am_w_mono n n' d d' k mc mc' ms ms' cf Q Q' hn' hd hmc hms hQ h.2⟩
    | .inr (.inr (.inl v)), h => exact ⟨hCC h.1, hQ _ _ h.2⟩
    | .inr (.inr (.inr E)), h => exact ⟨hCC h.1, hQ _ _ h.2⟩
    | .inr (.inl (k', as, r)), h =>
      obtain ⟨h1, d1, mc1, ms1, mi', rfl, g2, g3, g4, g5, g6, g7⟩ := h
      obtain ⟨d2, rfl⟩ : ∃ d2, d' = d2 + 1 := ⟨d' - 1, by omega⟩
      refine ⟨hCC h1, d2, mc1, ms1, mi', rfl, Nat.le_trans g2 hmc, Nat.le_trans g3 hms, g4, g5, g6, ?_⟩
      refine am_w_mono n n' d1 d2 k' mc1 mc1 ms1 ms1 _ _ _ hn' (by omega) (Nat.le_refl _) (Nat.le_refl _) (fun o h' hq => ?_) g7
      match o, hq with
      | .inl v, hq => exact ⟨hq.1, am_w_mono n n' (d1 + 1) (d2 + 1) k mc mc' ms ms' _ Q Q' hn' hd hmc hms hQ hq.2⟩
      | .inr E, hq =>
        dsimp only at hq ⊢
        cases hhd : am_hd (ai.2.2.drop 4) E with
        | none =>
          rw [hhd] at hq
          exact ⟨hq.1, hQ _ _ hq.2⟩
        | some pi =>
          obtain ⟨p, i⟩ := pi
          rw [hhd] at hq
          exact ⟨hq.1, hq.2.1, am_w_mono n n' (d1 + 1) (d2 + 1) k mc mc' ms ms' _ Q Q' hn' hd hmc hms hQ hq.2.2⟩
/-! less is known of the locals -/
def am_nr (v : Value) : Bool := match v with
  | .ref _ => false
  | _ => true
def am_le : List Value → List Value → Prop
  | [], [] => True
  | v :: r, w :: q => (v = w ∨ (v = am_dead ∧ am_nr w = true)) ∧ am_le r q
  | _, _ => False
theorem am_le_len : ∀ {a b : List Value}, am_le a b → a.length = b.length
  | [], [], _ => rfl
  | _ :: _, _ :: _, h => by rw [List.length_cons, List.length_cons, am_le_len h.2]
  | [], _ :: _, h => h.elim
  | _ :: _, [], h => h.elim
theorem am_le_at : ∀ {a b : List Value} (i : Nat) {v : Value}, am_le a b → a[i]? = some v → b[i]? = some v ∨ (v = am_dead ∧ ∃ w, b[i]? = some w ∧ am_nr w = true)
  | [], [], i, v, _, hv => by simp at hv
  | v0 :: _, w0 :: _, 0, v, h, hv => by
    cases hv
    rcases h.1 with rfl | ⟨h1, h2⟩
    · exact Or.inl rfl
    · exact Or.inr ⟨h1, _, rfl, h2⟩
  | _ :: _, _ :: _, i + 1, v, h, hv => am_le_at i h.2 hv
  | [], _ :: _, _, _, h, _ => h.elim
  | _ :: _, [], _, _, h, _ => h.elim
theorem am_le_of {a b : List Value} (hl : a.length = b.length) (h : ∀ (i : Nat) (v : Value), a[i]? = some v → b[i]? = some v ∨ (v = am_dead ∧ ∃ w, b[i]? = some w ∧ am_nr w = true)) : am_le a b := by
  induction a generalizing b with
  | nil => cases b with
    | nil => trivial
    | cons => simp at hl
  | cons v r ih => cases b with
    | nil => simp at hl
    | cons w q =>
      refine ⟨?_, ih (by simpa using hl) (fun i u hu => h (i + 1) u hu)⟩
      rcases h 0 v rfl with h1 | ⟨h1, x, h2, h3⟩
      · exact Or.inl (Option.some.inj h1).symm
      · cases h2; exact Or.inr ⟨h1, h3⟩
theorem am_set_at {l : List Value} {k j : Nat} {x w : Value} (h : (l.set k x)[j]? = some w) : (j = k ∧ w = x ∧ k < l.length) ∨ (j ≠ k ∧ l[j]? = some w) := by
  by_cases hk : j = k
  · subst hk
    have hl : j < l.length := by
      have := (List.getElem?_eq_some_iff.mp h).1
      simpa using this
    rw [List.getElem?_set_self hl] at h
    exact Or.inl ⟨rfl, (Option.some.inj h).symm, hl⟩
  · rw [List.getElem?_set_ne (fun q => hk q.symm)] at h
    exact Or.inr ⟨hk, h⟩
theorem am_le_set {a b : List Value} (h : am_le a b) (i : Nat) (v : Value) : am_le (a.set i v) (b.set i v) := by
  refine am_le_of (by simpa using am_le_len h) fun j w hw => ?_
  rcases am_set_at hw with ⟨rfl, rfl, hl⟩ | ⟨h1, h2⟩
  · exact Or.inl (List.getElem?_set_self (by rw [← am_le_len h]; exact hl))
  · rw [List.getElem?_set_ne (fun q => h1 q.symm)]
    exact am_le_at j h h2
theorem am_le_rf : ∀ a : List Value, am_le a a
  | [] => trivial
  | v :: r => ⟨Or.inl rfl, am_le_rf r⟩
theorem am_le_setR {a b : List Value} (h : am_le a b) {i : Nat} (hi : ∀ v, a[i]? = some v → v = am_dead) : am_le a (b.set i am_dead) := by
  refine am_le_of (by simpa using am_le_len h) fun j w hw => ?_
  by_cases hj : j = i
  · subst hj
    have hl : j < b.length := by rw [← am_le_len h]; exact (List.getElem?_eq_some_iff.mp hw).1
    exact Or.inl (by rw [List.getElem?_set_self hl, hi w hw])
  · rw [List.getElem?_set_ne (fun q => hj q.symm)]
    exact am_le_at j h hw
theorem am_le_clr {a b : List Value} (h : am_le a b) (i : Nat) : am_le (am_clr a i) (am_clr b i) := by
  cases i with
  | zero => exact h
  | succ j =>
    dsimp only [am_clr]
    cases ha : a[j]? with
    | none =>
      have hb : b[j]? = none := by
        rw [List.getElem?_eq_none_iff] at ha ⊢
        rw [← am_le_len h]; exact ha
      rw [hb]; exact h
    | some v =>
      rcases am_le_at j h ha with hb | ⟨rfl, w, hb, hw⟩
      · rw [hb]
        dsimp only
        by_cases hc : v.category = 2
        · rw [if_pos hc, if_pos hc]; exact am_le_set h j am_dead
        · rw [if_neg hc, if_neg hc]; exact h
      · rw [hb]
        dsimp only
        rw [if_neg (show ¬ am_dead.category = 2 by decide)]
        by_cases hc : w.category = 2
        · rw [if_pos hc]; exact am_le_setR h (fun v hv => by rw [ha] at hv; exact (Option.some.inj hv).symm)
        · rw [if_neg hc]; exact h
theorem am_le_put {a b : List Value} (h : am_le a b) (i : Nat) (v : Value) : am_le (am_put a i v) (am_put b i v) := by
  unfold am_put
  by_cases hc : v.category = 2
  · rw [if_pos hc, if_pos hc]; exact am_le_set (am_le_set (am_le_clr h i) i v) (i + 1) am_dead
  · rw [if_neg hc, if_neg hc]; exact am_le_set (am_le_clr h i) i v
theorem am_le_all {p : Value → Bool} (hp : ∀ w, am_nr w = true → p w = true) : ∀ {a b : List Value}, am_le a b → a.all p = true → b.all p = true
  | [], [], _, _ => rfl
  | v :: r, w :: q, h, ha => by
    rw [List.all_cons, Bool.and_eq_true] at ha ⊢
    refine ⟨?_, am_le_all hp h.2 ha.2⟩
    rcases h.1 with rfl | ⟨-, h2⟩
    · exact ha.1
    · exact hp w h2
  | [], _ :: _, h, _ => h.elim
  | _ :: _, [], h, _ => h.elim
theorem am_le_nv {n : Nat} {a b : List Value} (h : am_le a b) (ha : am_nv n a = true) : am_nv n b = true := am_le_all (fun w hw => by cases w <;> first | rfl | cases hw) h ha
theorem am_le_scp {n : Nat} {a b : List Value} (h : am_le a b) (ha : am_scp n a = true) : am_scp n b = true := am_le_all (fun w hw => by cases w <;> first | rfl | cases hw) h ha
theorem am_le_ld {i : Instr} {a b : List Value} (h : am_le a b) {x : Nat × Value} (hx : am_ld i a = some x) : am_ld i b = some x := by
  have key : ∀ (k : Nat) (v : Value), v ≠ am_dead → a[k]? = some v → b[k]? = some v := fun k v hv hk => (am_le_at k h hk).resolve_right (fun q => hv q.1)
  have kI : ∀ k v, am_ldI a k = some v → am_ldI b k = some v := fun k v hk => by
    obtain ⟨z, h1, rfl⟩ := am_ldIs hk; unfold am_ldI; rw [key k _ (by simp [am_dead]) h1]
  have kL : ∀ k v, am_ldL a k = some v → am_ldL b k = some v := fun k v hk => by
    obtain ⟨z, h1, rfl⟩ := am_ldLs hk; unfold am_ldL; rw [key k _ (by simp [am_dead]) h1]
  have kF : ∀ k v, am_ldF a k = some v → am_ldF b k = some v := fun k v hk => by
    obtain ⟨z, h1, rfl⟩ := am_ldFs hk; unfold am_ldF; rw [key k _ (by simp [am_dead]) h1]
  have kD : ∀ k v, am_ldD a k = some v → am_ldD b k = some v := fun k v hk => by
    obtain ⟨z, h1, rfl⟩ := am_ldDs hk; unfold am_ldD; rw [key k _ (by simp [am_dead]) h1]
  have kA : ∀ k v, am_ldA a k = some v → am_ldA b k = some v := fun k v hk => by
    obtain ⟨z, h1, rfl⟩ := am_ldAs hk; unfold am_ldA; rw [key k _ (by simp [am_dead]) h1]
  unfold am_ld at hx ⊢
  split at hx
  · obtain ⟨w, hw, e⟩ := Option.map_eq_some_iff.mp hx; rw [kI _ _ hw]; exact congrArg some e
  · obtain ⟨w, hw, e⟩ := Option.map_eq_some_iff.mp hx; rw [kI _ _ hw]; exact congrArg some e
  · obtain ⟨w, hw, e⟩ := Option.map_eq_some_iff.mp hx; rw [kL _ _ hw]; exact congrArg some e
  · obtain ⟨w, hw, e⟩ := Option.map_eq_some_iff.mp hx; rw [kL _ _ hw]; exact congrArg some e
  · obtain ⟨w, hw, e⟩ := Option.map_eq_some_iff.mp hx; rw [kF _ _ hw]; exact congrArg some e
  · obtain ⟨w, hw, e⟩ := Option.map_eq_some_iff.mp hx; rw [kD _ _ hw]; exact congrArg some e
  · obtain ⟨w, hw, e⟩ := Option.map_eq_some_iff.mp hx; rw [kD _ _ hw]; exact congrArg some e
  · obtain ⟨w, hw, e⟩ := Option.map_eq_some_iff.mp hx; rw [kA _ _ hw]; exact congrArg some e
  · obtain ⟨w, hw, e⟩ := Option.map_eq_some_iff.mp hx; rw [kA _ _ hw]; exact congrArg some e
  · cases hx
def am_isLd : Instr → Bool
  | .iload _ | .iload_n _ | .lload _ | .lload_n _ | .fload_n _ | .dload _ | .dload_n _ | .aload _ | .aload_n _ => true
  | _ => false
def am_isSto : Instr → Bool
  | .istore _ | .istore_n _ | .astore _ | .astore_n _ | .fstore_n _ | .lstore _ | .lstore_n _ | .dstore _ | .dstore_n _ | .iinc _ _ => true
  | _ => false
theorem am_ldX {i : Instr} (h : am_isLd i = false) (lc : List Value) : am_ld i lc = none := by
  cases i <;> first | rfl | cases h
theorem am_stoX {i : Instr} (h : am_isSto i = false) (lc st : List Value) : am_sto i lc st = none := by
  cases i <;> first | rfl | cases h
theorem am_isLd_only {i : Instr} (hi : am_isLd i = true) (au : List Nat) (pc : Nat) (lc st : List Value) (h : am_AH) (ret : Option FieldType) : am_sto i lc st = none ∧ am_br i au pc st = none ∧ am_hp xs L i au st h = none ∧ am_sp i au st h = none ∧ am_cl1 i au st = none ∧ am_rt ret i st = none ∧ am_al i au lc st h = none ∧ ∀ x, i ≠ .new x := by
  cases i <;> first | exact ⟨rfl, rfl, rfl, rfl, rfl, rfl, rfl, fun _ q => by cases q⟩ | cases hi
theorem am_isSto_only {i : Instr} (hi : am_isSto i = true) (au : List Nat) (pc : Nat) (lc st : List Value) (h : am_AH) (ret : Option FieldType) : am_ld i lc = none ∧ am_br i au pc st = none ∧ am_hp xs L i au st h = none ∧ am_sp i au st h = none ∧ am_cl1 i au st = none ∧ am_rt ret i st = none ∧ am_al i au lc st h = none ∧ ∀ x, i ≠ .new x := by
  cases i <;> first | exact ⟨rfl, rfl, rfl, rfl, rfl, rfl, rfl, fun _ q => by cases q⟩ | cases hi
theorem am_le_st1 {lc lc' : List Value} (h : am_le lc lc') {k n : Nat} {v : Value} {r : List Value} {x : Nat × List Value × List Value} (hx : am_st1 lc k v n r = some x) : ∃ q, am_st1 lc' k v n r = some (x.1, q, x.2.2) ∧ am_le x.2.1 q := by
  obtain ⟨n', l', r'⟩ := x
  obtain ⟨h1, rfl, rfl, rfl⟩ := am_st1s hx
  exact ⟨am_put lc' k v, by unfold am_st1; rw [if_pos (by rw [← am_le_len h]; exact h1)], am_le_put h k v⟩
theorem am_le_st2 {lc lc' : List Value} (h : am_le lc lc') {k n : Nat} {v : Value} {r : List Value} {x : Nat × List Value × List Value} (hx : am_st2 lc k v n r = some x) : ∃ q, am_st2 lc' k v n r = some (x.1, q, x.2.2) ∧ am_le x.2.1 q := by
  obtain ⟨n', l', r'⟩ := x
  obtain ⟨h1, rfl, rfl, rfl⟩ := am_st2s hx
  exact ⟨am_put lc' k v, by unfold am_st2; rw [if_pos (by rw [← am_le_len h]; exact h1)], am_le_put h k v⟩
theorem am_le_sto {i : Instr} {lc lc' st : List Value} (h : am_le lc lc') {x : Nat × List Value × List Value} (hx : am_sto i lc st = some x) : ∃ q, am_sto i lc' st = some (x.1, q, x.2.2) ∧ am_le x.2.1 q := by
  unfold am_sto at hx ⊢
  split at hx
  case h_10 j d =>
    split at hx
    · next z hz =>
      have hz' := (am_le_at j h hz).resolve_right (fun q => by cases q.1)
      rw [hz']
      exact am_le_st1 h hx
    · cases hx
  case h_11 => cases hx
  all_goals
    split at hx
    · first | exact am_le_st1 h hx | exact am_le_st2 h hx
    · cases hx
theorem am_le_al {i : Instr} {au : List Nat} {lc lc' st : List Value} {h : am_AH} (hl : am_le lc lc') {C : Prop} {y : Nat × List Value × am_AH × Nat} (hx : am_al i au lc st h = some (C, y)) : ∃ C' : Prop, am_al i au lc' st h = some (C', y) ∧ (C → C') := by
  unfold am_al at hx ⊢
  split at hx
  · split at hx
    · split at hx
      · cases hx
        exact ⟨_, rfl, fun q => ⟨am_le_nv hl q.1, q.2⟩⟩
      · cases hx
    · cases hx
  · split at hx
    · split at hx
      · cases hx
        exact ⟨_, rfl, fun q => ⟨am_le_nv hl q.1, q.2⟩⟩
      · cases hx
        exact ⟨_, rfl, fun q => ⟨am_le_nv hl q.1, q.2⟩⟩
      · cases hx
        exact ⟨_, rfl, fun q => ⟨am_le_nv hl q.1, q.2⟩⟩
      · cases hx
    · cases hx
  · split at hx
    · cases hx
      exact ⟨_, rfl, fun q => ⟨am_le_nv hl q.1, q.2⟩⟩
    · cases hx
  · cases hx
theorem am_w_le : ∀ (n d k mc ms : Nat) (pc : Nat) (lc lc' st : List Value) (h : am_AH) (c s : Nat) (Q : am_O → am_AH → Prop), am_le lc lc' → am_w xs L n d k mc ms (pc, lc, st, h, c, s) Q → am_w xs L n d k mc ms (pc, lc', st, h, c, s) Q
  | 0, _, _, _, _, _, _, _, _, _, _, _, _, _, h => h.elim
  | n + 1, d, k, mc, ms, pc, lc, lc', st, h0, c, s, Q, hle, h => by
    rw [am_w] at h ⊢
    cases hk : am_pg[k]? with
    | none => rw [hk] at h; exact h.elim
    | some mi =>
    rw [hk] at h
    dsimp only at h ⊢
    cases hl : mi.2.2.lookup pc with
    | none => rw [hl] at h; exact h.elim
    | some ai =>
    rw [hl] at h
    dsimp only at h ⊢
    cases hst : am_step xs L mc ms mi.1.2.2.2.2 ai pc lc st h0 c s with
    | none => rw [hst] at h; exact h.elim
    | some Cr =>
    obtain ⟨C, r⟩ := Cr
    rw [hst] at h
    obtain ⟨i, len, au⟩ := ai
    unfold am_step at hst ⊢
    dsimp only at hst ⊢
    cases h1 : am_ar i st with
    | some x =>
      obtain ⟨C1, st1⟩ := x
      rw [h1] at hst
      cases hst
      exact ⟨h.1, am_w_le n d k mc ms _ lc lc' _ _ _ _ Q hle h.2⟩
    | none =>
    rw [h1] at hst
    dsimp only at hst ⊢
    by_cases hld : am_isLd i = true
    · obtain ⟨g1, g2, g3, g4, g5, g6, g7, g8⟩ := am_isLd_only (xs := xs) (L := L) hld au pc lc st h0 mi.1.2.2.2.2
      cases h2 : am_ld i lc with
      | some x =>
        obtain ⟨n1, v⟩ := x
        rw [h2] at hst
        rw [am_le_ld hle h2]
        cases hst
        exact ⟨h.1, am_w_le n d k mc ms _ lc lc' _ _ _ _ Q hle h.2⟩
      | none =>
        rw [h2] at hst
        dsimp only at hst
        rw [g1] at hst
        dsimp only at hst
        rw [g2] at hst
        dsimp only at hst
        rw [g3] at hst
        dsimp only at hst
        rw [g4] at hst
        dsimp only at hst
        rw [g5] at hst
        dsimp only at hst
        rw [g6] at hst
        dsimp only at hst
        rw [g7] at hst
        dsimp only at hst
        obtain ⟨idx, E, rest, e1, -, -⟩ := am_th_inv hst
        exact absurd e1 (g8 idx)
    have hld : am_isLd i = false := by simpa using hld
    rw [am_ldX hld lc] at hst
    rw [am_ldX hld lc']
    dsimp only at hst ⊢
    by_cases hsto : am_isSto i = true
    · obtain ⟨g1, g2, g3, g4, g5, g6, g7, g8⟩ := am_isSto_only (xs := xs) (L := L) hsto au pc lc st h0 mi.1.2.2.2.2
      cases h2 : am_sto i lc st with
      | some x =>
        obtain ⟨n1, l1, st1⟩ := x
        rw [h2] at hst
        obtain ⟨q, e1, e2⟩ := am_le_sto hle h2
        rw [e1]
        cases hst
        exact ⟨h.1, am_w_le n d k mc ms _ l1 q _ _ _ _ Q e2 h.2⟩
      | none =>
        rw [h2] at hst
        dsimp only at hst
        rw [g2] at hst
        dsimp only at hst
        rw [g3] at hst
        dsimp only at hst
        rw [g4] at hst
        dsimp only at hst
        rw [g5] at hst
        dsimp only at hst
        rw [g6] at hst
        dsimp only at hst
        rw [g7] at hst
        dsimp only at hst
        obtain ⟨idx, E, rest, e1, -, -⟩ := am_th_inv hst
        exact absurd e1 (g8 idx)
    have hsto : am_isSto i = false := by simpa using hsto
    rw [am_stoX hsto lc st] at hst
    rw [am_stoX hsto lc' st]
    dsimp only at hst ⊢
    cases h4 : am_br i au pc st with
    | some x =>
      obtain ⟨p1, st1⟩ := x
      rw [h4] at hst
      cases hst
      exact ⟨h.1, am_w_le n d k mc ms _ lc lc' _ _ _ _ Q hle h.2⟩
    | none =>
    rw [h4] at hst
    dsimp only at hst ⊢
    cases h5 : am_hp xs L i au st h0 with
    | some x =>
      obtain ⟨C1, n1, st1, hh1⟩ := x
      rw [h5] at hst
      cases hst
      exact ⟨h.1, am_w_le n d k mc ms _ lc lc' _ _ _ _ Q hle h.2⟩
    | none =>
    rw [h5] at hst
    dsimp only at hst ⊢
    cases h6 : am_sp i au st h0 with
    | some x =>
      obtain ⟨C1, n1, st1, hh1⟩ := x
      rw [h6] at hst
      cases hst
      exact ⟨h.1, am_w_le n d k mc ms _ lc lc' _ _ _ _ Q hle h.2⟩
    | none =>
    rw [h6] at hst
    dsimp only at hst ⊢
    cases h7 : am_cl1 i au st with
    | some x =>
      obtain ⟨k', as, r1⟩ := x
      rw [h7] at hst
      cases hst
      obtain ⟨w1, d1, mc1, ms1, mi', rfl, g2, g3, g4, g5, g6, g7⟩ := h
      refine ⟨w1, d1, mc1, ms1, mi', rfl, g2, g3, g4, g5, g6, ?_⟩
      refine am_w_mono n n d1 d1 k' mc1 mc1 ms1 ms1 _ _ _ (Nat.le_refl _) (Nat.le_refl _) (Nat.le_refl _) (Nat.le_refl _) (fun o h' hq => ?_) g7
      match o, hq with
      | .inl v, hq => exact ⟨hq.1.imp id (fun z => by rw [Bool.and_eq_true] at z ⊢; exact ⟨am_le_scp hle z.1, z.2⟩), am_w_le n (d1 + 1) k mc ms _ lc lc' _ _ _ _ Q hle hq.2⟩
      | .inr E, hq =>
        dsimp only at hq ⊢
        cases hhd : am_hd (au.drop 4) E with
        | none =>
          rw [hhd] at hq
          exact hq
        | some pi =>
          obtain ⟨p, j⟩ := pi
          rw [hhd] at hq
          exact ⟨by rw [← am_le_len hle]; exact hq.1, hq.2.1.imp id (fun z => am_le_scp hle z), am_w_le n (d1 + 1) k mc ms _ _ _ _ _ _ _ Q (am_le_put hle j am_dead) hq.2.2⟩
    | none =>
    rw [h7] at hst
    dsimp only at hst ⊢
    cases h8 : am_rt mi.1.2.2.2.2 i st with
    | some x =>
      obtain ⟨C1, v⟩ := x
      rw [h8] at hst
      cases hst
      exact h
    | none =>
    rw [h8] at hst
    dsimp only at hst ⊢
    cases h9 : am_al i au lc st h0 with
    | some x =>
      obtain ⟨C1, n1, st1, hh1, z1⟩ := x
      rw [h9] at hst
      obtain ⟨C2, e1, e2⟩ := am_le_al hle h9
      rw [e1]
      cases hst
      exact ⟨⟨e2 h.1.1, h.1.2⟩, am_w_le n d k mc ms _ lc lc' _ _ _ _ Q hle h.2⟩
    | none =>
    rw [h9] at hst
    dsimp only at hst
    obtain ⟨idx, E, rest, e1, e2, hst⟩ := am_th_inv hst
    subst e1; subst e2
    cases hst
    cases h10 : am_al (.new idx) (9 :: E :: rest) lc' st h0 with
    | some x => unfold am_al at h10; cases h10
    | none => exact h
end XA
