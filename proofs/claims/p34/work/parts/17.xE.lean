/-! a run that makes nothing goes on alike beside more cells -/
section XF
variable {xs : Nat → Int32} {L : Nat} {h t : am_AH}
theorem f_at {a : Nat} {e : va_E} (q : h[a]? = some e) : (h ++ t)[a]? = some e := by
  rw [List.getElem?_append_left (List.getElem?_eq_some_iff.mp q).1]; exact q
theorem f_no (hl : h.length + t.length ≤ 1000000) {a : Nat} (ha : 1000000 ≤ a) : (h ++ t)[a]? = none := List.getElem?_eq_none (by rw [List.length_append]; omega)
theorem f_no0 (hl : h.length + t.length ≤ 1000000) {a : Nat} (e : a = 1000000) : (h ++ t)[a]? = none := f_no hl (by omega)
theorem f_no1 (hl : h.length + t.length ≤ 1000000) {a : Nat} (e : a = 1000001) : (h ++ t)[a]? = none := f_no hl (by omega)
theorem f_no2 (hl : h.length + t.length ≤ 1000000) {a : Nat} (e : a = 1000002) : (h ++ t)[a]? = none := f_no hl (by omega)
theorem f_no01 (hl : h.length + t.length ≤ 1000000) {a : Nat} (e : a = 1000000 ∨ a = 1000001) : (h ++ t)[a]? = none := f_no hl (by omega)
theorem f_set {a : Nat} {e : va_E} (q : h[a]? = some e) (x : va_E) : (h ++ t).set a x = h.set a x ++ t := List.set_append_left _ _ (List.getElem?_eq_some_iff.mp q).1
theorem am_hp_fr {i : Instr} {au : List Nat} {st st' : List Value} {h' : am_AH} {C : Prop} {n : Nat} (hl : h.length + t.length ≤ 1000000) (hh : am_hp xs L i au st h = some (C, n, st', h')) : am_hp xs L i au st (h ++ t) = some (C, n, st', h' ++ t) := by
  unfold am_hp at hh
  split at hh
  · -- getfield
    split at hh
    · next a r ci k rest =>
      split at hh
      · next ci' fs q =>
        split at hh
        · next e =>
          split at hh
          · next v qv => cases hh; unfold am_hp; dsimp only; rw [f_at q]; (try dsimp only); rw [if_pos e, qv]
          · cases hh
        · cases hh
      · cases hh
    · cases hh
  · -- putfield
    split at hh
    · next v a r ci k kd rest =>
      split at hh
      · next ci' fs q =>
        split at hh
        · next e =>
          unfold am_hp; dsimp only; rw [f_at q]; (try dsimp only); rw [if_pos e]
          split at hh <;> first | (cases hh; (try dsimp only); rw [f_set q]) | cases hh
        · cases hh
      · cases hh
    · cases hh
  · -- getstatic
    split at hh
    · next p rest =>
      split at hh
      · next e => cases hh; unfold am_hp; dsimp only; rw [if_pos e]
      · cases hh
    · cases hh
  · -- iaload
    split at hh
    · next j a r =>
      split at hh
      · next n0 f q => cases hh; unfold am_hp; dsimp only; rw [f_at q]; try rfl
      · cases hh
      · next q =>
        unfold am_hp; dsimp only
        split at hh
        · next e => cases hh; rw [f_no0 hl e]; dsimp only; rw [if_pos e]
        · next e =>
          split at hh
          · next e2 => cases hh; rw [f_no1 hl e2]; dsimp only; rw [if_neg e, if_pos e2]
          · next e2 =>
            split at hh
            · next e3 => cases hh; rw [f_no2 hl e3]; dsimp only; rw [if_neg e, if_neg e2, if_pos e3]
            · cases hh
    · cases hh
  · -- arraylength
    split at hh
    · next a r =>
      split at hh
      · next t0 n0 f q => cases hh; unfold am_hp; dsimp only; rw [f_at q]; try rfl
      · cases hh
      · next q =>
        unfold am_hp; dsimp only
        split at hh
        · next e => cases hh; rw [f_no01 hl e]; dsimp only; rw [if_pos e]
        · next e =>
          split at hh
          · next e2 => cases hh; rw [f_no2 hl e2]; dsimp only; rw [if_neg e, if_pos e2]
          · cases hh
    · cases hh
  · -- iastore
    split at hh
    · next x j a r =>
      split at hh
      · next n0 f q => cases hh; unfold am_hp; dsimp only; rw [f_at q, ← f_set q]; rfl
      · cases hh
    · cases hh
  · -- laload
    split at hh
    · next j a r =>
      split at hh
      · next n0 f q => cases hh; unfold am_hp; dsimp only; rw [f_at q]; try rfl
      · cases hh
    · cases hh
  · -- lastore
    split at hh
    · next x j a r =>
      split at hh
      · next n0 f q => cases hh; unfold am_hp; dsimp only; rw [f_at q, ← f_set q]; rfl
      · cases hh
    · cases hh
  · -- daload
    split at hh
    · next j a r =>
      split at hh
      · next n0 f q => cases hh; unfold am_hp; dsimp only; rw [f_at q]; try rfl
      · cases hh
    · cases hh
  · -- dastore
    split at hh
    · next x j a r =>
      split at hh
      · next n0 f q => cases hh; unfold am_hp; dsimp only; rw [f_at q, ← f_set q]; rfl
      · cases hh
    · cases hh
  · -- aaload
    split at hh
    · next j a r =>
      split at hh
      · next n0 f q =>
        split at hh
        · next v qv => cases hh; unfold am_hp; dsimp only; rw [f_at q]; show (match f j.toNatClampNeg with | some q => some (vp_in j n0, 1, Value.ref q :: r, h ++ t) | none => none) = _; rw [qv]
        · cases hh
      · cases hh
    · cases hh
  · -- aastore
    split at hh
    · next v j a r =>
      split at hh
      · next n0 f fs q q2 => cases hh; unfold am_hp; dsimp only; rw [f_at q, f_at q2, ← f_set q]; rfl
      · cases hh
    · cases hh
  · cases hh
theorem am_sp_fr {i : Instr} {au : List Nat} {st st' : List Value} {h' : am_AH} {C : Prop} {n : Nat} (hh : am_sp i au st h = some (C, n, st', h')) : am_sp i au st (h ++ t) = some (C, n, st', h' ++ t) ∧ am_hp xs L i au st (h ++ t) = none := by
  unfold am_sp at hh
  split at hh
  · refine ⟨?_, rfl⟩
    split at hh
    · split at hh
      · next y x r =>
        split at hh
        · next hc => cases hh; exact if_pos hc
        · cases hh
      · cases hh
    · split at hh
      · next y x r =>
        split at hh
        · next hc => cases hh; exact if_pos hc
        · cases hh
      · cases hh
    · split at hh
      · next n dp a sp b r =>
        split at hh
        · next hc =>
          split at hh
          · next n0 f n1 g q1 q2 => cases hh; refine (if_pos hc).trans ?_; rw [f_at q1, f_at q2, ← f_set q2]; rfl
          · cases hh
        · cases hh
      · cases hh
    · cases hh
  · refine ⟨?_, rfl⟩
    split at hh
    · split at hh
      · next r =>
        split at hh
        · next hc => cases hh; exact if_pos hc
        · cases hh
      · cases hh
    · cases hh
  · refine ⟨?_, rfl⟩
    split at hh <;> first | (cases hh; rfl) | cases hh
  · refine ⟨?_, rfl⟩
    split at hh <;> first | (cases hh; rfl) | cases hh
  · refine ⟨?_, rfl⟩
    split at hh <;> first | (cases hh; rfl) | cases hh
  · cases hh
theorem am_cl1_fr {i : Instr} {au : List Nat} {st : List Value} {x : Nat × List Value × List Value} (hh : am_cl1 i au st = some x) : am_sp i au st (h ++ t) = none ∧ am_hp xs L i au st (h ++ t) = none := by
  unfold am_cl1 at hh
  split at hh
  · split at hh
    · next k n j rest =>
      split at hh
      · next c =>
        refine ⟨?_, rfl⟩
        unfold am_sp; dsimp only
        split
        · next e => cases e; omega
        · next e => cases e; omega
        · next e => cases e; omega
        · rfl
      · cases hh
    · cases hh
  · split at hh
    · next k n j rest =>
      split at hh
      · next c => exact ⟨rfl, rfl⟩
      · cases hh
    · cases hh
  · split at hh
    · next k n j rest =>
      split at hh
      · next c =>
        refine ⟨?_, rfl⟩
        unfold am_sp; dsimp only
        split
        · next e => cases e; omega
        · rfl
      · cases hh
    · cases hh
  · cases hh
theorem am_rt_fr {i : Instr} {au : List Nat} {st : List Value} {ret : Option FieldType} {x : Prop × Option Value} (hh : am_rt ret i st = some x) : am_cl1 i au st = none ∧ am_sp i au st (h ++ t) = none ∧ am_hp xs L i au st (h ++ t) = none := by
  unfold am_rt at hh
  split at hh <;> first | exact ⟨rfl, rfl, rfl⟩ | cases hh
def am_fT (t : am_AH) : am_ST → am_ST
  | .inl (pc, lc, st, h, c, s) => .inl (pc, lc, st, h ++ t, c, s)
  | .inr x => .inr x
theorem am_step_fr {ms pc c s : Nat} {ret : Option FieldType} {ai : am_AI} {lc st : List Value} {C : Prop} {r : am_ST} (hl : h.length + t.length ≤ 1000000) (hh : am_step xs L 0 ms ret ai pc lc st h c s = some (C, r)) (hC : C) :
    am_step xs L 0 ms ret ai pc lc st (h ++ t) c s = some (C, am_fT t r) ∧ ∀ pc' lc' st' h' c' s', r = .inl (pc', lc', st', h', c', s') → h'.length = h.length := by
  unfold am_step at hh ⊢
  cases h1 : am_ar ai.1 st with
  | some x =>
    obtain ⟨C1, st1⟩ := x
    rw [h1] at hh
    cases hh
    exact ⟨rfl, fun _ _ _ _ _ _ e => by cases e; rfl⟩
  | none =>
  rw [h1] at hh
  dsimp only at hh ⊢
  cases h2 : am_ld ai.1 lc with
  | some x =>
    obtain ⟨C1, st1⟩ := x
    rw [h2] at hh
    cases hh
    exact ⟨rfl, fun _ _ _ _ _ _ e => by cases e; rfl⟩
  | none =>
  rw [h2] at hh
  dsimp only at hh ⊢
  cases h3 : am_sto ai.1 lc st with
  | some x =>
    obtain ⟨C1, lc1, st1⟩ := x
    rw [h3] at hh
    cases hh
    exact ⟨rfl, fun _ _ _ _ _ _ e => by cases e; rfl⟩
  | none =>
  rw [h3] at hh
  dsimp only at hh ⊢
  cases h4 : am_br ai.1 ai.2.2 pc st with
  | some x =>
    obtain ⟨C1, st1⟩ := x
    rw [h4] at hh
    cases hh
    exact ⟨rfl, fun _ _ _ _ _ _ e => by cases e; rfl⟩
  | none =>
  rw [h4] at hh
  dsimp only at hh ⊢
  cases h5 : am_hp xs L ai.1 ai.2.2 st h with
  | some x =>
    obtain ⟨C1, n1, st1, hh1⟩ := x
    rw [h5] at hh
    cases hh
    rw [am_hp_fr hl h5]
    exact ⟨rfl, fun _ _ _ _ _ _ e => by cases e; exact am_hp_len h5⟩
  | none =>
  rw [h5] at hh
  dsimp only at hh
  cases h6 : am_sp ai.1 ai.2.2 st h with
  | some x =>
    obtain ⟨C1, n1, st1, hh1⟩ := x
    rw [h6] at hh
    cases hh
    rw [(am_sp_fr (xs := xs) (L := L) (t := t) h6).2]
    dsimp only
    rw [(am_sp_fr (xs := xs) (L := L) (t := t) h6).1]
    exact ⟨rfl, fun _ _ _ _ _ _ e => by cases e; exact am_sp_len h6⟩
  | none =>
  rw [h6] at hh
  dsimp only at hh
  cases h7 : am_cl1 ai.1 ai.2.2 st with
  | some x =>
    obtain ⟨k1, as1, r1⟩ := x
    rw [h7] at hh
    cases hh
    rw [(am_cl1_fr (xs := xs) (L := L) (h := h) (t := t) h7).2]
    dsimp only
    rw [(am_cl1_fr (xs := xs) (L := L) (h := h) (t := t) h7).1]
    exact ⟨rfl, fun _ _ _ _ _ _ e => by cases e⟩
  | none =>
  rw [h7] at hh
  dsimp only at hh
  cases h8 : am_rt ret ai.1 st with
  | some x =>
    obtain ⟨C1, v1⟩ := x
    rw [h8] at hh
    cases hh
    obtain ⟨e1, e2, e3⟩ := am_rt_fr (xs := xs) (L := L) (h := h) (t := t) (au := ai.2.2) h8
    rw [e3]
    dsimp only
    rw [e2]
    exact ⟨rfl, fun _ _ _ _ _ _ e => by cases e⟩
  | none =>
  rw [h8] at hh
  dsimp only at hh
  cases h9 : am_al ai.1 ai.2.2 lc st h with
  | some x =>
    obtain ⟨C1, n1, st1, hh1, z1⟩ := x
    rw [h9] at hh
    cases hh
    exact absurd hC.2.1 (by omega)
  | none =>
  rw [h9] at hh
  dsimp only at hh
  split at hh
  · cases hh
    exact absurd hC.1 (by omega)
  · cases hh
theorem am_rcv_fr {mi : am_MI} {as : List Value} (hh : am_rcv mi as h = true) : am_rcv mi as (h ++ t) = true := by
  unfold am_rcv at hh ⊢
  generalize mi.2.1.1 = z at hh ⊢
  match z, hh with
  | 0, _ => rfl
  | 1, hh =>
    match as, hh with
    | [], hh => exact hh
    | .ref a :: r, hh =>
      cases q : h[a]? with
      | none =>
        have hh2 : (match h[a]? with
          | some (.inr (ci, _)) => (match am_cls[ci]? with
            | some q => q.1 == mi.1.1
            | none => false)
          | _ => false) = true := hh
        rw [q] at hh2
        cases hh2
      | some e =>
        show (match (h ++ t)[a]? with
          | some (.inr (ci, _)) => (match am_cls[ci]? with
            | some q => q.1 == mi.1.1
            | none => false)
          | _ => false) = true
        rw [f_at q]
        have hh2 : (match h[a]? with
          | some (.inr (ci, _)) => (match am_cls[ci]? with
            | some q => q.1 == mi.1.1
            | none => false)
          | _ => false) = true := hh
        rw [q] at hh2
        exact hh2
    | .int _ :: _, hh => exact hh
    | .long _ :: _, hh => exact hh
    | .float _ :: _, hh => exact hh
    | .double _ :: _, hh => exact hh
    | .null :: _, hh => exact hh
    | .retAddr _ :: _, hh => exact hh
  | z + 2, hh => exact hh
theorem am_scp_le {n m : Nat} (hnm : n ≤ m) {l : List Value} (hh : am_scp n l = true) : am_scp m l = true := by
  unfold am_scp at hh ⊢
  rw [List.all_eq_true] at hh ⊢
  intro v hv
  have := hh v hv
  split
  · next a =>
    rw [Bool.or_eq_true, decide_eq_true_eq, decide_eq_true_eq] at this ⊢
    exact this.imp (fun q => Nat.lt_of_lt_of_le q hnm) id
  · rfl
theorem am_w_fr : ∀ (n d k ms pc : Nat) (lc st : List Value) (h : am_AH) (c s : Nat) (Q : am_O → am_AH → Prop), h.length + t.length ≤ 1000000 → am_w xs L n d k 0 ms (pc, lc, st, h, c, s) Q → am_w xs L n d k 0 ms (pc, lc, st, h ++ t, c, s) (fun o h' => ∃ h1, h' = h1 ++ t ∧ h1.length = h.length ∧ Q o h1)
  | 0, _, _, _, _, _, _, _, _, _, _, _, hw => hw.elim
  | n + 1, d, k, ms, pc, lc, st, h, c, s, Q, hl, hw => by
    rw [am_w] at hw ⊢
    cases g1 : am_pg[k]? with
    | none => rw [g1] at hw; exact hw.elim
    | some mi =>
    rw [g1] at hw
    dsimp only at hw ⊢
    cases g2 : mi.2.2.lookup pc with
    | none => rw [g2] at hw; exact hw.elim
    | some ai =>
    rw [g2] at hw
    dsimp only at hw ⊢
    cases g3 : am_step xs L 0 ms mi.1.2.2.2.2 ai pc lc st h c s with
    | none => rw [g3] at hw; exact hw.elim
    | some x =>
    obtain ⟨C, r⟩ := x
    rw [g3] at hw
    match r, g3, hw with
    | .inl (pc', lc', st', h', c', s'), g3, hw =>
      obtain ⟨e1, e2⟩ := am_step_fr hl g3 hw.1
      have e3 := e2 _ _ _ _ _ _ rfl
      rw [e1]
      refine ⟨hw.1, ?_⟩
      have := am_w_fr n d k ms pc' lc' st' h' c' s' Q (by omega) hw.2
      rw [e3] at this
      exact this
    | .inr (.inr (.inl v)), g3, hw =>
      obtain ⟨e1, -⟩ := am_step_fr hl g3 hw.1
      rw [e1]
      exact ⟨hw.1, h, rfl, rfl, hw.2⟩
    | .inr (.inr (.inr E)), g3, hw =>
      obtain ⟨e1, -⟩ := am_step_fr hl g3 hw.1
      rw [e1]
      exact ⟨hw.1, h, rfl, rfl, hw.2⟩
    | .inr (.inl (k', as, r1)), g3, hw =>
      obtain ⟨e1, -⟩ := am_step_fr hl g3 hw.1
      rw [e1]
      obtain ⟨hC, d', mc', ms', mi', w1, w2, w3, w4, w5, w6, w7⟩ := hw
      obtain rfl : mc' = 0 := by omega
      refine ⟨hC, d', 0, ms', mi', w1, w2, w3, w4, w5, am_rcv_fr w6, ?_⟩
      have := am_w_fr n d' k' ms' 0 _ _ h 0 0 _ hl w7
      refine am_w_mono n n d' d' k' 0 0 ms' ms' _ _ _ (Nat.le_refl _) (Nat.le_refl _) (Nat.le_refl _) (Nat.le_refl _) (fun o h' hq => ?_) this
      obtain ⟨h1, rfl, hlen, hq⟩ := hq
      match o, hq with
      | .inl v, hq =>
        obtain ⟨q1, q2⟩ := hq
        refine ⟨Or.inl (by rw [List.length_append, List.length_append, hlen]), ?_⟩
        have := am_w_fr n d k ms (pc + 3) lc _ h1 (c + 0) (s + ms') Q (by omega) q2
        rw [hlen] at this
        exact this
      | .inr E, hq =>
        dsimp only at hq ⊢
        split at hq
        · next p i e =>
          obtain ⟨q0, q1, q2⟩ := hq
          refine ⟨q0, Or.inl (by rw [List.length_append, List.length_append, hlen]), ?_⟩
          have := am_w_fr n d k ms p _ _ h1 (c + 0) (s + ms') Q (by omega) q2
          rw [hlen] at this
          exact this
        · next e =>
          exact ⟨hq.1, h1, rfl, hlen, hq.2⟩
/-- a call that comes back, beside more cells -/
theorem x_callT {k d mc ms pc p' : Nat} {lc st : List Value} {c s : Nat} {Q : am_O → am_AH → Prop} {i : Instr} {k' na j nest d0 : Nat} {hq : List Nat} {as rest : List Value} {v : Option Value} {D D' : am_D} (ht : t.length ≤ 900000) (r : am_at k pc = some (i, 3, k' :: na :: j :: nest :: hq)) (hi : am_isInv i = true) (hst : st = as.reverse ++ rest) (hn : as.length = na) (hk : k' < 1000) (hcat : (rest.map fun v => v.category).sum ≤ 8)
    (hY : am_Y xs L k' d0 0 0 as D (.inl v) D') (hd : d0 + 1 ≤ d) (hc : c ≤ mc) (hs : s ≤ ms) (hp : pc + 3 = p') (kk : am_X xs L k d mc ms p' lc (v.toList ++ rest) (am_mk D' ++ t) c s Q) : am_X xs L k d mc ms pc lc st (am_mk D ++ t) c s Q := by
  subst hp
  obtain ⟨n2, hn2⟩ := kk
  obtain ⟨⟨mi', g1, g2, g3⟩, n1, hn1⟩ := hY
  obtain ⟨e1, e2, e3, e4, e5, e6, e7⟩ := am_clS (xs := xs) (L := L) (lc := lc) (h := am_mk D ++ t) (pc := pc) (j := j) (hq := nest :: hq) hi hst hn hk hcat
  refine ⟨n1 + n2 + 1, ?_⟩
  unfold am_at at r
  obtain ⟨mi, f1, f2⟩ := Option.bind_eq_some_iff.mp r
  rw [am_w, f1]
  dsimp only
  rw [f2]
  dsimp only
  have hst2 : am_step xs L mc ms mi.1.2.2.2.2 (i, 3, k' :: na :: j :: nest :: hq) pc lc st (am_mk D ++ t) c s = some (True, .inr (.inl (k', as, rest))) := by unfold am_step; dsimp only; rw [e1]; dsimp only; rw [e2]; dsimp only; rw [e3]; dsimp only; rw [e4]; dsimp only; rw [e5]; dsimp only; rw [e6]; dsimp only; rw [e7]
  rw [hst2]
  obtain ⟨d1, rfl⟩ : ∃ d1, d = d1 + 1 := ⟨d - 1, by omega⟩
  have hnl : am_nl k' = mi'.1.2.2.2.1 := by unfold am_nl; rw [g1]; rfl
  rw [hnl] at hn1
  have hlen : (am_mk D).length + t.length ≤ 1000000 := by rw [am_mk_len, am_sh_len]; omega
  have hn1' := am_w_fr (t := t) n1 d0 k' 0 0 _ _ _ 0 0 _ hlen hn1
  refine ⟨trivial, d1, 0, 0, mi', rfl, hc, hs, g1, g2, am_rcv_fr g3, ?_⟩
  refine am_w_mono n1 (n1 + n2) d0 d1 k' 0 0 0 0 _ _ _ (by omega) (by omega) (Nat.le_refl _) (Nat.le_refl _) (fun o h' hq => ?_) hn1'
  obtain ⟨h1, eh1, -, eo, eh⟩ := hq
  subst eo
  subst eh1
  rw [eh]
  exact ⟨Or.inl (by rw [List.length_append, List.length_append, am_mk_len, am_mk_len]), am_w_mono n2 (n1 + n2) (d1 + 1) (d1 + 1) k mc mc ms ms _ _ _ (by omega) (Nat.le_refl _) (Nat.le_refl _) (Nat.le_refl _) (fun _ _ z => z) hn2⟩
end XF
