/-! the abstract machine over the machine itself: the heap -/
def am_ce (ad : Nat → Nat) (ca : Nat → ClassId) (k : Nat) : va_E → va_E
  | .inl (_, n, .inl f) => .inl (ca k, n, .inl f)
  | .inl (_, n, .inr (.inl f)) => .inl (ca k, n, .inr (.inl f))
  | .inl (_, n, .inr (.inr (.inl f))) => .inl (ca k, n, .inr (.inr (.inl f)))
  | .inl (_, n, .inr (.inr (.inr (.inl f)))) => .inl (ca k, n, .inr (.inr (.inr (.inl f))))
  | .inl (_, n, .inr (.inr (.inr (.inr f)))) => .inl (ca k, n, .inr (.inr (.inr (.inr (fun j => (f j).map ad)))))
  | .inr (ci, fs) => .inr (ci, fs.map (am_cv ad))
def am_ws (ad : Nat → Nat) (ca : Nat → ClassId) (h : am_AH) : va_W := h.mapIdx (fun k e => (ad k, am_ce ad ca k e))
theorem am_ws_at (ad : Nat → Nat) (ca : Nat → ClassId) (h : am_AH) (k : Nat) : (am_ws ad ca h)[k]? = (h[k]?).map (fun e => (ad k, am_ce ad ca k e)) := by
  unfold am_ws
  rw [List.getElem?_mapIdx]
theorem am_ws_of {ad : Nat → Nat} {ca : Nat → ClassId} {h : am_AH} {k : Nat} {e : va_E} (hk : h[k]? = some e) : (am_ws ad ca h)[k]? = some (ad k, am_ce ad ca k e) := by
  rw [am_ws_at, hk]; rfl
theorem am_ws_len (ad : Nat → Nat) (ca : Nat → ClassId) (h : am_AH) : (am_ws ad ca h).length = h.length := by
  unfold am_ws; simp
theorem am_ws_set (ad : Nat → Nat) (ca : Nat → ClassId) (h : am_AH) (k : Nat) (e : va_E) : (am_ws ad ca h).set k (ad k, am_ce ad ca k e) = am_ws ad ca (h.set k e) := by
  apply List.ext_getElem?
  intro j
  rw [am_ws_at]
  by_cases hj : k = j
  · subst hj
    by_cases hk : k < h.length
    · rw [List.getElem?_set_self (by rw [am_ws_len]; exact hk), List.getElem?_set_self hk]; rfl
    · rw [List.getElem?_eq_none (by simp [am_ws_len]; omega), List.getElem?_eq_none (by simp; omega)]; rfl
  · rw [List.getElem?_set_ne hj, List.getElem?_set_ne hj, am_ws_at]
def am_ty (tag : Nat) : FieldType := match tag with
  | 0 => .int
  | 1 => .long
  | 2 => .double
  | _ => .object "ClockDominoes$Table"
/-- the classes of the arrays -/
def am_KA (U : State) (ca : Nat → ClassId) (h : am_AH) : Prop := ∀ (k tag : Nat) (x : vp_A), h[k]? = some (.inl (tag, x)) → ArrOfT U (ca k) (am_ty tag) ∧ va_RA U (ca k) (am_ty tag)
theorem am_KA.moved {u U : State} (hvm : u.vm.Alike U.vm) {ca : Nat → ClassId} {h : am_AH} (hk : am_KA u ca h) : am_KA U ca h := fun k tag x hx => ⟨arrOfT_moved hvm (hk k tag x hx).1, (hk k tag x hx).2.moved hvm⟩
theorem am_KA.set {U : State} {ca : Nat → ClassId} {h : am_AH} (hk : am_KA U ca h) {a : Nat} {e : va_E} (he : ∀ (tag : Nat) (x : vp_A), e = .inl (tag, x) → ∃ x', h[a]? = some (.inl (tag, x'))) : am_KA U ca (h.set a e) := by
  intro k tag x hx
  by_cases hj : a = k
  · subst hj
    by_cases hl : a < h.length
    · rw [List.getElem?_set_self hl] at hx
      obtain ⟨x', hx'⟩ := he tag x (Option.some.inj hx)
      exact hk a tag x' hx'
    · rw [List.getElem?_eq_none (by simp; omega)] at hx; cases hx
  · rw [List.getElem?_set_ne hj] at hx
    exact hk k tag x hx
/-- the world of a frame -/
def am_I (D : va_G) (A : Nat → Prop) (tt : Nat → Nat) (s : State) (H0 H : Heap) (locs : List Loc) (ad : Nat → Nat) (ca : Nat → ClassId) (h : am_AH) : Prop :=
  va_P D am_cl (am_ws ad ca h) H ∧ va_D A (am_ws ad ca h) ∧ va_S A H0 H locs ∧ am_KA s ca h ∧ h.length ≤ 1000000 ∧ ∀ k, 1000000 ≤ k → ad k = tt k
theorem am_I.set {D : va_G} {A : Nat → Prop} {tt : Nat → Nat} {s : State} {H0 H H1 : Heap} {locs locs1 : List Loc} {ad : Nat → Nat} {ca : Nat → ClassId} {h : am_AH} (hI : am_I D A tt s H0 H locs ad ca h) {a : Nat} {e : va_E} {w : Nat × va_E} (hw : w = (ad a, am_ce ad ca a e)) (hP : va_P D am_cl ((am_ws ad ca h).set a w) H1) (hD : va_D A ((am_ws ad ca h).set a w)) (hS : va_S A H0 H1 locs1)
    (he : ∀ (tag : Nat) (x : vp_A), e = .inl (tag, x) → ∃ x', h[a]? = some (.inl (tag, x'))) : am_I D A tt s H0 H1 locs1 ad ca (h.set a e) := by
  subst hw
  rw [am_ws_set] at hP hD
  exact ⟨hP, hD, hS, hI.2.2.2.1.set he, by rw [List.length_set]; exact hI.2.2.2.2.1, hI.2.2.2.2.2⟩
/-- the tables' words that a contract may carry -/
def am_gw : List Cond := lw_tbl.filter goodWord
def am_wd (j : Nat) (w : Cond) : Bool := decide (lw_tbl[j]? = some w) && goodWord w
theorem am_wdI {j : Nat} {w : Cond} (h : am_wd j w = true) : w ∈ am_gw := by
  unfold am_wd at h
  simp only [Bool.and_eq_true, decide_eq_true_eq] at h
  exact List.mem_filter.mpr ⟨List.mem_of_getElem? h.1, h.2⟩
/-- a class of the program: its words, its types, its names -/
def am_clOk (q : String × List (String × String × String × Bool)) : Bool :=
  (u_ws q.1 (am_TT q.2) q.2.length).all (fun w => am_gw.contains w) && (q.2.all (fun f => (parseFieldDescriptor f.2.2.1).isSome) && (List.range q.2.length).all (fun a => (List.range q.2.length).all (fun b => a == b || !((am_TT q.2 a).2.1 == (am_TT q.2 b).2.1))))
def am_fok (own : String) (idx ci k j : Nat) : Bool := match am_cls[ci]? with
  | some q => match q.2[k]? with
    | some f => am_wd j (.fieldLink own idx f.1 f.2.1 f.2.2.1)
    | none => false
  | none => false
theorem am_fokS {own : String} {idx ci k j : Nat} (h : am_fok own idx ci k j = true) : ∃ q f, am_cls[ci]? = some q ∧ q.2[k]? = some f ∧ Cond.fieldLink own idx f.1 f.2.1 f.2.2.1 ∈ am_gw := by
  unfold am_fok at h
  split at h
  · next q hq =>
    split at h
    · next f hf => exact ⟨q, f, hq, hf, am_wdI h⟩
    · cases h
  · cases h
def am_pok (own nm : String) (ci k kd : Nat) : Bool := match am_cls[ci]? with
  | some q => match q.2[k]? with
    | some f => (match parseFieldDescriptor f.2.2.1 with
      | some ty => (match kd, ty with
        | 0, .int => true
        | 1, .long => true
        | 2, .boolean => true
        | 3, .object _ => true
        | 3, .array _ => true
        | _, _ => false)
      | none => false) && (!f.2.2.2 || (f.1 == own && nm == "<init>"))
    | none => false
  | none => false
def am_hpOk (own nm : String) (i : Instr) (au : List Nat) : Bool := match i with
  | .getfield idx => match au with
    | [ci, k, _, j] => am_fok own idx ci k j
    | _ => false
  | .putfield idx => match au with
    | [ci, k, kd, j] => am_fok own idx ci k j && am_pok own nm ci k kd
    | _ => false
  | .getstatic idx => match au with
    | [q, j] => if q = 1000000 then am_wd j (.fieldLink own idx "ClockDominoes$Tile" "LOW" "[I") else if q = 1000001 then am_wd j (.fieldLink own idx "ClockDominoes$Tile" "HIGH" "[I") else false
    | _ => false
  | _ => true
/-- what is known of the program's classes -/
def am_clsOk : Prop := ∀ q ∈ am_cls, am_clOk q = true
theorem am_TT_at {l : List (String × String × String × Bool)} {k : Nat} {f : String × String × String × Bool} (h : l[k]? = some f) : am_TT l k = f := by
  unfold am_TT
  rw [List.getD_eq_getElem?_getD, h]; rfl
theorem am_cl_at {ci : Nat} {q : String × List (String × String × String × Bool)} (h : am_cls[ci]? = some q) : am_cl[ci]? = some (q.1, am_TT q.2, q.2.length) := by
  unfold am_cl
  rw [List.getElem?_map, h]; rfl
theorem am_clOkS {q : String × List (String × String × String × Bool)} (h : am_clOk q = true) : (∀ w ∈ u_ws q.1 (am_TT q.2) q.2.length, w ∈ am_gw) ∧ (∀ k, k < q.2.length → parseFieldDescriptor (am_TT q.2 k).2.2.1 = some ((parseFieldDescriptor (am_TT q.2 k).2.2.1).getD .int)) ∧ (∀ a, a < q.2.length → ∀ b, b < q.2.length → a ≠ b → (am_TT q.2 a).2.1 ≠ (am_TT q.2 b).2.1) := by
  unfold am_clOk at h
  simp only [Bool.and_eq_true, List.all_eq_true] at h
  obtain ⟨h1, h2, h3⟩ := h
  refine ⟨fun w hw => by simpa using h1 w hw, fun k hk => ?_, fun a ha b hb hab => ?_⟩
  · have hf : q.2[k]? = some q.2[k] := List.getElem?_eq_getElem hk
    rw [am_TT_at hf]
    have := h2 _ (List.getElem_mem hk)
    obtain ⟨ty, hty⟩ := Option.isSome_iff_exists.mp this
    rw [hty]; rfl
  · have := h3 a (List.mem_range.mpr ha) b (List.mem_range.mpr hb)
    simp only [Bool.or_eq_true, beq_iff_eq, Bool.not_eq_true', beq_eq_false_iff_ne] at this
    rcases this with h | h
    · exact absurd h hab
    · exact h
/-- the class's tables and the script, where nobody writes -/
def am_StA (A : Nat → Prop) (tt : Nat → Nat) (xs : Nat → Int32) (L : Nat) (U : State) (H : Heap) : Prop :=
  va_Z "ClockDominoes$Tile" "LOW" "[I" (.ref (tt 1000000)) A U H ∧ va_Z "ClockDominoes$Tile" "HIGH" "[I" (.ref (tt 1000001)) A U H ∧ va_T .int (tt 1000000) 28 (fun j => .int (am_low j)) A U H ∧ va_T .int (tt 1000001) 28 (fun j => .int (am_high j)) A U H ∧ va_X (tt 1000002) L xs U H ∧ tt 1000002 < H.size ∧ ¬ A (tt 1000002)
theorem am_cl4 : ∃ (T : u_T) (N : Nat), am_cl[4]? = some ("ClockDominoes$Table", T, N) := ⟨_, _, rfl⟩
theorem am_and1 (x : Int32) (h : x &&& 1 = x) : x = 0 ∨ x = 1 := by
  have h1 : (x &&& 1).toBitVec = x.toBitVec := by rw [h]
  rw [Int32.toBitVec_and] at h1
  have h2 : (x.toBitVec &&& (1#32)).toNat = x.toBitVec.toNat := congrArg BitVec.toNat h1
  rw [BitVec.toNat_and] at h2
  have h3 : x.toBitVec.toNat &&& 1 = x.toBitVec.toNat % 2 := Nat.and_one_is_mod _
  have h4 : x.toBitVec.toNat % 2 = x.toBitVec.toNat := by rw [← h3]; exact h2
  rcases (show x.toBitVec.toNat = 0 ∨ x.toBitVec.toNat = 1 by omega) with h5 | h5
  · left
    apply Int32.toBitVec_inj.mp
    apply BitVec.eq_of_toNat_eq
    rw [h5]; rfl
  · right
    apply Int32.toBitVec_inj.mp
    apply BitVec.eq_of_toNat_eq
    rw [h5]; rfl
section AMG
variable {p : Program} {l : Launch} {e : Env} {R : Room} {s : State} {m : MethodId} {args : Array Value} {below : List Frame} {meth : Method} {c : Code} {H : Heap} {locs : List Loc} {cells slots : Nat} {Q : State → Prop}
variable {cc : ByteArray} {pc : Nat} {ls : Array Slot} {D : va_G} {A : Nat → Prop} {tt : Nat → Nat} {xs : Nat → Int32} {L : Nat} {ca : Nat → ClassId}
theorem am_fits3 {ty : FieldType} {kd : Nat} {v : Value} (h : (match kd, ty with
        | 0, FieldType.int => true
        | 1, .long => true
        | 2, .boolean => true
        | 3, .object _ => true
        | 3, .array _ => true
        | _, _ => false) = true) (hv : (kd = 0 ∧ ∃ x, v = .int x) ∨ (kd = 1 ∧ ∃ x, v = .long x) ∨ (kd = 2 ∧ ∃ x, v = .int x ∧ narrow .boolean (.int x) = .int x) ∨ (kd = 3 ∧ ∃ x, v = .ref x)) : narrow ty v = v ∧ fits ty v = true := by
  rcases hv with ⟨rfl, x, rfl⟩ | ⟨rfl, x, rfl⟩ | ⟨rfl, x, rfl, hn⟩ | ⟨rfl, x, rfl⟩
  · cases ty <;> first | exact ⟨rfl, rfl⟩ | cases h
  · cases ty <;> first | exact ⟨rfl, rfl⟩ | cases h
  · cases ty <;> first | cases h | skip
    refine ⟨hn, ?_⟩
    rcases am_and1 x (Value.int.inj hn) with h5 | h5 <;> subst h5 <;> rfl
  · cases ty <;> first | exact ⟨rfl, rfl⟩ | cases h
set_option maxHeartbeats 4000000 in
theorem am_putW (hx : p.tables.exec = Jvm.exec) (hb : c.code = cc) {own nm : String} (hok : am_clsOk) (hts : ∀ w ∈ am_gw, w.before args s = true) (hown : s.vm.findClass own = some m.cls) (hin : nm = "<init>" → meth.name = "<init>") (hK : va_K D am_cl [] s) {H0 : Heap} {ad : Nat → Nat} {h : am_AH} (hI : am_I D A tt s H0 H locs ad ca h)
    {idx ci k kd j a : Nat} {fs : List Value} {v : Value} {r : List Value} (hf : am_fok own idx ci k j = true) (hp : am_pok own nm ci k kd = true) (hv : (kd = 0 ∧ ∃ x, am_cv ad v = .int x) ∨ (kd = 1 ∧ ∃ x, am_cv ad v = .long x) ∨ (kd = 2 ∧ ∃ x, am_cv ad v = .int x ∧ narrow .boolean (.int x) = .int x) ∨ (kd = 3 ∧ ∃ x, am_cv ad v = .ref x)) (ha : h[a]? = some (.inr (ci, fs))) (hk : k < fs.length) (hdg : decode cc pc = .ok (.putfield idx, 3))
    (kk : ∀ H' locs', am_I D A tt s H0 H' locs' ad ca (h.set a (.inr (ci, fs.set k v))) → W p l e R s m args below meth c H' locs' cells slots Q (F0 m (pc + 3) ls (r.map (am_cv ad)))) : W p l e R s m args below meth c H locs cells slots Q (F0 m pc ls ((v :: .ref a :: r).map (am_cv ad))) := by
  obtain ⟨q, f, hq, hqf, hlw⟩ := am_fokS hf
  obtain ⟨hP, hD, hS, hKA, hle, htt⟩ := id hI
  have hcl := am_clOkS (hok q (List.mem_of_getElem? hq))
  have hT := am_TT_at hqf
  have hkN : k < q.2.length := (List.getElem?_eq_some_iff.mp hqf).1
  have hw : (am_ws ad ca h)[a]? = some (ad a, .inr (ci, fs.map (am_cv ad))) := am_ws_of ha
  unfold am_pok at hp
  rw [hq] at hp
  dsimp only at hp
  rw [hqf] at hp
  dsimp only at hp
  cases hty : parseFieldDescriptor f.2.2.1 with
  | none => rw [hty] at hp; simp at hp
  | some ty =>
    rw [hty] at hp
    dsimp only at hp
    rw [Bool.and_eq_true] at hp
    obtain ⟨hn, hfit⟩ := am_fits3 hp.1 hv
    have hfin := hp.2
    have hset : (fs.map (am_cv ad)).set k (am_cv ad v) = (fs.set k v).map (am_cv ad) := List.map_set.symm
    have fin : ∀ (H1 : Heap) (locs1 : List Loc), va_P D am_cl ((am_ws ad ca h).set a (ad a, .inr (ci, (fs.map (am_cv ad)).set k (am_cv ad v)))) H1 → va_D A ((am_ws ad ca h).set a (ad a, .inr (ci, (fs.map (am_cv ad)).set k (am_cv ad v)))) → va_S A H0 H1 locs1 → W p l e R s m args below meth c H1 locs1 cells slots Q (F0 m (pc + 3) ls (r.map (am_cv ad))) := by
      intro H1 locs1 hP1 hD1 hS1
      rw [hset] at hP1 hD1
      exact kk H1 locs1 (hI.set rfl hP1 hD1 hS1 (fun tag x q => by cases q))
    cases hfl : f.2.2.2 with
    | false =>
      exact va_put (D := D) (ci := ci) (C := q.1) (T := am_TT q.2) (N := q.2.length) (ref := f.1) (own := own) (ty := ty) (v := am_cv ad v) hx hb hts hcl.1 _ hcl.2.1 hcl.2.2 hown hK hP hD hS a hw (am_cl_at hq) k hkN (by rw [hT]; exact hts _ hlw) (by rw [hT]; exact fun _ z => z) (by rw [hT]; exact hfl) (by rw [hT]; exact hty) hn hfit (by rw [List.length_map]; exact hk) hdg fin
    | true =>
      rw [hfl] at hfin
      simp at hfin
      exact va_putF (D := D) (ci := ci) (C := q.1) (T := am_TT q.2) (N := q.2.length) (ref := f.1) (own := own) (ty := ty) (v := am_cv ad v) hx hb hts hcl.1 _ hcl.2.1 hcl.2.2 hown hK hP hD hS a hw (am_cl_at hq) k hkN (by rw [hT]; exact hts _ hlw) (by rw [hT]; exact fun _ z => z) (by rw [hT]; exact hfl) (hin hfin.2) (by rw [hT]; exact hfin.1) (by rw [hT]; exact hty) hn hfit (by rw [List.length_map]; exact hk) hdg fin
set_option maxHeartbeats 8000000 in
theorem am_hpW (hx : p.tables.exec = Jvm.exec) (hb : c.code = cc) {own nm : String} (hcls : am_clsOk) (hts : ∀ w ∈ am_gw, w.before args s = true) (hown : s.vm.findClass own = some m.cls) (hin : nm = "<init>" → meth.name = "<init>") (hK : va_K D am_cl [] s) {ad : Nat → Nat} {h h' : am_AH} (hI : am_I D A tt s s.heap H locs ad ca h) (hZ : am_StA A tt xs L s s.heap)
    {i : Instr} {au : List Nat} {len n : Nat} {st st' : List Value} {C : Prop} (hdg : decode cc pc = .ok (i, len)) (hlen : len = am_lenOf i) (hok : am_hpOk own nm i au = true) (hh : am_hp xs L i au st h = some (C, n, st', h')) (hC : C)
    (kk : ∀ H' locs', am_I D A tt s s.heap H' locs' ad ca h' → W p l e R s m args below meth c H' locs' cells slots Q (F0 m (pc + n) ls (st'.map (am_cv ad)))) : W p l e R s m args below meth c H locs cells slots Q (F0 m pc ls (st.map (am_cv ad))) := by
  subst hlen
  obtain ⟨hP, hD, hS, hKA, hle, htt⟩ := id hI
  obtain ⟨z1, z2, z3, z4, z5, z6, z7⟩ := hZ
  have K1 : ∀ {a tag : Nat} {x : vp_A}, h[a]? = some (.inl (tag, x)) → va_K D am_cl [(ca a, am_ty tag)] s := by
    intro a tag x ha
    refine ⟨hK.1, fun k q hq => ?_⟩
    match k, hq with
    | 0, hq => cases hq; exact hKA _ _ _ ha
    | k + 1, hq => simp at hq
  have e0 : ad 1000000 = tt 1000000 := htt _ (Nat.le_refl _)
  have e1 : ad 1000001 = tt 1000001 := htt _ (by omega)
  have e2 : ad 1000002 = tt 1000002 := htt _ (by omega)
  unfold am_hp at hh
  split at hh
  case h_1 idx =>
    split at hh
    · next a r ci k rest =>
      split at hh
      · next ci' fs ha =>
        split at hh
        · next hci =>
          subst hci
          split at hh
          · next v hv =>
            cases hh
            dsimp only [am_hpOk] at hok
            split at hok
            · next ci2 k2 kd2 j2 hau =>
              cases hau
              obtain ⟨q, f, hq, hqf, hlw⟩ := am_fokS hok
              have hT := am_TT_at hqf
              have hcl := am_clOkS (hcls q (List.mem_of_getElem? hq))
              exact va_get (D := D) (ci := ci') (v := am_cv ad v) (C := q.1) (T := am_TT q.2) (N := q.2.length) (ref := f.1) (own := own) hx hb hts hcl.1 hown hK hP a (am_ws_of ha) (am_cl_at hq) k (List.getElem?_eq_some_iff.mp hqf).1 (by rw [hT]; exact hts _ hlw) (by rw [hT]; exact fun _ z => z) (by rw [List.getElem?_map, hv]; rfl) hdg (kk H locs hI)
            · cases hok
          · cases hh
        · cases hh
      · cases hh
    · cases hh
  case h_2 idx =>
    split at hh
    · next v a r ci k kd rest =>
      dsimp only [am_hpOk] at hok
      split at hok
      · next ci2 k2 kd2 j2 hau =>
        cases hau
        rw [Bool.and_eq_true] at hok
        split at hh
        · next ci' fs ha =>
          split at hh
          · next hci =>
            obtain ⟨rfl, hk⟩ := hci
            split at hh
            · cases hh
              exact am_putW (kd := 0) hx hb hcls hts hown hin hK hI hok.1 hok.2 (Or.inl ⟨rfl, _, rfl⟩) ha hk hdg kk
            · cases hh
              exact am_putW (kd := 1) hx hb hcls hts hown hin hK hI hok.1 hok.2 (Or.inr (Or.inl ⟨rfl, _, rfl⟩)) ha hk hdg kk
            · cases hh
              exact am_putW (kd := 2) hx hb hcls hts hown hin hK hI hok.1 hok.2 (Or.inr (Or.inr (Or.inl ⟨rfl, _, rfl, hC⟩))) ha hk hdg kk
            · cases hh
              exact am_putW (kd := 3) hx hb hcls hts hown hin hK hI hok.1 hok.2 (Or.inr (Or.inr (Or.inr ⟨rfl, _, rfl⟩))) ha hk hdg kk
            · cases hh
          · cases hh
        · cases hh
      · cases hok
    · cases hh
  case h_3 idx =>
    split at hh
    · next q rest =>
      split at hh
      · next hq =>
        cases hh
        dsimp only [am_hpOk] at hok
        split at hok
        · next q2 j2 hau =>
          cases hau
          rcases hq with rfl | rfl
          · rw [if_pos rfl] at hok
            refine va_gets hx hb z1 hS hown (hts _ (am_wdI hok)) (fun _ z => z) hdg ?_
            rw [← e0]
            exact kk H locs hI
          · rw [if_neg (by omega), if_pos rfl] at hok
            refine va_gets hx hb z2 hS hown (hts _ (am_wdI hok)) (fun _ z => z) hdg ?_
            rw [← e1]
            exact kk H locs hI
        · cases hok
      · cases hh
    · cases hh
  case h_4 =>
    split at hh
    · next j a r =>
      split at hh
      · next n0 f ha =>
        cases hh
        exact va_iald hx hb (K1 ha) hP a 0 (am_ws_of ha) rfl hC hdg (kk H locs hI)
      · cases hh
      · next ha =>
        split at hh
        · next ea =>
          cases hh
          subst ea
          show W p l e R s m args below meth c H locs cells slots Q (F0 m pc ls (.int j :: .ref (ad 1000000) :: r.map (am_cv ad)))
          rw [e0]
          exact va_ti hx hb z3 hS hC rfl hdg (kk H locs hI)
        · split at hh
          · next ea =>
            cases hh
            subst ea
            show W p l e R s m args below meth c H locs cells slots Q (F0 m pc ls (.int j :: .ref (ad 1000001) :: r.map (am_cv ad)))
            rw [e1]
            exact va_ti hx hb z4 hS hC rfl hdg (kk H locs hI)
          · split at hh
            · next ea =>
              cases hh
              subst ea
              show W p l e R s m args below meth c H locs cells slots Q (F0 m pc ls (.int j :: .ref (ad 1000002) :: r.map (am_cv ad)))
              rw [e2]
              exact va_sld hx hb z5 z6 z7 hS hC hdg (kk H locs hI)
            · cases hh
    · cases hh
  case h_5 =>
    split at hh
    · next a r =>
      split at hh
      · next tag n0 y ha =>
        cases hh
        have ha' : (am_ws ad ca h)[a]? = some (ad a, .inl (ca a, n0, (match am_ce ad ca a (.inl (tag, n0, y)) with
          | .inl z => z.2.2
          | .inr _ => .inl (fun _ => 0)))) := by
          rw [am_ws_of ha]
          rcases y with y | y | y | y | y <;> rfl
        exact va_alen hx hb (K1 ha) hP a 0 ha' rfl rfl hdg (kk H locs hI)
      · cases hh
      · next ha =>
        split at hh
        · next ea =>
          cases hh
          rcases ea with rfl | rfl
          · show W p l e R s m args below meth c H locs cells slots Q (F0 m pc ls (.ref (ad 1000000) :: r.map (am_cv ad)))
            rw [e0]
            exact va_tlen hx hb z3 hS rfl hdg (kk H locs hI)
          · show W p l e R s m args below meth c H locs cells slots Q (F0 m pc ls (.ref (ad 1000001) :: r.map (am_cv ad)))
            rw [e1]
            exact va_tlen hx hb z4 hS rfl hdg (kk H locs hI)
        · split at hh
          · next ea =>
            cases hh
            subst ea
            show W p l e R s m args below meth c H locs cells slots Q (F0 m pc ls (.ref (ad 1000002) :: r.map (am_cv ad)))
            rw [e2]
            exact va_slen hx hb z5 z6 z7 hS hdg (kk H locs hI)
          · cases hh
    · cases hh
  case h_6 =>
    split at hh
    · next x j a r =>
      split at hh
      · next n0 f ha =>
        cases hh
        exact va_iast hx hb (K1 ha) hP hD hS a 0 (am_ws_of ha) rfl hC hdg (fun H1 locs1 hP1 hD1 hS1 => kk H1 locs1 (hI.set rfl hP1 hD1 hS1 (fun tag x q => by cases q; exact ⟨_, ha⟩)))
      · cases hh
    · cases hh
  case h_7 =>
    split at hh
    · next j a r =>
      split at hh
      · next n0 f ha =>
        cases hh
        exact va_lald hx hb (K1 ha) hP a 0 (am_ws_of ha) rfl hC hdg (kk H locs hI)
      · cases hh
    · cases hh
  case h_8 =>
    split at hh
    · next x j a r =>
      split at hh
      · next n0 f ha =>
        cases hh
        exact va_last hx hb (K1 ha) hP hD hS a 0 (am_ws_of ha) rfl hC hdg (fun H1 locs1 hP1 hD1 hS1 => kk H1 locs1 (hI.set rfl hP1 hD1 hS1 (fun tag x q => by cases q; exact ⟨_, ha⟩)))
      · cases hh
    · cases hh
  case h_9 =>
    split at hh
    · next j a r =>
      split at hh
      · next n0 f ha =>
        cases hh
        exact va_dald hx hb (K1 ha) hP a 0 (am_ws_of ha) rfl hC hdg (kk H locs hI)
      · cases hh
    · cases hh
  case h_10 =>
    split at hh
    · next x j a r =>
      split at hh
      · next n0 f ha =>
        cases hh
        exact va_dast hx hb (K1 ha) hP hD hS a 0 (am_ws_of ha) rfl hC hdg (fun H1 locs1 hP1 hD1 hS1 => kk H1 locs1 (hI.set rfl hP1 hD1 hS1 (fun tag x q => by cases q; exact ⟨_, ha⟩)))
      · cases hh
    · cases hh
  case h_11 =>
    split at hh
    · next j a r =>
      split at hh
      · next n0 f ha =>
        split at hh
        · next q hq =>
          cases hh
          refine va_aldq hx hb (K1 ha) hP a 0 (am_ws_of ha) rfl hC hdg ?_
          rw [hq]
          exact kk H locs hI
        · cases hh
      · cases hh
    · cases hh
  case h_12 =>
    split at hh
    · next v j a r =>
      split at hh
      · next n0 f vs ha hv =>
        cases hh
        obtain ⟨T4, N4, h4⟩ := am_cl4
        refine va_astq hx hb (K1 ha) hP hD hS a 0 v 4 (am_ws_of ha) rfl (am_ws_of hv) h4 hC hdg (fun H1 locs1 hP1 hD1 hS1 => ?_)
        have hup : va_up (fun j => (f j).map ad) j.toNatClampNeg (some (ad v)) = fun k => (va_up f j.toNatClampNeg (some v) k).map ad := by
          funext k
          unfold va_up
          by_cases hk : k = j.toNatClampNeg
          · rw [if_pos hk, if_pos hk]; rfl
          · rw [if_neg hk, if_neg hk]
        rw [hup] at hP1 hD1
        exact kk H1 locs1 (hI.set rfl hP1 hD1 hS1 (fun tag x q => by cases q; exact ⟨_, ha⟩))
      · cases hh
    · cases hh
  case h_13 => cases hh
end AMG
