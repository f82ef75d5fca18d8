/-! the heap that the law's objects are, as data: ints, longs, doubles by cell and place; the rules of the steps over it -/
abbrev am_D : Type := (Nat → Nat → Int32) × (Nat → Nat → Int64) × (Nat → Nat → UInt64)
abbrev am_SH : Type := (Nat × Nat × (Nat → Option Nat)) ⊕ (Nat × List Nat)
def am_svf : Nat → Option Nat := va_up (va_up (va_up (va_up (va_up (va_up (fun _ => none) 0 (some 25)) 1 (some 36)) 2 (some 47)) 3 (some 58)) 4 (some 69)) 5 (some 80)
def am_sh : List am_SH := [.inr (7, [3, 14, 25, 93, 95, 101, 106, 0]),
  .inr (4, [4, 9, 10, 11, 12, 13, 0, 0, 0, 0, 0, 0, 0, 0, 0, 0]),
  .inr (0, [5, 6, 7, 8, 0, 0, 0]),
  .inl (0, 28, fun _ => none),
  .inl (0, 28, fun _ => none),
  .inl (0, 28, fun _ => none),
  .inl (0, 28, fun _ => none),
  .inl (0, 28, fun _ => none),
  .inl (0, 4, fun _ => none),
  .inl (0, 4, fun _ => none),
  .inl (0, 4, fun _ => none),
  .inl (0, 2, fun _ => none),
  .inr (4, [15, 20, 21, 22, 23, 24, 0, 0, 0, 0, 0, 0, 0, 0, 0, 0]),
  .inr (0, [16, 17, 18, 19, 0, 0, 0]),
  .inl (0, 28, fun _ => none),
  .inl (0, 28, fun _ => none),
  .inl (0, 28, fun _ => none),
  .inl (0, 28, fun _ => none),
  .inl (0, 28, fun _ => none),
  .inl (0, 4, fun _ => none),
  .inl (0, 4, fun _ => none),
  .inl (0, 4, fun _ => none),
  .inl (0, 2, fun _ => none),
  .inr (1, [26, 0, 0]),
  .inl (3, 6, am_svf),
  .inr (4, [28, 33, 34, 35, 36, 37, 0, 0, 0, 0, 0, 0, 0, 0, 0, 0]),
  .inr (0, [29, 30, 31, 32, 0, 0, 0]),
  .inl (0, 28, fun _ => none),
  .inl (0, 28, fun _ => none),
  .inl (0, 28, fun _ => none),
  .inl (0, 28, fun _ => none),
  .inl (0, 28, fun _ => none),
  .inl (0, 4, fun _ => none),
  .inl (0, 4, fun _ => none),
  .inl (0, 4, fun _ => none),
  .inl (0, 2, fun _ => none),
  .inr (4, [39, 44, 45, 46, 47, 48, 0, 0, 0, 0, 0, 0, 0, 0, 0, 0]),
  .inr (0, [40, 41, 42, 43, 0, 0, 0]),
  .inl (0, 28, fun _ => none),
  .inl (0, 28, fun _ => none),
  .inl (0, 28, fun _ => none),
  .inl (0, 28, fun _ => none),
  .inl (0, 28, fun _ => none),
  .inl (0, 4, fun _ => none),
  .inl (0, 4, fun _ => none),
  .inl (0, 4, fun _ => none),
  .inl (0, 2, fun _ => none),
  .inr (4, [50, 55, 56, 57, 58, 59, 0, 0, 0, 0, 0, 0, 0, 0, 0, 0]),
  .inr (0, [51, 52, 53, 54, 0, 0, 0]),
  .inl (0, 28, fun _ => none),
  .inl (0, 28, fun _ => none),
  .inl (0, 28, fun _ => none),
  .inl (0, 28, fun _ => none),
  .inl (0, 28, fun _ => none),
  .inl (0, 4, fun _ => none),
  .inl (0, 4, fun _ => none),
  .inl (0, 4, fun _ => none),
  .inl (0, 2, fun _ => none),
  .inr (4, [61, 66, 67, 68, 69, 70, 0, 0, 0, 0, 0, 0, 0, 0, 0, 0]),
  .inr (0, [62, 63, 64, 65, 0, 0, 0]),
  .inl (0, 28, fun _ => none),
  .inl (0, 28, fun _ => none),
  .inl (0, 28, fun _ => none),
  .inl (0, 28, fun _ => none),
  .inl (0, 28, fun _ => none),
  .inl (0, 4, fun _ => none),
  .inl (0, 4, fun _ => none),
  .inl (0, 4, fun _ => none),
  .inl (0, 2, fun _ => none),
  .inr (4, [72, 77, 78, 79, 80, 81, 0, 0, 0, 0, 0, 0, 0, 0, 0, 0]),
  .inr (0, [73, 74, 75, 76, 0, 0, 0]),
  .inl (0, 28, fun _ => none),
  .inl (0, 28, fun _ => none),
  .inl (0, 28, fun _ => none),
  .inl (0, 28, fun _ => none),
  .inl (0, 28, fun _ => none),
  .inl (0, 4, fun _ => none),
  .inl (0, 4, fun _ => none),
  .inl (0, 4, fun _ => none),
  .inl (0, 2, fun _ => none),
  .inr (4, [83, 88, 89, 90, 91, 92, 0, 0, 0, 0, 0, 0, 0, 0, 0, 0]),
  .inr (0, [84, 85, 86, 87, 0, 0, 0]),
  .inl (0, 28, fun _ => none),
  .inl (0, 28, fun _ => none),
  .inl (0, 28, fun _ => none),
  .inl (0, 28, fun _ => none),
  .inl (0, 28, fun _ => none),
  .inl (0, 4, fun _ => none),
  .inl (0, 4, fun _ => none),
  .inl (0, 4, fun _ => none),
  .inl (0, 2, fun _ => none),
  .inr (5, [94, 0]),
  .inl (0, 60, fun _ => none),
  .inr (3, [96, 97, 98, 99, 100, 0]),
  .inl (0, 3, fun _ => none),
  .inl (0, 28, fun _ => none),
  .inl (0, 8, fun _ => none),
  .inl (1, 64, fun _ => none),
  .inl (1, 484, fun _ => none),
  .inr (2, [102, 103, 104, 105, 0, 0, 0, 0]),
  .inl (0, 9, fun _ => none),
  .inl (0, 9, fun _ => none),
  .inl (0, 20, fun _ => none),
  .inl (0, 20, fun _ => none),
  .inr (6, [107]),
  .inl (0, 7, fun _ => none)]
def am_fld (D : am_D) (a k : Nat) : Nat → Value
  | 0 => .int (D.1 a k)
  | 1 => .long (D.2.1 a k)
  | p + 2 => .ref p
def am_cell (D : am_D) (a : Nat) : am_SH → va_E
  | .inl (0, n, _) => .inl (0, n, .inl (D.1 a))
  | .inl (1, n, _) => .inl (1, n, .inr (.inl (D.2.1 a)))
  | .inl (2, n, _) => .inl (2, n, .inr (.inr (.inr (.inl (D.2.2 a)))))
  | .inl (t + 3, n, f) => .inl (t + 3, n, .inr (.inr (.inr (.inr f))))
  | .inr (ci, cs) => .inr (ci, cs.mapIdx (fun k c => am_fld D a k c))
def am_mk (D : am_D) : am_AH := am_sh.mapIdx (fun a s => am_cell D a s)
theorem am_mk_at (D : am_D) (a : Nat) : (am_mk D)[a]? = (am_sh[a]?).map (fun s => am_cell D a s) := by
  unfold am_mk
  rw [List.getElem?_mapIdx]
theorem am_mk_len (D : am_D) : (am_mk D).length = am_sh.length := by
  unfold am_mk
  simp
theorem am_sh_len : am_sh.length = 106 := by decide +kernel
/-- the length of an array of a kind -/
def am_sa (tag a : Nat) : Option Nat := match am_sh[a]? with
  | some (.inl (t, n, _)) => if t = tag then some n else none
  | _ => none
def am_sl (a : Nat) : Option Nat := match am_sh[a]? with
  | some (.inl (_, n, _)) => some n
  | _ => none
/-- what a field of an object of a class is -/
def am_so (a ci k : Nat) : Option Nat := match am_sh[a]? with
  | some (.inr (c, cs)) => if c = ci then cs[k]? else none
  | _ => none
def am_sc (a : Nat) : Option Nat := match am_sh[a]? with
  | some (.inr (c, _)) => some c
  | _ => none
def am_uI (D : am_D) (a j : Nat) (x : Int32) : am_D := (fun b i => if b = a ∧ i = j then x else D.1 b i, D.2)
def am_uJ (D : am_D) (a j : Nat) (x : Int64) : am_D := (D.1, fun b i => if b = a ∧ i = j then x else D.2.1 b i, D.2.2)
def am_uK (D : am_D) (a j : Nat) (x : UInt64) : am_D := (D.1, D.2.1, fun b i => if b = a ∧ i = j then x else D.2.2 b i)
/-- a row becomes another one -/
def am_uR (D : am_D) (a : Nat) (f : Nat → Int32) : am_D := (fun b i => if b = a then f i else D.1 b i, D.2)
theorem am_uI_row (D : am_D) (a j : Nat) (x : Int32) : (am_uI D a j x).1 a = upd (D.1 a) j x := by
  funext i
  show (if a = a ∧ i = j then x else D.1 a i) = if i = j then x else D.1 a i
  simp
theorem am_uJ_row (D : am_D) (a j : Nat) (x : Int64) : (am_uJ D a j x).2.1 a = vp_updL (D.2.1 a) j x := by
  funext i
  show (if a = a ∧ i = j then x else D.2.1 a i) = if i = j then x else D.2.1 a i
  simp
theorem am_uK_row (D : am_D) (a j : Nat) (x : UInt64) : (am_uK D a j x).2.2 a = vf_upd (D.2.2 a) j x := by
  funext i
  show (if a = a ∧ i = j then x else D.2.2 a i) = if i = j then x else D.2.2 a i
  simp
theorem am_fld_eq {D E : am_D} {a : Nat} (h1 : ∀ i, D.1 a i = E.1 a i) (h2 : ∀ i, D.2.1 a i = E.2.1 a i) (k c : Nat) : am_fld D a k c = am_fld E a k c := by
  match c with
  | 0 => show Value.int _ = Value.int _; rw [h1]
  | 1 => show Value.long _ = Value.long _; rw [h2]
  | p + 2 => rfl
theorem am_cell_eq {D E : am_D} {a : Nat} (h1 : D.1 a = E.1 a) (h2 : D.2.1 a = E.2.1 a) (h3 : D.2.2 a = E.2.2 a) (s : am_SH) : am_cell D a s = am_cell E a s := by
  rcases s with ⟨t, n, f⟩ | ⟨ci, cs⟩
  · match t with
    | 0 => show Sum.inl _ = Sum.inl _; rw [h1]
    | 1 => show Sum.inl _ = Sum.inl _; rw [h2]
    | 2 => show Sum.inl _ = Sum.inl _; rw [h3]
    | t + 3 => rfl
  · show Sum.inr (ci, cs.mapIdx fun k c => am_fld D a k c) = Sum.inr (ci, cs.mapIdx fun k c => am_fld E a k c)
    have : (fun k c => am_fld D a k c) = (fun k c => am_fld E a k c) := by
      funext k c
      exact am_fld_eq (fun i => by rw [h1]) (fun i => by rw [h2]) k c
    rw [this]
/-- one cell is written -/
theorem am_mk_set {D E : am_D} {a : Nat} {e : va_E} {s : am_SH} (hs : am_sh[a]? = some s) (he : e = am_cell E a s) (h : ∀ b, b ≠ a → D.1 b = E.1 b ∧ D.2.1 b = E.2.1 b ∧ D.2.2 b = E.2.2 b) : (am_mk D).set a e = am_mk E := by
  apply List.ext_getElem?
  intro b
  have hl : a < am_sh.length := (List.getElem?_eq_some_iff.mp hs).1
  by_cases hb : a = b
  · subst hb
    rw [List.getElem?_set_self (by rw [am_mk_len]; exact hl), am_mk_at, hs, he]
    rfl
  · rw [List.getElem?_set_ne hb, am_mk_at, am_mk_at]
    cases hq : am_sh[b]? with
    | none => rfl
    | some s2 =>
      obtain ⟨h1, h2, h3⟩ := h b (fun q => hb q.symm)
      exact congrArg some (am_cell_eq h1 h2 h3 s2)
theorem am_saS {tag a n : Nat} (h : am_sa tag a = some n) : ∃ f, am_sh[a]? = some (.inl (tag, n, f)) := by
  unfold am_sa at h
  split at h
  · next t m f hs =>
    split at h
    · next e => cases h; subst e; exact ⟨f, hs⟩
    · cases h
  · cases h
theorem am_soS {a ci k c : Nat} (h : am_so a ci k = some c) : ∃ cs, am_sh[a]? = some (.inr (ci, cs)) ∧ cs[k]? = some c := by
  unfold am_so at h
  split at h
  · next c0 cs hs =>
    split at h
    · next e => subst e; exact ⟨cs, hs, h⟩
    · cases h
  · cases h
theorem am_uI_ne {D : am_D} {a j b : Nat} {x : Int32} (h : b ≠ a) : D.1 b = (am_uI D a j x).1 b ∧ D.2.1 b = (am_uI D a j x).2.1 b ∧ D.2.2 b = (am_uI D a j x).2.2 b := by
  refine ⟨?_, rfl, rfl⟩
  funext i
  show _ = if b = a ∧ i = j then x else D.1 b i
  rw [if_neg (fun q => h q.1)]
theorem am_uJ_ne {D : am_D} {a j b : Nat} {x : Int64} (h : b ≠ a) : D.1 b = (am_uJ D a j x).1 b ∧ D.2.1 b = (am_uJ D a j x).2.1 b ∧ D.2.2 b = (am_uJ D a j x).2.2 b := by
  refine ⟨rfl, ?_, rfl⟩
  funext i
  show _ = if b = a ∧ i = j then x else D.2.1 b i
  rw [if_neg (fun q => h q.1)]
theorem am_uK_ne {D : am_D} {a j b : Nat} {x : UInt64} (h : b ≠ a) : D.1 b = (am_uK D a j x).1 b ∧ D.2.1 b = (am_uK D a j x).2.1 b ∧ D.2.2 b = (am_uK D a j x).2.2 b := by
  refine ⟨rfl, rfl, ?_⟩
  funext i
  show _ = if b = a ∧ i = j then x else D.2.2 b i
  rw [if_neg (fun q => h q.1)]
theorem am_uR_ne {D : am_D} {a b : Nat} {f : Nat → Int32} (h : b ≠ a) : D.1 b = (am_uR D a f).1 b ∧ D.2.1 b = (am_uR D a f).2.1 b ∧ D.2.2 b = (am_uR D a f).2.2 b := by
  refine ⟨?_, rfl, rfl⟩
  funext i
  show _ = if b = a then f i else D.1 b i
  rw [if_neg h]
theorem am_mapIdx_set (D E : am_D) (a k : Nat) (v : Value) : ∀ (cs : List Nat) (o : Nat), (∀ i c, cs[i]? = some c → o + i ≠ k → am_fld D a (o + i) c = am_fld E a (o + i) c) → (∀ i c, cs[i]? = some c → o + i = k → v = am_fld E a k c) → o ≤ k → (cs.mapIdx (fun i c => am_fld D a (o + i) c)).set (k - o) v = cs.mapIdx (fun i c => am_fld E a (o + i) c) := by
  intro cs o h1 h2 ho
  apply List.ext_getElem?
  intro i
  by_cases hi : k - o = i
  · subst hi
    by_cases hl : k - o < cs.length
    · rw [List.getElem?_set_self (by simpa using hl), List.getElem?_mapIdx, List.getElem?_eq_getElem hl]
      have := h2 (k - o) _ (List.getElem?_eq_getElem hl) (by omega)
      rw [this]
      show some _ = some (am_fld E a (o + (k - o)) _)
      rw [show o + (k - o) = k by omega]
    · rw [List.getElem?_eq_none (by simp; omega), List.getElem?_eq_none (by simp; omega)]
  · rw [List.getElem?_set_ne hi, List.getElem?_mapIdx, List.getElem?_mapIdx]
    cases hq : cs[i]? with
    | none => rfl
    | some c => exact congrArg some (h1 i c hq (by omega))
theorem am_fset {D E : am_D} {a k : Nat} {v : Value} {cs : List Nat} (h1 : ∀ i c, cs[i]? = some c → i ≠ k → am_fld D a i c = am_fld E a i c) (h2 : ∀ c, cs[k]? = some c → v = am_fld E a k c) : (cs.mapIdx (fun i c => am_fld D a i c)).set k v = cs.mapIdx (fun i c => am_fld E a i c) := by
  have h := am_mapIdx_set D E a k v cs 0 (fun i c hi hk => by rw [Nat.zero_add] at hk ⊢; exact h1 i c hi hk) (fun i c hi hk => by rw [Nat.zero_add] at hk; subst hk; exact h2 c hi) (Nat.zero_le _)
  simpa using h
/-! rows of the program -/
def am_at (k pc : Nat) : Option am_AI := (am_pg[k]?).bind (fun mi => mi.2.2.lookup pc)
def am_rtt (k : Nat) : Option (Option FieldType) := (am_pg[k]?).map (fun mi => mi.1.2.2.2.2)
def am_nl (k : Nat) : Nat := ((am_pg[k]?).map (fun mi => mi.1.2.2.2.1)).getD 0
section XB
variable {xs : Nat → Int32} {L : Nat}
def am_X (xs : Nat → Int32) (L k d mc ms pc : Nat) (lc st : List Value) (h : am_AH) (c s : Nat) (Q : am_O → am_AH → Prop) : Prop := ∃ n, am_w xs L n d k mc ms (pc, lc, st, h, c, s) Q
/-- a method's run from its first row to its end -/
def am_Y (xs : Nat → Int32) (L k d mc ms : Nat) (as : List Value) (D : am_D) (o : am_O) (D' : am_D) : Prop :=
  (∃ mi, am_pg[k]? = some mi ∧ (am_args as).length ≤ mi.1.2.2.2.1 ∧ am_rcv mi as (am_mk D) = true) ∧ am_X xs L k d mc ms 0 (am_ent as (am_nl k)) [] (am_mk D) 0 0 (fun o' h' => o' = o ∧ h' = am_mk D')
variable {k d mc ms pc p' : Nat} {lc st : List Value} {h : am_AH} {c s : Nat} {Q : am_O → am_AH → Prop} {i : Instr} {len : Nat} {au : List Nat}
theorem x_step {pc' c' s' : Nat} {lc' st' : List Value} {h' : am_AH} {C : Prop} (r : am_at k pc = some (i, len, au)) (hs : ∀ ret, am_step xs L mc ms ret (i, len, au) pc lc st h c s = some (C, .inl (pc', lc', st', h', c', s'))) (hC : C) (kk : am_X xs L k d mc ms pc' lc' st' h' c' s' Q) : am_X xs L k d mc ms pc lc st h c s Q := by
  obtain ⟨n, hn⟩ := kk
  refine ⟨n + 1, ?_⟩
  unfold am_at at r
  obtain ⟨mi, h1, h2⟩ := Option.bind_eq_some_iff.mp r
  rw [am_w, h1]
  dsimp only
  rw [h2]
  dsimp only
  rw [hs]
  exact ⟨hC, hn⟩
theorem x_ar {C : Prop} {st' : List Value} (r : am_at k pc = some (i, len, au)) (ha : am_ar i st = some (C, st')) (hC : C) (hp : pc + len = p') (kk : am_X xs L k d mc ms p' lc st' h c s Q) : am_X xs L k d mc ms pc lc st h c s Q := by
  subst hp
  exact x_step r (fun ret => by unfold am_step; dsimp only; rw [ha]) hC kk
theorem x_ld {n : Nat} {v : Value} (r : am_at k pc = some (i, len, au)) (h0 : am_ar i st = none) (h1 : am_ld i lc = some (n, v)) (hp : pc + n = p') (kk : am_X xs L k d mc ms p' lc (v :: st) h c s Q) : am_X xs L k d mc ms pc lc st h c s Q := by
  subst hp
  exact x_step r (fun ret => by unfold am_step; dsimp only; rw [h0]; dsimp only; rw [h1]) trivial kk
theorem x_sto {n : Nat} {lc' st' : List Value} (r : am_at k pc = some (i, len, au)) (h0 : am_ar i st = none) (h1 : am_ld i lc = none) (h2 : am_sto i lc st = some (n, lc', st')) (hp : pc + n = p') (kk : am_X xs L k d mc ms p' lc' st' h c s Q) : am_X xs L k d mc ms pc lc st h c s Q := by
  subst hp
  exact x_step r (fun ret => by unfold am_step; dsimp only; rw [h0]; dsimp only; rw [h1]; dsimp only; rw [h2]) trivial kk
theorem x_br {pc' : Nat} {st' : List Value} (r : am_at k pc = some (i, len, au)) (h0 : am_ar i st = none) (h1 : am_ld i lc = none) (h2 : am_sto i lc st = none) (h3 : am_br i au pc st = some (pc', st')) (hp : pc' = p') (kk : am_X xs L k d mc ms p' lc st' h c s Q) : am_X xs L k d mc ms pc lc st h c s Q := by
  subst hp
  exact x_step r (fun ret => by unfold am_step; dsimp only; rw [h0]; dsimp only; rw [h1]; dsimp only; rw [h2]; dsimp only; rw [h3]) trivial kk
theorem x_hp {n : Nat} {C : Prop} {st' : List Value} {h' : am_AH} (r : am_at k pc = some (i, len, au)) (h0 : am_ar i st = none) (h1 : am_ld i lc = none) (h2 : am_sto i lc st = none) (h3 : am_br i au pc st = none) (h4 : am_hp xs L i au st h = some (C, n, st', h')) (hC : C) (hp : pc + n = p') (kk : am_X xs L k d mc ms p' lc st' h' c s Q) : am_X xs L k d mc ms pc lc st h c s Q := by
  subst hp
  exact x_step r (fun ret => by unfold am_step; dsimp only; rw [h0]; dsimp only; rw [h1]; dsimp only; rw [h2]; dsimp only; rw [h3]; dsimp only; rw [h4]) hC kk
theorem x_sp {n : Nat} {C : Prop} {st' : List Value} {h' : am_AH} (r : am_at k pc = some (i, len, au)) (h0 : am_ar i st = none) (h1 : am_ld i lc = none) (h2 : am_sto i lc st = none) (h3 : am_br i au pc st = none) (h4 : am_hp xs L i au st h = none) (h5 : am_sp i au st h = some (C, n, st', h')) (hC : C) (hp : pc + n = p') (kk : am_X xs L k d mc ms p' lc st' h' c s Q) : am_X xs L k d mc ms pc lc st h c s Q := by
  subst hp
  exact x_step r (fun ret => by unfold am_step; dsimp only; rw [h0]; dsimp only; rw [h1]; dsimp only; rw [h2]; dsimp only; rw [h3]; dsimp only; rw [h4]; dsimp only; rw [h5]) hC kk
theorem x_al {n z : Nat} {C : Prop} {st' : List Value} {h' : am_AH} (r : am_at k pc = some (i, len, au)) (h0 : am_ar i st = none) (h1 : am_ld i lc = none) (h2 : am_sto i lc st = none) (h3 : am_br i au pc st = none) (h4 : am_hp xs L i au st h = none) (h5 : am_sp i au st h = none) (h6 : am_cl1 i au st = none) (h7 : ∀ ret, am_rt ret i st = none) (h8 : am_al i au lc st h = some (C, n, st', h', z)) (hC : C) (hc : c + 1 ≤ mc) (hz : s + z ≤ ms) (hp : pc + n = p') (kk : am_X xs L k d mc ms p' lc st' h' (c + 1) (s + z) Q) : am_X xs L k d mc ms pc lc st h c s Q := by
  subst hp
  exact x_step (C := C ∧ c + 1 ≤ mc ∧ s + z ≤ ms) r (fun ret => by unfold am_step; dsimp only; rw [h0]; dsimp only; rw [h1]; dsimp only; rw [h2]; dsimp only; rw [h3]; dsimp only; rw [h4]; dsimp only; rw [h5]; dsimp only; rw [h6]; dsimp only; rw [h7]; dsimp only; rw [h8]) ⟨hC, hc, hz⟩ kk
theorem x_ret {ret : Option FieldType} {C : Prop} {v : Option Value} (r : am_at k pc = some (i, len, au)) (hr : am_rtt k = some ret) (h0 : am_ar i st = none) (h1 : am_ld i lc = none) (h2 : am_sto i lc st = none) (h3 : am_br i au pc st = none) (h4 : am_hp xs L i au st h = none) (h5 : am_sp i au st h = none) (h6 : am_cl1 i au st = none) (h7 : am_rt ret i st = some (C, v)) (hC : C) (kk : Q (.inl v) h) : am_X xs L k d mc ms pc lc st h c s Q := by
  refine ⟨1, ?_⟩
  unfold am_at at r
  obtain ⟨mi, g1, g2⟩ := Option.bind_eq_some_iff.mp r
  unfold am_rtt at hr
  rw [g1] at hr
  have hr' : mi.1.2.2.2.2 = ret := Option.some.inj hr
  rw [am_w, g1]
  dsimp only
  rw [g2]
  dsimp only
  rw [hr']
  have hs : am_step xs L mc ms ret (i, len, au) pc lc st h c s = some (C, .inr (.inr (.inl v))) := by unfold am_step; dsimp only; rw [h0]; dsimp only; rw [h1]; dsimp only; rw [h2]; dsimp only; rw [h3]; dsimp only; rw [h4]; dsimp only; rw [h5]; dsimp only; rw [h6]; dsimp only; rw [h7]
  rw [hs]
  exact ⟨hC, kk⟩
theorem x_thr {idx E : Nat} {rest : List Nat} (r : am_at k pc = some (.new idx, len, 9 :: E :: rest)) (hc : c + 1 ≤ mc) (hz : s + 6 ≤ ms) (hcat : (st.map fun v => v.category).sum ≤ 8) (kk : Q (.inr E) h) : am_X xs L k d mc ms pc lc st h c s Q := by
  refine ⟨1, ?_⟩
  unfold am_at at r
  obtain ⟨mi, g1, g2⟩ := Option.bind_eq_some_iff.mp r
  rw [am_w, g1]
  dsimp only
  rw [g2]
  exact ⟨⟨hc, hz, hcat⟩, kk⟩
theorem x_forget {lc0 : List Value} (hl : am_le lc0 lc) (kk : am_X xs L k d mc ms pc lc0 st h c s Q) : am_X xs L k d mc ms pc lc st h c s Q := by
  obtain ⟨n, hn⟩ := kk
  exact ⟨n, am_w_le n d k mc ms pc lc0 lc st h c s Q hl hn⟩
theorem am_X.mono {d' mc' ms' : Nat} {Q' : am_O → am_AH → Prop} (hd : d ≤ d') (hmc : mc ≤ mc') (hms : ms ≤ ms') (hQ : ∀ o h, Q o h → Q' o h) (kk : am_X xs L k d mc ms pc lc st h c s Q) : am_X xs L k d' mc' ms' pc lc st h c s Q' := by
  obtain ⟨n, hn⟩ := kk
  exact ⟨n, am_w_mono n n d d' k mc mc' ms ms' _ Q Q' (Nat.le_refl _) hd hmc hms hQ hn⟩
theorem am_clS {k' na j : Nat} {hq : List Nat} {as rest : List Value} (hi : am_isInv i = true) (hst : st = as.reverse ++ rest) (hn : as.length = na) (hk : k' < 1000) (hcat : (rest.map fun v => v.category).sum ≤ 8) : am_ar i st = none ∧ am_ld i lc = none ∧ am_sto i lc st = none ∧ am_br i (k' :: na :: j :: hq) pc st = none ∧ am_hp xs L i (k' :: na :: j :: hq) st h = none ∧ am_sp i (k' :: na :: j :: hq) st h = none ∧ am_cl1 i (k' :: na :: j :: hq) st = some (k', as, rest) := by
  have h1 : na ≤ st.length := by rw [hst]; simp; omega
  have h2 : st.take na = as.reverse := by rw [hst, ← hn, ← List.length_reverse]; exact List.take_left
  have h3 : st.drop na = rest := by rw [hst, ← hn, ← List.length_reverse]; exact List.drop_left
  have h4 : (if k' < 1000 ∧ na ≤ st.length ∧ ((st.drop na).map fun v => v.category).sum ≤ 8 then some (k', (st.take na).reverse, st.drop na) else none) = some (k', as, rest) := by
    rw [if_pos ⟨hk, h1, by rw [h3]; exact hcat⟩, h2, h3, List.reverse_reverse]
  have sp : am_sp i (k' :: na :: j :: hq) st h = none := by
    cases h9 : am_sp i (k' :: na :: j :: hq) st h with
    | none => rfl
    | some x =>
      exfalso
      unfold am_sp at h9
      split at h9
      · split at h9
        · next e => cases e; omega
        · next e => cases e; omega
        · next e => cases e; omega
        · cases h9
      · split at h9
        · next e => cases e; omega
        · cases h9
      · cases hi
      · cases hi
      · cases hi
      · cases h9
  cases i <;> first | cases hi | skip
  · exact ⟨rfl, rfl, rfl, rfl, rfl, sp, h4⟩
  · exact ⟨rfl, rfl, rfl, rfl, rfl, sp, h4⟩
  · exact ⟨rfl, rfl, rfl, rfl, rfl, sp, h4⟩
/-- a call that comes back -/
theorem x_call {k' na j nest d0 mc' ms' : Nat} {hq : List Nat} {as rest : List Value} {v : Option Value} {D D' : am_D} (r : am_at k pc = some (i, 3, k' :: na :: j :: nest :: hq)) (hi : am_isInv i = true) (hst : st = as.reverse ++ rest) (hn : as.length = na) (hk : k' < 1000) (hcat : (rest.map fun v => v.category).sum ≤ 8)
    (hY : am_Y xs L k' d0 mc' ms' as D (.inl v) D') (hd : d0 + 1 ≤ d) (hc : c + mc' ≤ mc) (hs : s + ms' ≤ ms) (hp : pc + 3 = p') (kk : am_X xs L k d mc ms p' lc (v.toList ++ rest) (am_mk D') (c + mc') (s + ms') Q) : am_X xs L k d mc ms pc lc st (am_mk D) c s Q := by
  subst hp
  obtain ⟨n2, hn2⟩ := kk
  obtain ⟨⟨mi', g1, g2, g3⟩, n1, hn1⟩ := hY
  obtain ⟨e1, e2, e3, e4, e5, e6, e7⟩ := am_clS (xs := xs) (L := L) (lc := lc) (h := am_mk D) (pc := pc) (j := j) (hq := nest :: hq) hi hst hn hk hcat
  refine ⟨n1 + n2 + 1, ?_⟩
  unfold am_at at r
  obtain ⟨mi, f1, f2⟩ := Option.bind_eq_some_iff.mp r
  rw [am_w, f1]
  dsimp only
  rw [f2]
  dsimp only
  have hst2 : am_step xs L mc ms mi.1.2.2.2.2 (i, 3, k' :: na :: j :: nest :: hq) pc lc st (am_mk D) c s = some (True, .inr (.inl (k', as, rest))) := by unfold am_step; dsimp only; rw [e1]; dsimp only; rw [e2]; dsimp only; rw [e3]; dsimp only; rw [e4]; dsimp only; rw [e5]; dsimp only; rw [e6]; dsimp only; rw [e7]
  rw [hst2]
  obtain ⟨d1, rfl⟩ : ∃ d1, d = d1 + 1 := ⟨d - 1, by omega⟩
  have hnl : am_nl k' = mi'.1.2.2.2.1 := by unfold am_nl; rw [g1]; rfl
  rw [hnl] at hn1
  refine ⟨trivial, d1, mc', ms', mi', rfl, hc, hs, g1, g2, g3, ?_⟩
  refine am_w_mono n1 (n1 + n2) d0 d1 k' mc' mc' ms' ms' _ _ _ (by omega) (by omega) (Nat.le_refl _) (Nat.le_refl _) (fun o h' hq => ?_) hn1
  obtain ⟨eo, eh⟩ := hq
  subst eo
  rw [eh]
  exact ⟨Or.inl (by rw [am_mk_len, am_mk_len]), am_w_mono n2 (n1 + n2) (d1 + 1) (d1 + 1) k mc mc ms ms _ _ _ (by omega) (Nat.le_refl _) (Nat.le_refl _) (Nat.le_refl _) (fun _ _ z => z) hn2⟩
/-- a call that throws what no row catches -/
theorem x_callX {k' na j nest d0 mc' ms' E : Nat} {as rest : List Value} {D D' : am_D} (r : am_at k pc = some (i, 3, [k', na, j, nest])) (hi : am_isInv i = true) (hst : st = as.reverse ++ rest) (hn : as.length = na) (hk : k' < 1000) (hcat : (rest.map fun v => v.category).sum ≤ 8)
    (hY : am_Y xs L k' d0 mc' ms' as D (.inr E) D') (hd : d0 + 1 ≤ d) (hc : c + mc' ≤ mc) (hs : s + ms' ≤ ms) (kk : Q (.inr E) (am_mk D')) : am_X xs L k d mc ms pc lc st (am_mk D) c s Q := by
  obtain ⟨⟨mi', g1, g2, g3⟩, n1, hn1⟩ := hY
  obtain ⟨e1, e2, e3, e4, e5, e6, e7⟩ := am_clS (xs := xs) (L := L) (lc := lc) (h := am_mk D) (pc := pc) (j := j) (hq := [nest]) hi hst hn hk hcat
  refine ⟨n1 + 1, ?_⟩
  unfold am_at at r
  obtain ⟨mi, f1, f2⟩ := Option.bind_eq_some_iff.mp r
  rw [am_w, f1]
  dsimp only
  rw [f2]
  dsimp only
  have hst2 : am_step xs L mc ms mi.1.2.2.2.2 (i, 3, [k', na, j, nest]) pc lc st (am_mk D) c s = some (True, .inr (.inl (k', as, rest))) := by unfold am_step; dsimp only; rw [e1]; dsimp only; rw [e2]; dsimp only; rw [e3]; dsimp only; rw [e4]; dsimp only; rw [e5]; dsimp only; rw [e6]; dsimp only; rw [e7]
  rw [hst2]
  obtain ⟨d1, rfl⟩ : ∃ d1, d = d1 + 1 := ⟨d - 1, by omega⟩
  have hnl : am_nl k' = mi'.1.2.2.2.1 := by unfold am_nl; rw [g1]; rfl
  rw [hnl] at hn1
  refine ⟨trivial, d1, mc', ms', mi', rfl, hc, hs, g1, g2, g3, ?_⟩
  refine am_w_mono n1 n1 d0 d1 k' mc' mc' ms' ms' _ _ _ (Nat.le_refl _) (by omega) (Nat.le_refl _) (Nat.le_refl _) (fun o h' hq => ?_) hn1
  obtain ⟨eo, eh⟩ := hq
  subst eo
  rw [eh]
  exact ⟨rfl, kk⟩
/-- a call that throws what a row catches -/
theorem x_callH {k' na j nest d0 mc' ms' E il : Nat} {hq : List Nat} {as rest : List Value} {D D' : am_D} (r : am_at k pc = some (i, 3, k' :: na :: j :: nest :: hq)) (hi : am_isInv i = true) (hst : st = as.reverse ++ rest) (hn : as.length = na) (hk : k' < 1000) (hcat : (rest.map fun v => v.category).sum ≤ 8)
    (hY : am_Y xs L k' d0 mc' ms' as D (.inr E) D') (hd : d0 + 1 ≤ d) (hc : c + mc' ≤ mc) (hs : s + ms' ≤ ms) (hh : am_hd hq E = some (p', il)) (hil : il < lc.length) (kk : am_X xs L k d mc ms p' (am_put lc il am_dead) [] (am_mk D') (c + mc') (s + ms') Q) : am_X xs L k d mc ms pc lc st (am_mk D) c s Q := by
  obtain ⟨n2, hn2⟩ := kk
  obtain ⟨⟨mi', g1, g2, g3⟩, n1, hn1⟩ := hY
  obtain ⟨e1, e2, e3, e4, e5, e6, e7⟩ := am_clS (xs := xs) (L := L) (lc := lc) (h := am_mk D) (pc := pc) (j := j) (hq := nest :: hq) hi hst hn hk hcat
  refine ⟨n1 + n2 + 1, ?_⟩
  unfold am_at at r
  obtain ⟨mi, f1, f2⟩ := Option.bind_eq_some_iff.mp r
  rw [am_w, f1]
  dsimp only
  rw [f2]
  dsimp only
  have hst2 : am_step xs L mc ms mi.1.2.2.2.2 (i, 3, k' :: na :: j :: nest :: hq) pc lc st (am_mk D) c s = some (True, .inr (.inl (k', as, rest))) := by unfold am_step; dsimp only; rw [e1]; dsimp only; rw [e2]; dsimp only; rw [e3]; dsimp only; rw [e4]; dsimp only; rw [e5]; dsimp only; rw [e6]; dsimp only; rw [e7]
  rw [hst2]
  obtain ⟨d1, rfl⟩ : ∃ d1, d = d1 + 1 := ⟨d - 1, by omega⟩
  have hnl : am_nl k' = mi'.1.2.2.2.1 := by unfold am_nl; rw [g1]; rfl
  rw [hnl] at hn1
  refine ⟨trivial, d1, mc', ms', mi', rfl, hc, hs, g1, g2, g3, ?_⟩
  refine am_w_mono n1 (n1 + n2) d0 d1 k' mc' mc' ms' ms' _ _ _ (by omega) (by omega) (Nat.le_refl _) (Nat.le_refl _) (fun o h' hz => ?_) hn1
  obtain ⟨eo, eh⟩ := hz
  subst eo
  rw [eh]
  show match am_hd hq E with
    | some (p, i) => _
    | none => _
  rw [hh]
  exact ⟨hil, Or.inl (by rw [am_mk_len, am_mk_len]), am_w_mono n2 (n1 + n2) (d1 + 1) (d1 + 1) k mc mc ms ms _ _ _ (by omega) (Nat.le_refl _) (Nat.le_refl _) (Nat.le_refl _) (fun _ _ z => z) hn2⟩
end XB
