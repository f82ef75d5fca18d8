/-! the making of things: steps over a heap that grows -/
abbrev c_I (n : Nat) (f : Nat → Int32) : va_E := .inl (0, n, .inl f)
abbrev c_J (n : Nat) (f : Nat → Int64) : va_E := .inl (1, n, .inr (.inl f))
abbrev c_K (n : Nat) (f : Nat → UInt64) : va_E := .inl (2, n, .inr (.inr (.inr (.inl f))))
abbrev c_R (n : Nat) (f : Nat → Option Nat) : va_E := .inl (3, n, .inr (.inr (.inr (.inr f))))
abbrev c_O (ci : Nat) (fs : List Value) : va_E := .inr (ci, fs)
theorem nv_n {n : Nat} : am_nv n [] = true := rfl
theorem nv_r {n x : Nat} {l : List Value} (h : x < n) (hl : am_nv n l = true) : am_nv n (.ref x :: l) = true := by
  unfold am_nv at hl ⊢
  rw [List.all_cons, hl, Bool.and_true]
  have : ¬ x = n := by omega
  simp [this]
theorem nv_b {n x : Nat} {l : List Value} (h : n < x) (hl : am_nv n l = true) : am_nv n (.ref x :: l) = true := by
  unfold am_nv at hl ⊢
  rw [List.all_cons, hl, Bool.and_true]
  have : ¬ x = n := by omega
  simp [this]
theorem nv_i {n : Nat} {x : Int32} {l : List Value} (hl : am_nv n l = true) : am_nv n (.int x :: l) = true := hl
theorem nv_j {n : Nat} {x : Int64} {l : List Value} (hl : am_nv n l = true) : am_nv n (.long x :: l) = true := hl
theorem nv_0 {n : Nat} {l : List Value} (hl : am_nv n l = true) : am_nv n (.null :: l) = true := hl
theorem nv_d {n : Nat} {l : List Value} (hl : am_nv n l = true) : am_nv n (am_dead :: l) = true := hl
theorem sc_n {n : Nat} : am_scp n [] = true := rfl
theorem sc_r {n x : Nat} {l : List Value} (h : x < n ∨ 1000000 ≤ x) (hl : am_scp n l = true) : am_scp n (.ref x :: l) = true := by
  unfold am_scp at hl ⊢
  rw [List.all_cons, hl, Bool.and_true]
  simpa using h
theorem sc_i {n : Nat} {x : Int32} {l : List Value} (hl : am_scp n l = true) : am_scp n (.int x :: l) = true := hl
theorem sc_d {n : Nat} {l : List Value} (hl : am_scp n l = true) : am_scp n (am_dead :: l) = true := hl
/-- what names no place from n on -/
def z_sc (n : Nat) (h : am_AH) : Prop := ∀ m, n ≤ m → m < 1000000 → am_fresh m h = true
def z_cl (m : Nat) (e : va_E) : Bool := match e with
  | .inr (_, fs) => am_nv m fs
  | .inl (_, n, .inr (.inr (.inr (.inr f)))) => (List.range n).all (fun j => !(f j == some m))
  | _ => true
theorem z_fr (m : Nat) (h : am_AH) : am_fresh m h = (decide (m < 1000000) && h.all (z_cl m)) := rfl
theorem z_sc_app {n k : Nat} {P q : am_AH} (hP : z_sc n P) (hk : n ≤ k) (hq : ∀ m, k ≤ m → q.all (z_cl m) = true) : z_sc k (P ++ q) := fun m h1 h2 => by
  have := hP m (by omega) h2
  rw [z_fr, Bool.and_eq_true] at this ⊢
  rw [List.all_append, this.2, hq m h1]
  exact ⟨this.1, rfl⟩
theorem z_sc_nil (n : Nat) : z_sc n [] := fun m _ h2 => by
  rw [z_fr]; simpa using h2
theorem z_al0 {m : Nat} : ([] : am_AH).all (z_cl m) = true := rfl
theorem z_alI {m n : Nat} {f : Nat → Int32} {q : am_AH} (h : q.all (z_cl m) = true) : (c_I n f :: q).all (z_cl m) = true := by rw [List.all_cons, h]; rfl
theorem z_alJ {m n : Nat} {f : Nat → Int64} {q : am_AH} (h : q.all (z_cl m) = true) : (c_J n f :: q).all (z_cl m) = true := by rw [List.all_cons, h]; rfl
theorem z_alK {m n : Nat} {f : Nat → UInt64} {q : am_AH} (h : q.all (z_cl m) = true) : (c_K n f :: q).all (z_cl m) = true := by rw [List.all_cons, h]; rfl
theorem z_alO {m ci : Nat} {fs : List Value} {q : am_AH} (h0 : am_nv m fs = true) (h : q.all (z_cl m) = true) : (c_O ci fs :: q).all (z_cl m) = true := by
  rw [List.all_cons, h, Bool.and_true]; exact h0
theorem z_alR {m n : Nat} {f : Nat → Option Nat} {q : am_AH} (h0 : ∀ j, j < n → f j ≠ some m) (h : q.all (z_cl m) = true) : (c_R n f :: q).all (z_cl m) = true := by
  rw [List.all_cons, h, Bool.and_true]
  show (List.range n).all (fun j => !(f j == some m)) = true
  rw [List.all_eq_true]
  intro j hj
  have := h0 j (List.mem_range.mp hj)
  simp [this]
theorem z_at {P q : am_AH} {a : Nat} (hP : P.length = a) (i : Nat) {e : va_E} (h : q[i]? = some e) : (P ++ q)[a + i]? = some e := by
  rw [List.getElem?_append_right (by omega), hP, Nat.add_sub_cancel_left]
  exact h
theorem z_set {P q q' : am_AH} {a : Nat} (hP : P.length = a) (i : Nat) (e : va_E) (h : q.set i e = q') : (P ++ q).set (a + i) e = P ++ q' := by
  rw [List.set_append_right _ _ (by omega), hP, Nat.add_sub_cancel_left, h]
theorem z_len {P q : am_AH} {a k : Nat} (hP : P.length = a) (h : q.length = k) : (P ++ q).length = a + k := by rw [List.length_append, hP, h]
theorem z_push (P q : am_AH) (e : va_E) : (P ++ q) ++ [e] = P ++ (q ++ [e]) := List.append_assoc P q [e]
section ZB
variable {xs : Nat → Int32} {L : Nat} {k d mc ms pc p' : Nat} {lc st : List Value} {h h' : am_AH} {c s : Nat} {Q : am_O → am_AH → Prop} {a n : Nat} {au : List Nat}
theorem z_gf {idx ci f kd j : Nat} {fs : List Value} {v : Value} (r : am_at k pc = some (.getfield idx, 3, [ci, f, kd, j])) (hh : h[a]? = some (.inr (ci, fs))) (hv : fs[f]? = some v) (hp : pc + 3 = p') (kk : am_X xs L k d mc ms p' lc (v :: st) h c s Q) : am_X xs L k d mc ms pc lc (.ref a :: st) h c s Q := by
  refine x_hp r rfl rfl rfl rfl (C := True) ?_ trivial hp kk
  unfold am_hp
  dsimp only
  rw [hh]
  dsimp only
  rw [if_pos rfl, hv]
theorem z_pf0 {idx ci f j : Nat} {fs : List Value} {x : Int32} (r : am_at k pc = some (.putfield idx, 3, [ci, f, 0, j])) (hh : h[a]? = some (.inr (ci, fs))) (hf : f < fs.length) (hs : h.set a (.inr (ci, fs.set f (.int x))) = h') (hp : pc + 3 = p') (kk : am_X xs L k d mc ms p' lc st h' c s Q) : am_X xs L k d mc ms pc lc (.int x :: .ref a :: st) h c s Q := by
  subst hs
  refine x_hp r rfl rfl rfl rfl (C := True) ?_ trivial hp kk
  unfold am_hp
  dsimp only
  rw [hh]
  dsimp only
  rw [if_pos ⟨rfl, hf⟩]
  rfl
theorem z_pf2 {idx ci f j : Nat} {fs : List Value} {x : Int32} (r : am_at k pc = some (.putfield idx, 3, [ci, f, 2, j])) (hh : h[a]? = some (.inr (ci, fs))) (hf : f < fs.length) (hz : narrow .boolean (.int x) = .int x) (hs : h.set a (.inr (ci, fs.set f (.int x))) = h') (hp : pc + 3 = p') (kk : am_X xs L k d mc ms p' lc st h' c s Q) : am_X xs L k d mc ms pc lc (.int x :: .ref a :: st) h c s Q := by
  subst hs
  refine x_hp r rfl rfl rfl rfl (C := narrow .boolean (.int x) = .int x) ?_ hz hp kk
  unfold am_hp
  dsimp only
  rw [hh]
  dsimp only
  rw [if_pos ⟨rfl, hf⟩]
  rfl
theorem z_pf3 {idx ci f j x : Nat} {fs : List Value} (r : am_at k pc = some (.putfield idx, 3, [ci, f, 3, j])) (hh : h[a]? = some (.inr (ci, fs))) (hf : f < fs.length) (hs : h.set a (.inr (ci, fs.set f (.ref x))) = h') (hp : pc + 3 = p') (kk : am_X xs L k d mc ms p' lc st h' c s Q) : am_X xs L k d mc ms pc lc (.ref x :: .ref a :: st) h c s Q := by
  subst hs
  refine x_hp r rfl rfl rfl rfl (C := True) ?_ trivial hp kk
  unfold am_hp
  dsimp only
  rw [hh]
  dsimp only
  rw [if_pos ⟨rfl, hf⟩]
  rfl
theorem z_ias {f : Nat → Int32} {j x : Int32} {e : Nat} (r : am_at k pc = some (.iastore, 1, au)) (hh : h[a]? = some (c_I n f)) (hn : n < 2147483648) (hg : 0 ≤ j ∧ j < Int32.ofNat n) (he : j.toNatClampNeg = e) (hs : h.set a (c_I n (upd f e x)) = h') (hp : pc + 1 = p') (kk : am_X xs L k d mc ms p' lc st h' c s Q) : am_X xs L k d mc ms pc lc (.int x :: .int j :: .ref a :: st) h c s Q := by
  subst hs; subst he
  refine x_hp r rfl rfl rfl rfl (C := vp_in j n) ?_ (am_vin hn hg) hp kk
  unfold am_hp
  dsimp only
  rw [hh]
  rfl
theorem z_las {f : Nat → Int64} {j : Int32} {x : Int64} {e : Nat} (r : am_at k pc = some (.lastore, 1, au)) (hh : h[a]? = some (c_J n f)) (hn : n < 2147483648) (hg : 0 ≤ j ∧ j < Int32.ofNat n) (he : j.toNatClampNeg = e) (hs : h.set a (c_J n (vp_updL f e x)) = h') (hp : pc + 1 = p') (kk : am_X xs L k d mc ms p' lc st h' c s Q) : am_X xs L k d mc ms pc lc (.long x :: .int j :: .ref a :: st) h c s Q := by
  subst hs; subst he
  refine x_hp r rfl rfl rfl rfl (C := vp_in j n) ?_ (am_vin hn hg) hp kk
  unfold am_hp
  dsimp only
  rw [hh]
  rfl
theorem z_lal {f : Nat → Int64} {j : Int32} {e : Nat} (r : am_at k pc = some (.laload, 1, au)) (hh : h[a]? = some (c_J n f)) (hn : n < 2147483648) (hg : 0 ≤ j ∧ j < Int32.ofNat n) (he : j.toNatClampNeg = e) (hp : pc + 1 = p') (kk : am_X xs L k d mc ms p' lc (.long (f e) :: st) h c s Q) : am_X xs L k d mc ms pc lc (.int j :: .ref a :: st) h c s Q := by
  subst he
  refine x_hp r rfl rfl rfl rfl (C := vp_in j n) ?_ (am_vin hn hg) hp kk
  unfold am_hp
  dsimp only
  rw [hh]
  rfl
theorem z_alen {t : Nat} {v : Int32} {x : vp_A} (r : am_at k pc = some (.arraylength, 1, au)) (hh : h[a]? = some (.inl (t, x))) (hv : Int32.ofNat x.1 = v) (hp : pc + 1 = p') (kk : am_X xs L k d mc ms p' lc (.int v :: st) h c s Q) : am_X xs L k d mc ms pc lc (.ref a :: st) h c s Q := by
  subst hv
  refine x_hp r rfl rfl rfl rfl (C := True) ?_ trivial hp kk
  unfold am_hp
  dsimp only
  rw [hh]
theorem z_aas {f : Nat → Option Nat} {j : Int32} {v e : Nat} {fs : List Value} (r : am_at k pc = some (.aastore, 1, au)) (hh : h[a]? = some (c_R n f)) (hv : h[v]? = some (.inr (4, fs))) (hn : n < 2147483648) (hg : 0 ≤ j ∧ j < Int32.ofNat n) (he : j.toNatClampNeg = e) (hs : h.set a (c_R n (va_up f e (some v))) = h') (hp : pc + 1 = p') (kk : am_X xs L k d mc ms p' lc st h' c s Q) : am_X xs L k d mc ms pc lc (.ref v :: .int j :: .ref a :: st) h c s Q := by
  subst hs; subst he
  refine x_hp r rfl rfl rfl rfl (C := vp_in j n) ?_ (am_vin hn hg) hp kk
  unfold am_hp
  dsimp only
  rw [hh, hv]
  rfl
theorem z_new {idx ci : Nat} {rest : List Nat} {q : String × List (String × String × String × Bool)} {e : va_E} {z : Nat} (r : am_at k pc = some (.new idx, 3, 0 :: ci :: rest)) (hq : am_cls[ci]? = some q) (hn : h.length = n) (h6 : n < 1000000) (hs : z_sc n h) (h1 : am_nv n lc = true) (h2 : am_nv n st = true) (he : Sum.inr (ci, q.2.map (fun f => am_dv f.2.2.1)) = e) (hl : q.2.length = z) (hc : c + 1 ≤ mc) (hz : s + z ≤ ms) (hg : h ++ [e] = h') (hp : pc + 3 = p') (kk : am_X xs L k d mc ms p' lc (.ref n :: st) h' (c + 1) (s + z) Q) : am_X xs L k d mc ms pc lc st h c s Q := by
  subst hg; subst hn; subst he; subst hl
  refine x_al r rfl rfl rfl rfl rfl rfl rfl (fun _ => rfl) (C := am_nv h.length lc = true ∧ am_nv h.length st = true ∧ am_fresh h.length h = true) ?_ ⟨h1, h2, hs _ (Nat.le_refl _) h6⟩ hc hz hp kk
  unfold am_al
  simp only [hq]
theorem z_nai {at' : ArrayType} {rest : List Nat} {m : Int32} {z : Nat} (r : am_at k pc = some (.newarray at', 2, 0 :: rest)) (hn : h.length = n) (h6 : n < 1000000) (hs : z_sc n h) (h1 : am_nv n lc = true) (h2 : am_nv n st = true) (hm : ¬ m < 0) (hz' : m.toNatClampNeg = z) (hb : z ≤ 65536) (hc : c + 1 ≤ mc) (hz : s + z ≤ ms) (hg : h ++ [c_I z (fun _ => 0)] = h') (hp : pc + 2 = p') (kk : am_X xs L k d mc ms p' lc (.ref n :: st) h' (c + 1) (s + z) Q) : am_X xs L k d mc ms pc lc (.int m :: st) h c s Q := by
  subst hg; subst hn; subst hz'
  refine x_al r rfl rfl rfl rfl rfl rfl rfl (fun _ => rfl) (C := am_nv h.length lc = true ∧ am_nv h.length st = true ∧ am_fresh h.length h = true ∧ ¬ m < 0 ∧ m.toNatClampNeg ≤ 65536) ?_ ⟨h1, h2, hs _ (Nat.le_refl _) h6, hm, hb⟩ hc hz hp kk
  rfl
theorem z_naj {at' : ArrayType} {rest : List Nat} {m : Int32} {z : Nat} (r : am_at k pc = some (.newarray at', 2, 1 :: rest)) (hn : h.length = n) (h6 : n < 1000000) (hs : z_sc n h) (h1 : am_nv n lc = true) (h2 : am_nv n st = true) (hm : ¬ m < 0) (hz' : m.toNatClampNeg = z) (hb : z ≤ 65536) (hc : c + 1 ≤ mc) (hz : s + z ≤ ms) (hg : h ++ [c_J z (fun _ => 0)] = h') (hp : pc + 2 = p') (kk : am_X xs L k d mc ms p' lc (.ref n :: st) h' (c + 1) (s + z) Q) : am_X xs L k d mc ms pc lc (.int m :: st) h c s Q := by
  subst hg; subst hn; subst hz'
  refine x_al r rfl rfl rfl rfl rfl rfl rfl (fun _ => rfl) (C := am_nv h.length lc = true ∧ am_nv h.length st = true ∧ am_fresh h.length h = true ∧ ¬ m < 0 ∧ m.toNatClampNeg ≤ 65536) ?_ ⟨h1, h2, hs _ (Nat.le_refl _) h6, hm, hb⟩ hc hz hp kk
  rfl
theorem z_nad {at' : ArrayType} {rest : List Nat} {m : Int32} {z : Nat} (r : am_at k pc = some (.newarray at', 2, 2 :: rest)) (hn : h.length = n) (h6 : n < 1000000) (hs : z_sc n h) (h1 : am_nv n lc = true) (h2 : am_nv n st = true) (hm : ¬ m < 0) (hz' : m.toNatClampNeg = z) (hb : z ≤ 65536) (hc : c + 1 ≤ mc) (hz : s + z ≤ ms) (hg : h ++ [c_K z (fun _ => 0)] = h') (hp : pc + 2 = p') (kk : am_X xs L k d mc ms p' lc (.ref n :: st) h' (c + 1) (s + z) Q) : am_X xs L k d mc ms pc lc (.int m :: st) h c s Q := by
  subst hg; subst hn; subst hz'
  refine x_al r rfl rfl rfl rfl rfl rfl rfl (fun _ => rfl) (C := am_nv h.length lc = true ∧ am_nv h.length st = true ∧ am_fresh h.length h = true ∧ ¬ m < 0 ∧ m.toNatClampNeg ≤ 65536) ?_ ⟨h1, h2, hs _ (Nat.le_refl _) h6, hm, hb⟩ hc hz hp kk
  rfl
theorem z_ana {idx : Nat} {rest : List Nat} {m : Int32} {z : Nat} (r : am_at k pc = some (.anewarray idx, 3, 3 :: rest)) (hn : h.length = n) (h6 : n < 1000000) (hs : z_sc n h) (h1 : am_nv n lc = true) (h2 : am_nv n st = true) (hm : ¬ m < 0) (hz' : m.toNatClampNeg = z) (hb : z ≤ 65536) (hc : c + 1 ≤ mc) (hz : s + z ≤ ms) (hg : h ++ [c_R z (fun _ => none)] = h') (hp : pc + 3 = p') (kk : am_X xs L k d mc ms p' lc (.ref n :: st) h' (c + 1) (s + z) Q) : am_X xs L k d mc ms pc lc (.int m :: st) h c s Q := by
  subst hg; subst hn; subst hz'
  refine x_al r rfl rfl rfl rfl rfl rfl rfl (fun _ => rfl) (C := am_nv h.length lc = true ∧ am_nv h.length st = true ∧ am_fresh h.length h = true ∧ ¬ m < 0 ∧ m.toNatClampNeg ≤ 65536) ?_ ⟨h1, h2, hs _ (Nat.le_refl _) h6, hm, hb⟩ hc hz hp kk
  rfl
theorem z_obj {idx x : Nat} {rest : List Nat} (r : am_at k pc = some (.invokespecial idx, 3, 1003 :: rest)) (hcat : (st.map fun v => v.category).sum ≤ 8) (hp : pc + 3 = p') (kk : am_X xs L k d mc ms p' lc st h c s Q) : am_X xs L k d mc ms pc lc (.ref x :: st) h c s Q := by
  refine x_sp r rfl rfl rfl rfl rfl (C := True) ?_ trivial hp kk
  unfold am_sp
  dsimp only
  rw [if_pos hcat]
  rfl
/-- what a call of a maker comes to -/
def am_Z (xs : Nat → Int32) (L k d mc ms : Nat) (as : List Value) (h h' : am_AH) : Prop :=
  (∃ mi, am_pg[k]? = some mi ∧ (am_args as).length ≤ mi.1.2.2.2.1 ∧ am_rcv mi as h = true) ∧ am_X xs L k d mc ms 0 (am_ent as (am_nl k)) [] h 0 0 (fun o' h'' => o' = .inl none ∧ h'' = h')
theorem am_Zof {mi : am_MI} {as : List Value} (hm : am_pg[k]? = some mi) (hl : (am_args as).length ≤ mi.1.2.2.2.1) (hr : am_rcv mi as h = true) {lc : List Value} (he : am_ent as mi.1.2.2.2.1 = lc) (hw : ∀ Q : am_O → am_AH → Prop, Q (.inl none) h' → am_X xs L k d mc ms 0 lc [] h 0 0 Q) : am_Z xs L k d mc ms as h h' := by
  refine ⟨⟨mi, hm, hl, hr⟩, ?_⟩
  have hnl : am_nl k = mi.1.2.2.2.1 := by unfold am_nl; rw [hm]; rfl
  rw [hnl, he]
  exact hw _ ⟨rfl, rfl⟩
theorem z_mv {as : List Value} {h1 h1' : am_AH} (hY : am_Z xs L k d mc ms as h1 h1') (e : h1 = h) (e' : h1' = h') : am_Z xs L k d mc ms as h h' := by subst e; subst e'; exact hY
theorem am_rc2 {mi : am_MI} {x : Nat} {as : List Value} {hh : am_AH} (h1 : mi.2.1.1 = 2) : am_rcv mi (.ref x :: as) hh = true := by
  unfold am_rcv
  split
  · rfl
  · next e => rw [h1] at e; cases e
  · rfl
theorem z_call {i : Instr} {k' na j nest d0 mc' ms' : Nat} {hq : List Nat} {as rest : List Value} (r : am_at k pc = some (i, 3, k' :: na :: j :: nest :: hq)) (hi : am_isInv i = true) (hst : st = as.reverse ++ rest) (hn : as.length = na) (hk : k' < 1000) (hcat : (rest.map fun v => v.category).sum ≤ 8)
    (hY : am_Z xs L k' d0 mc' ms' as h h') (hd : d0 + 1 ≤ d) (hc : c + mc' ≤ mc) (hs : s + ms' ≤ ms) (hl : h.length = n) (h1 : am_scp n lc = true) (h2 : am_scp n rest = true) (hp : pc + 3 = p') (kk : am_X xs L k d mc ms p' lc rest h' (c + mc') (s + ms') Q) : am_X xs L k d mc ms pc lc st h c s Q := by
  subst hp; subst hl
  obtain ⟨n2, hn2⟩ := kk
  obtain ⟨⟨mi', g1, g2, g3⟩, n1, hn1⟩ := hY
  obtain ⟨e1, e2, e3, e4, e5, e6, e7⟩ := am_clS (xs := xs) (L := L) (lc := lc) (h := h) (pc := pc) (j := j) (hq := nest :: hq) hi hst hn hk hcat
  refine ⟨n1 + n2 + 1, ?_⟩
  unfold am_at at r
  obtain ⟨mi, f1, f2⟩ := Option.bind_eq_some_iff.mp r
  rw [am_w, f1]
  dsimp only
  rw [f2]
  dsimp only
  have hst2 : am_step xs L mc ms mi.1.2.2.2.2 (i, 3, k' :: na :: j :: nest :: hq) pc lc st h c s = some (True, .inr (.inl (k', as, rest))) := by unfold am_step; dsimp only; rw [e1]; dsimp only; rw [e2]; dsimp only; rw [e3]; dsimp only; rw [e4]; dsimp only; rw [e5]; dsimp only; rw [e6]; dsimp only; rw [e7]
  rw [hst2]
  obtain ⟨d1, rfl⟩ : ∃ d1, d = d1 + 1 := ⟨d - 1, by omega⟩
  have hnl : am_nl k' = mi'.1.2.2.2.1 := by unfold am_nl; rw [g1]; rfl
  rw [hnl] at hn1
  refine ⟨trivial, d1, mc', ms', mi', rfl, hc, hs, g1, g2, g3, ?_⟩
  refine am_w_mono n1 (n1 + n2) d0 d1 k' mc' mc' ms' ms' _ _ _ (by omega) (by omega) (Nat.le_refl _) (Nat.le_refl _) (fun o h'' hq => ?_) hn1
  obtain ⟨eo, eh⟩ := hq
  subst eo
  rw [eh]
  exact ⟨Or.inr (by rw [h1, h2]; rfl), am_w_mono n2 (n1 + n2) (d1 + 1) (d1 + 1) k mc mc ms ms _ _ _ (by omega) (Nat.le_refl _) (Nat.le_refl _) (Nat.le_refl _) (fun _ _ z => z) hn2⟩
end ZB
