/-! the rules of the steps over the data -/
/-- a value is given a name -/
def am_lt {α β : Type} (e : α) (f : α → β) : β := f e
theorem am_ltE {α β : Type} {e : α} {f : α → β} {r : β} (h : am_lt e f = r) : ∃ v, v = e ∧ f v = r := ⟨e, rfl, h⟩
theorem am_vin {j : Int32} {n : Nat} (hn : n < 2147483648) (h : 0 ≤ j ∧ j < Int32.ofNat n) : vp_in j n := by
  obtain ⟨h0, h1⟩ := h
  have e0 : (0 : Int) ≤ j.toInt := by rw [Int32.le_iff_toInt_le] at h0; simpa using h0
  have e1 : j.toInt < (n : Int) := by rw [Int32.lt_iff_toInt_lt, am_i32 hn] at h1; exact h1
  have e2 : j.toNatClampNeg = j.toInt.toNat := rfl
  rintro (q | q)
  · rw [Int32.lt_iff_toInt_lt] at q
    have : (0 : Int32).toInt = 0 := rfl
    omega
  · omega
/-- a place of the script -/
theorem am_vinL {j : Int32} {n : Nat} (h : 0 ≤ j ∧ j.toNatClampNeg < n) : vp_in j n := by
  obtain ⟨h0, h1⟩ := h
  rintro (q | q)
  · exact absurd h0 (Int32.not_le.mpr q)
  · omega
section YB
variable {xs : Nat → Int32} {L : Nat} {k d mc ms pc p' : Nat} {lc st : List Value} {h : am_AH} {c s : Nat} {Q : am_O → am_AH → Prop} {D D' : am_D} {a : Nat} {au : List Nat}
theorem am_topI {v e : Int32} (hv : v = e) (kk : am_X xs L k d mc ms pc lc (.int v :: st) h c s Q) : am_X xs L k d mc ms pc lc (.int e :: st) h c s Q := hv ▸ kk
theorem am_topJ {v e : Int64} (hv : v = e) (kk : am_X xs L k d mc ms pc lc (.long v :: st) h c s Q) : am_X xs L k d mc ms pc lc (.long e :: st) h c s Q := hv ▸ kk
theorem am_topF {v e : UInt32} (hv : v = e) (kk : am_X xs L k d mc ms pc lc (.float v :: st) h c s Q) : am_X xs L k d mc ms pc lc (.float e :: st) h c s Q := hv ▸ kk
theorem am_topD {v e : UInt64} (hv : v = e) (kk : am_X xs L k d mc ms pc lc (.double v :: st) h c s Q) : am_X xs L k d mc ms pc lc (.double e :: st) h c s Q := hv ▸ kk
theorem x_ic {n : Int} {v : Int32} (r : am_at k pc = some (.iconst n, 1, au)) (hv : Int32.ofInt n = v) (hp : pc + 1 = p') (kk : am_X xs L k d mc ms p' lc (.int v :: st) h c s Q) : am_X xs L k d mc ms pc lc st h c s Q := by
  subst hv; exact x_ar r rfl trivial hp kk
theorem x_bi {n : Int} {v : Int32} (r : am_at k pc = some (.bipush n, 2, au)) (hv : (Int8.ofInt n).toInt32 = v) (hp : pc + 2 = p') (kk : am_X xs L k d mc ms p' lc (.int v :: st) h c s Q) : am_X xs L k d mc ms pc lc st h c s Q := by
  subst hv; exact x_ar r rfl trivial hp kk
theorem x_si {n : Int} {v : Int32} (r : am_at k pc = some (.sipush n, 3, au)) (hv : (Int16.ofInt n).toInt32 = v) (hp : pc + 3 = p') (kk : am_X xs L k d mc ms p' lc (.int v :: st) h c s Q) : am_X xs L k d mc ms pc lc st h c s Q := by
  subst hv; exact x_ar r rfl trivial hp kk
theorem x_goto {off : Int} (r : am_at k pc = some (.goto off, 3, [p'])) (kk : am_X xs L k d mc ms p' lc st h c s Q) : am_X xs L k d mc ms pc lc st h c s Q := x_br r rfl rfl rfl rfl rfl kk
theorem x_ifnull {off : Int} {x : Nat} (r : am_at k pc = some (.ifnull off, 3, au)) (hp : pc + 3 = p') (kk : am_X xs L k d mc ms p' lc st h c s Q) : am_X xs L k d mc ms pc lc (.ref x :: st) h c s Q := x_br r rfl rfl rfl rfl hp kk
theorem x_ifnn {off : Int} {x : Nat} (r : am_at k pc = some (.ifnonnull off, 3, [p'])) (kk : am_X xs L k d mc ms p' lc st h c s Q) : am_X xs L k d mc ms pc lc (.ref x :: st) h c s Q := x_br r rfl rfl rfl rfl rfl kk

theorem x_ifeqT {x : Int32} {off : Int} (r : am_at k pc = some (.ifCond .eq off, 3, [p'])) (hc : x = 0) (kk : am_X xs L k d mc ms p' lc st h c s Q) : am_X xs L k d mc ms pc lc (.int x :: st) h c s Q := x_br r rfl rfl rfl rfl (by show (if x = 0 then _ else _) = _; rw [if_pos hc]; rfl) kk
theorem x_ifeqF {x : Int32} {off : Int} {t : Nat} (r : am_at k pc = some (.ifCond .eq off, 3, [t])) (hc : ¬ x = 0) (hp : pc + 3 = p') (kk : am_X xs L k d mc ms p' lc st h c s Q) : am_X xs L k d mc ms pc lc (.int x :: st) h c s Q := x_br r rfl rfl rfl rfl (by show (if x = 0 then _ else _) = _; rw [if_neg hc]; exact hp) kk
theorem x_ifneT {x : Int32} {off : Int} {t : Nat} (r : am_at k pc = some (.ifCond .ne off, 3, [t])) (hc : x = 0) (hp : pc + 3 = p') (kk : am_X xs L k d mc ms p' lc st h c s Q) : am_X xs L k d mc ms pc lc (.int x :: st) h c s Q := x_br r rfl rfl rfl rfl (by show (if x = 0 then _ else _) = _; rw [if_pos hc]; exact hp) kk
theorem x_ifneF {x : Int32} {off : Int} (r : am_at k pc = some (.ifCond .ne off, 3, [p'])) (hc : ¬ x = 0) (kk : am_X xs L k d mc ms p' lc st h c s Q) : am_X xs L k d mc ms pc lc (.int x :: st) h c s Q := x_br r rfl rfl rfl rfl (by show (if x = 0 then _ else _) = _; rw [if_neg hc]; rfl) kk
theorem x_ifltT {x : Int32} {off : Int} (r : am_at k pc = some (.ifCond .lt off, 3, [p'])) (hc : x < 0) (kk : am_X xs L k d mc ms p' lc st h c s Q) : am_X xs L k d mc ms pc lc (.int x :: st) h c s Q := x_br r rfl rfl rfl rfl (by show (if x < 0 then _ else _) = _; rw [if_pos hc]; rfl) kk
theorem x_ifltF {x : Int32} {off : Int} {t : Nat} (r : am_at k pc = some (.ifCond .lt off, 3, [t])) (hc : ¬ x < 0) (hp : pc + 3 = p') (kk : am_X xs L k d mc ms p' lc st h c s Q) : am_X xs L k d mc ms pc lc (.int x :: st) h c s Q := x_br r rfl rfl rfl rfl (by show (if x < 0 then _ else _) = _; rw [if_neg hc]; exact hp) kk
theorem x_ifgeT {x : Int32} {off : Int} (r : am_at k pc = some (.ifCond .ge off, 3, [p'])) (hc : 0 ≤ x) (kk : am_X xs L k d mc ms p' lc st h c s Q) : am_X xs L k d mc ms pc lc (.int x :: st) h c s Q := x_br r rfl rfl rfl rfl (by show (if 0 ≤ x then _ else _) = _; rw [if_pos hc]; rfl) kk
theorem x_ifgeF {x : Int32} {off : Int} {t : Nat} (r : am_at k pc = some (.ifCond .ge off, 3, [t])) (hc : ¬ 0 ≤ x) (hp : pc + 3 = p') (kk : am_X xs L k d mc ms p' lc st h c s Q) : am_X xs L k d mc ms pc lc (.int x :: st) h c s Q := x_br r rfl rfl rfl rfl (by show (if 0 ≤ x then _ else _) = _; rw [if_neg hc]; exact hp) kk
theorem x_ifgtT {x : Int32} {off : Int} (r : am_at k pc = some (.ifCond .gt off, 3, [p'])) (hc : 0 < x) (kk : am_X xs L k d mc ms p' lc st h c s Q) : am_X xs L k d mc ms pc lc (.int x :: st) h c s Q := x_br r rfl rfl rfl rfl (by show (if 0 < x then _ else _) = _; rw [if_pos hc]; rfl) kk
theorem x_ifgtF {x : Int32} {off : Int} {t : Nat} (r : am_at k pc = some (.ifCond .gt off, 3, [t])) (hc : ¬ 0 < x) (hp : pc + 3 = p') (kk : am_X xs L k d mc ms p' lc st h c s Q) : am_X xs L k d mc ms pc lc (.int x :: st) h c s Q := x_br r rfl rfl rfl rfl (by show (if 0 < x then _ else _) = _; rw [if_neg hc]; exact hp) kk
theorem x_ifleT {x : Int32} {off : Int} (r : am_at k pc = some (.ifCond .le off, 3, [p'])) (hc : x ≤ 0) (kk : am_X xs L k d mc ms p' lc st h c s Q) : am_X xs L k d mc ms pc lc (.int x :: st) h c s Q := x_br r rfl rfl rfl rfl (by show (if x ≤ 0 then _ else _) = _; rw [if_pos hc]; rfl) kk
theorem x_ifleF {x : Int32} {off : Int} {t : Nat} (r : am_at k pc = some (.ifCond .le off, 3, [t])) (hc : ¬ x ≤ 0) (hp : pc + 3 = p') (kk : am_X xs L k d mc ms p' lc st h c s Q) : am_X xs L k d mc ms pc lc (.int x :: st) h c s Q := x_br r rfl rfl rfl rfl (by show (if x ≤ 0 then _ else _) = _; rw [if_neg hc]; exact hp) kk
theorem x_iceqT {x y : Int32} {off : Int} (r : am_at k pc = some (.if_icmp .eq off, 3, [p'])) (hc : x = y) (kk : am_X xs L k d mc ms p' lc st h c s Q) : am_X xs L k d mc ms pc lc (.int y :: .int x :: st) h c s Q := x_br r rfl rfl rfl rfl (by show (if x = y then _ else _) = _; rw [if_pos hc]; rfl) kk
theorem x_iceqF {x y : Int32} {off : Int} {t : Nat} (r : am_at k pc = some (.if_icmp .eq off, 3, [t])) (hc : ¬ x = y) (hp : pc + 3 = p') (kk : am_X xs L k d mc ms p' lc st h c s Q) : am_X xs L k d mc ms pc lc (.int y :: .int x :: st) h c s Q := x_br r rfl rfl rfl rfl (by show (if x = y then _ else _) = _; rw [if_neg hc]; exact hp) kk
theorem x_icneT {x y : Int32} {off : Int} {t : Nat} (r : am_at k pc = some (.if_icmp .ne off, 3, [t])) (hc : x = y) (hp : pc + 3 = p') (kk : am_X xs L k d mc ms p' lc st h c s Q) : am_X xs L k d mc ms pc lc (.int y :: .int x :: st) h c s Q := x_br r rfl rfl rfl rfl (by show (if x = y then _ else _) = _; rw [if_pos hc]; exact hp) kk
theorem x_icneF {x y : Int32} {off : Int} (r : am_at k pc = some (.if_icmp .ne off, 3, [p'])) (hc : ¬ x = y) (kk : am_X xs L k d mc ms p' lc st h c s Q) : am_X xs L k d mc ms pc lc (.int y :: .int x :: st) h c s Q := x_br r rfl rfl rfl rfl (by show (if x = y then _ else _) = _; rw [if_neg hc]; rfl) kk
theorem x_icltT {x y : Int32} {off : Int} (r : am_at k pc = some (.if_icmp .lt off, 3, [p'])) (hc : x < y) (kk : am_X xs L k d mc ms p' lc st h c s Q) : am_X xs L k d mc ms pc lc (.int y :: .int x :: st) h c s Q := x_br r rfl rfl rfl rfl (by show (if x < y then _ else _) = _; rw [if_pos hc]; rfl) kk
theorem x_icltF {x y : Int32} {off : Int} {t : Nat} (r : am_at k pc = some (.if_icmp .lt off, 3, [t])) (hc : ¬ x < y) (hp : pc + 3 = p') (kk : am_X xs L k d mc ms p' lc st h c s Q) : am_X xs L k d mc ms pc lc (.int y :: .int x :: st) h c s Q := x_br r rfl rfl rfl rfl (by show (if x < y then _ else _) = _; rw [if_neg hc]; exact hp) kk
theorem x_icgeT {x y : Int32} {off : Int} (r : am_at k pc = some (.if_icmp .ge off, 3, [p'])) (hc : y ≤ x) (kk : am_X xs L k d mc ms p' lc st h c s Q) : am_X xs L k d mc ms pc lc (.int y :: .int x :: st) h c s Q := x_br r rfl rfl rfl rfl (by show (if y ≤ x then _ else _) = _; rw [if_pos hc]; rfl) kk
theorem x_icgeF {x y : Int32} {off : Int} {t : Nat} (r : am_at k pc = some (.if_icmp .ge off, 3, [t])) (hc : ¬ y ≤ x) (hp : pc + 3 = p') (kk : am_X xs L k d mc ms p' lc st h c s Q) : am_X xs L k d mc ms pc lc (.int y :: .int x :: st) h c s Q := x_br r rfl rfl rfl rfl (by show (if y ≤ x then _ else _) = _; rw [if_neg hc]; exact hp) kk
theorem x_icgtT {x y : Int32} {off : Int} (r : am_at k pc = some (.if_icmp .gt off, 3, [p'])) (hc : y < x) (kk : am_X xs L k d mc ms p' lc st h c s Q) : am_X xs L k d mc ms pc lc (.int y :: .int x :: st) h c s Q := x_br r rfl rfl rfl rfl (by show (if y < x then _ else _) = _; rw [if_pos hc]; rfl) kk
theorem x_icgtF {x y : Int32} {off : Int} {t : Nat} (r : am_at k pc = some (.if_icmp .gt off, 3, [t])) (hc : ¬ y < x) (hp : pc + 3 = p') (kk : am_X xs L k d mc ms p' lc st h c s Q) : am_X xs L k d mc ms pc lc (.int y :: .int x :: st) h c s Q := x_br r rfl rfl rfl rfl (by show (if y < x then _ else _) = _; rw [if_neg hc]; exact hp) kk
theorem x_icleT {x y : Int32} {off : Int} (r : am_at k pc = some (.if_icmp .le off, 3, [p'])) (hc : x ≤ y) (kk : am_X xs L k d mc ms p' lc st h c s Q) : am_X xs L k d mc ms pc lc (.int y :: .int x :: st) h c s Q := x_br r rfl rfl rfl rfl (by show (if x ≤ y then _ else _) = _; rw [if_pos hc]; rfl) kk
theorem x_icleF {x y : Int32} {off : Int} {t : Nat} (r : am_at k pc = some (.if_icmp .le off, 3, [t])) (hc : ¬ x ≤ y) (hp : pc + 3 = p') (kk : am_X xs L k d mc ms p' lc st h c s Q) : am_X xs L k d mc ms pc lc (.int y :: .int x :: st) h c s Q := x_br r rfl rfl rfl rfl (by show (if x ≤ y then _ else _) = _; rw [if_neg hc]; exact hp) kk
theorem x_tsw {x : Int32} {dd : Int} {lo hi : Int} {offs : Array Int} {len t0 : Nat} {sw : List Nat} (r : am_at k pc = some (.tableswitch dd lo hi offs, len, t0 :: sw)) (hp : am_sw x sw t0 = p') (kk : am_X xs L k d mc ms p' lc st h c s Q) : am_X xs L k d mc ms pc lc (.int x :: st) h c s Q := x_br r rfl rfl rfl rfl hp kk
theorem x_lsw {x : Int32} {dd : Int} {ps : Array (Int × Int)} {len t0 : Nat} {sw : List Nat} (r : am_at k pc = some (.lookupswitch dd ps, len, t0 :: sw)) (hp : am_sw x sw t0 = p') (kk : am_X xs L k d mc ms p' lc st h c s Q) : am_X xs L k d mc ms pc lc (.int x :: st) h c s Q := x_br r rfl rfl rfl rfl hp kk
theorem am_swT {x : Int32} {k0 t t0 : Nat} {sw : List Nat} (hx : x = Int32.ofNat k0) : am_sw x (k0 :: t :: sw) t0 = t := by unfold am_sw; rw [if_pos hx]
theorem am_swF {x : Int32} {k0 t t0 z : Nat} {sw : List Nat} (hx : ¬ x = Int32.ofNat k0) (h : am_sw x sw t0 = z) : am_sw x (k0 :: t :: sw) t0 = z := by unfold am_sw; rw [if_neg hx]; exact h
theorem am_mkO {ci f cd : Nat} (ho : am_so a ci f = some cd) : ∃ cs, (am_mk D)[a]? = some (.inr (ci, cs.mapIdx fun k c => am_fld D a k c)) ∧ cs[f]? = some cd ∧ am_sh[a]? = some (.inr (ci, cs)) := by
  obtain ⟨cs, h1, h2⟩ := am_soS ho
  exact ⟨cs, by rw [am_mk_at, h1]; rfl, h2, h1⟩
theorem y_gf {idx ci f kd j cd : Nat} {v : Value} (r : am_at k pc = some (.getfield idx, 3, [ci, f, kd, j])) (ho : am_so a ci f = some cd) (hv : am_fld D a f cd = v) (hp : pc + 3 = p') (kk : am_X xs L k d mc ms p' lc (v :: st) (am_mk D) c s Q) : am_X xs L k d mc ms pc lc (.ref a :: st) (am_mk D) c s Q := by
  obtain ⟨cs, h1, h2, -⟩ := am_mkO (D := D) ho
  subst hv
  refine x_hp r rfl rfl rfl rfl (C := True) ?_ trivial hp kk
  unfold am_hp
  dsimp only
  rw [h1]
  dsimp only
  rw [if_pos rfl, List.getElem?_mapIdx, h2]
  rfl
theorem y_pf0 {idx ci f j : Nat} {x : Int32} (r : am_at k pc = some (.putfield idx, 3, [ci, f, 0, j])) (ho : am_so a ci f = some 0) (hD : D' = am_uI D a f x) (hp : pc + 3 = p') (kk : am_X xs L k d mc ms p' lc st (am_mk D') c s Q) : am_X xs L k d mc ms pc lc (.int x :: .ref a :: st) (am_mk D) c s Q := by
  obtain ⟨cs, h1, h2, h3⟩ := am_mkO (D := D) ho
  subst hD
  refine x_hp r rfl rfl rfl rfl (C := True) ?_ trivial hp kk
  unfold am_hp
  dsimp only
  rw [h1]
  dsimp only
  rw [if_pos ⟨rfl, by rw [List.length_mapIdx]; exact (List.getElem?_eq_some_iff.mp h2).1⟩]
  show some (True, 3, st, (am_mk D).set a (.inr (ci, (cs.mapIdx fun k c => am_fld D a k c).set f (.int x)))) = _
  rw [am_mk_set (D := D) (E := am_uI D a f x) (e := .inr (ci, (cs.mapIdx fun k c => am_fld D a k c).set f (.int x))) h3 ?_ (fun b hb => am_uI_ne hb)]
  show Sum.inr (ci, _) = Sum.inr (ci, _)
  rw [am_fset (E := am_uI D a f x)]
  · intro i cc hi hne
    match cc with
    | 0 => show Value.int _ = Value.int (if a = a ∧ i = f then x else D.1 a i); rw [if_neg (fun q => hne q.2)]
    | 1 => rfl
    | p + 2 => rfl
  · intro cc hc
    rw [h2] at hc
    cases hc
    show _ = Value.int (if a = a ∧ f = f then x else D.1 a f)
    rw [if_pos ⟨rfl, rfl⟩]
theorem y_pf2 {idx ci f j : Nat} {x : Int32} (r : am_at k pc = some (.putfield idx, 3, [ci, f, 2, j])) (ho : am_so a ci f = some 0) (hz : narrow .boolean (.int x) = .int x) (hD : D' = am_uI D a f x) (hp : pc + 3 = p') (kk : am_X xs L k d mc ms p' lc st (am_mk D') c s Q) : am_X xs L k d mc ms pc lc (.int x :: .ref a :: st) (am_mk D) c s Q := by
  obtain ⟨cs, h1, h2, h3⟩ := am_mkO (D := D) ho
  subst hD
  refine x_hp r rfl rfl rfl rfl (C := narrow .boolean (.int x) = .int x) ?_ hz hp kk
  unfold am_hp
  dsimp only
  rw [h1]
  dsimp only
  rw [if_pos ⟨rfl, by rw [List.length_mapIdx]; exact (List.getElem?_eq_some_iff.mp h2).1⟩]
  show some (narrow .boolean (.int x) = .int x, 3, st, (am_mk D).set a (.inr (ci, (cs.mapIdx fun k c => am_fld D a k c).set f (.int x)))) = _
  rw [am_mk_set (D := D) (E := am_uI D a f x) (e := .inr (ci, (cs.mapIdx fun k c => am_fld D a k c).set f (.int x))) h3 ?_ (fun b hb => am_uI_ne hb)]
  show Sum.inr (ci, _) = Sum.inr (ci, _)
  rw [am_fset (E := am_uI D a f x)]
  · intro i cc hi hne
    match cc with
    | 0 => show Value.int _ = Value.int (if a = a ∧ i = f then x else D.1 a i); rw [if_neg (fun q => hne q.2)]
    | 1 => rfl
    | p + 2 => rfl
  · intro cc hc
    rw [h2] at hc
    cases hc
    show _ = Value.int (if a = a ∧ f = f then x else D.1 a f)
    rw [if_pos ⟨rfl, rfl⟩]
theorem y_pf1 {idx ci f j : Nat} {x : Int64} (r : am_at k pc = some (.putfield idx, 3, [ci, f, 1, j])) (ho : am_so a ci f = some 1) (hD : D' = am_uJ D a f x) (hp : pc + 3 = p') (kk : am_X xs L k d mc ms p' lc st (am_mk D') c s Q) : am_X xs L k d mc ms pc lc (.long x :: .ref a :: st) (am_mk D) c s Q := by
  obtain ⟨cs, h1, h2, h3⟩ := am_mkO (D := D) ho
  subst hD
  refine x_hp r rfl rfl rfl rfl (C := True) ?_ trivial hp kk
  unfold am_hp
  dsimp only
  rw [h1]
  dsimp only
  rw [if_pos ⟨rfl, by rw [List.length_mapIdx]; exact (List.getElem?_eq_some_iff.mp h2).1⟩]
  show some (True, 3, st, (am_mk D).set a (.inr (ci, (cs.mapIdx fun k c => am_fld D a k c).set f (.long x)))) = _
  rw [am_mk_set (D := D) (E := am_uJ D a f x) (e := .inr (ci, (cs.mapIdx fun k c => am_fld D a k c).set f (.long x))) h3 ?_ (fun b hb => am_uJ_ne hb)]
  show Sum.inr (ci, _) = Sum.inr (ci, _)
  rw [am_fset (E := am_uJ D a f x)]
  · intro i cc hi hne
    match cc with
    | 0 => rfl
    | 1 => show Value.long _ = Value.long (if a = a ∧ i = f then x else D.2.1 a i); rw [if_neg (fun q => hne q.2)]
    | p + 2 => rfl
  · intro cc hc
    rw [h2] at hc
    cases hc
    show _ = Value.long (if a = a ∧ f = f then x else D.2.1 a f)
    rw [if_pos ⟨rfl, rfl⟩]
theorem y_gs {idx q : Nat} {rest : List Nat} (r : am_at k pc = some (.getstatic idx, 3, q :: rest)) (hq : q = 1000000 ∨ q = 1000001) (hp : pc + 3 = p') (kk : am_X xs L k d mc ms p' lc (.ref q :: st) h c s Q) : am_X xs L k d mc ms pc lc st h c s Q := by
  refine x_hp r rfl rfl rfl rfl (C := True) ?_ trivial hp kk
  unfold am_hp
  dsimp only
  rw [if_pos hq]
theorem am_mkA {tag n : Nat} (ha : am_sa tag a = some n) : ∃ f, (am_mk D)[a]? = some (am_cell D a (.inl (tag, n, f))) ∧ am_sh[a]? = some (.inl (tag, n, f)) := by
  obtain ⟨f, h1⟩ := am_saS ha
  exact ⟨f, by rw [am_mk_at, h1]; rfl, h1⟩
theorem am_mkN (ha : am_sh.length ≤ a) : (am_mk D)[a]? = none := by
  rw [am_mk_at, List.getElem?_eq_none ha]; rfl
theorem y_ial {n : Nat} {j : Int32} (r : am_at k pc = some (.iaload, 1, au)) (ha : am_sa 0 a = some n) (hn : n < 2147483648) (hg : 0 ≤ j ∧ j < Int32.ofNat n) {e : Nat} (he : j.toNatClampNeg = e) (hp : pc + 1 = p') (kk : am_X xs L k d mc ms p' lc (.int (D.1 a e) :: st) (am_mk D) c s Q) : am_X xs L k d mc ms pc lc (.int j :: .ref a :: st) (am_mk D) c s Q := by
  subst he
  obtain ⟨f, h1, -⟩ := am_mkA (D := D) ha
  refine x_hp r rfl rfl rfl rfl (C := vp_in j n) ?_ (am_vin hn hg) hp kk
  unfold am_hp
  dsimp only
  rw [h1]
  rfl
theorem y_ialL {j : Int32} (r : am_at k pc = some (.iaload, 1, au)) (hg : 0 ≤ j ∧ j < Int32.ofNat 28) {e : Nat} (he : j.toNatClampNeg = e) (hp : pc + 1 = p') (kk : am_X xs L k d mc ms p' lc (.int (am_low e) :: st) (am_mk D) c s Q) : am_X xs L k d mc ms pc lc (.int j :: .ref 1000000 :: st) (am_mk D) c s Q := by
  subst he
  refine x_hp r rfl rfl rfl rfl (C := vp_in j 28) ?_ (am_vin (by decide) hg) hp kk
  unfold am_hp
  dsimp only
  rw [am_mkN (by rw [am_sh_len]; decide)]
  rfl
theorem y_ialH {j : Int32} (r : am_at k pc = some (.iaload, 1, au)) (hg : 0 ≤ j ∧ j < Int32.ofNat 28) {e : Nat} (he : j.toNatClampNeg = e) (hp : pc + 1 = p') (kk : am_X xs L k d mc ms p' lc (.int (am_high e) :: st) (am_mk D) c s Q) : am_X xs L k d mc ms pc lc (.int j :: .ref 1000001 :: st) (am_mk D) c s Q := by
  subst he
  refine x_hp r rfl rfl rfl rfl (C := vp_in j 28) ?_ (am_vin (by decide) hg) hp kk
  unfold am_hp
  dsimp only
  rw [am_mkN (by rw [am_sh_len]; decide)]
  rfl
theorem y_ialX {j : Int32} (r : am_at k pc = some (.iaload, 1, au)) (hg : 0 ≤ j ∧ j.toNatClampNeg < L) {e : Nat} (he : j.toNatClampNeg = e) (hp : pc + 1 = p') (kk : am_X xs L k d mc ms p' lc (.int (xs e) :: st) (am_mk D) c s Q) : am_X xs L k d mc ms pc lc (.int j :: .ref 1000002 :: st) (am_mk D) c s Q := by
  subst he
  refine x_hp r rfl rfl rfl rfl (C := vp_in j L) ?_ (am_vinL hg) hp kk
  unfold am_hp
  dsimp only
  rw [am_mkN (by rw [am_sh_len]; decide)]
  rfl
theorem y_ias {n : Nat} {j x : Int32} (r : am_at k pc = some (.iastore, 1, au)) (ha : am_sa 0 a = some n) (hn : n < 2147483648) (hg : 0 ≤ j ∧ j < Int32.ofNat n) {e : Nat} (he : j.toNatClampNeg = e) (hD : D' = am_uI D a e x) (hp : pc + 1 = p') (kk : am_X xs L k d mc ms p' lc st (am_mk D') c s Q) : am_X xs L k d mc ms pc lc (.int x :: .int j :: .ref a :: st) (am_mk D) c s Q := by
  subst he
  obtain ⟨f, h1, h2⟩ := am_mkA (D := D) ha
  subst hD
  refine x_hp r rfl rfl rfl rfl (C := vp_in j n) ?_ (am_vin hn hg) hp kk
  unfold am_hp
  dsimp only
  rw [h1]
  show some (_, _, _, (am_mk D).set a (.inl (0, n, .inl (upd (D.1 a) j.toNatClampNeg x)))) = _
  rw [am_mk_set (D := D) (E := am_uI D a j.toNatClampNeg x) h2 (by show Sum.inl _ = Sum.inl _; rw [am_uI_row]) (fun b hb => am_uI_ne hb)]
theorem y_lal {n : Nat} {j : Int32} (r : am_at k pc = some (.laload, 1, au)) (ha : am_sa 1 a = some n) (hn : n < 2147483648) (hg : 0 ≤ j ∧ j < Int32.ofNat n) {e : Nat} (he : j.toNatClampNeg = e) (hp : pc + 1 = p') (kk : am_X xs L k d mc ms p' lc (.long (D.2.1 a e) :: st) (am_mk D) c s Q) : am_X xs L k d mc ms pc lc (.int j :: .ref a :: st) (am_mk D) c s Q := by
  subst he
  obtain ⟨f, h1, -⟩ := am_mkA (D := D) ha
  refine x_hp r rfl rfl rfl rfl (C := vp_in j n) ?_ (am_vin hn hg) hp kk
  unfold am_hp
  dsimp only
  rw [h1]
  rfl
theorem y_las {n : Nat} {j : Int32} {x : Int64} (r : am_at k pc = some (.lastore, 1, au)) (ha : am_sa 1 a = some n) (hn : n < 2147483648) (hg : 0 ≤ j ∧ j < Int32.ofNat n) {e : Nat} (he : j.toNatClampNeg = e) (hD : D' = am_uJ D a e x) (hp : pc + 1 = p') (kk : am_X xs L k d mc ms p' lc st (am_mk D') c s Q) : am_X xs L k d mc ms pc lc (.long x :: .int j :: .ref a :: st) (am_mk D) c s Q := by
  subst he
  obtain ⟨f, h1, h2⟩ := am_mkA (D := D) ha
  subst hD
  refine x_hp r rfl rfl rfl rfl (C := vp_in j n) ?_ (am_vin hn hg) hp kk
  unfold am_hp
  dsimp only
  rw [h1]
  show some (_, _, _, (am_mk D).set a (.inl (1, n, .inr (.inl (vp_updL (D.2.1 a) j.toNatClampNeg x))))) = _
  rw [am_mk_set (D := D) (E := am_uJ D a j.toNatClampNeg x) h2 (by show Sum.inl _ = Sum.inl _; rw [am_uJ_row]) (fun b hb => am_uJ_ne hb)]
theorem y_dal {n : Nat} {j : Int32} (r : am_at k pc = some (.daload, 1, au)) (ha : am_sa 2 a = some n) (hn : n < 2147483648) (hg : 0 ≤ j ∧ j < Int32.ofNat n) {e : Nat} (he : j.toNatClampNeg = e) (hp : pc + 1 = p') (kk : am_X xs L k d mc ms p' lc (.double (D.2.2 a e) :: st) (am_mk D) c s Q) : am_X xs L k d mc ms pc lc (.int j :: .ref a :: st) (am_mk D) c s Q := by
  subst he
  obtain ⟨f, h1, -⟩ := am_mkA (D := D) ha
  refine x_hp r rfl rfl rfl rfl (C := vp_in j n) ?_ (am_vin hn hg) hp kk
  unfold am_hp
  dsimp only
  rw [h1]
  rfl
theorem y_das {n : Nat} {j : Int32} {x : UInt64} (r : am_at k pc = some (.dastore, 1, au)) (ha : am_sa 2 a = some n) (hn : n < 2147483648) (hg : 0 ≤ j ∧ j < Int32.ofNat n) {e : Nat} (he : j.toNatClampNeg = e) (hD : D' = am_uK D a e x) (hp : pc + 1 = p') (kk : am_X xs L k d mc ms p' lc st (am_mk D') c s Q) : am_X xs L k d mc ms pc lc (.double x :: .int j :: .ref a :: st) (am_mk D) c s Q := by
  subst he
  obtain ⟨f, h1, h2⟩ := am_mkA (D := D) ha
  subst hD
  refine x_hp r rfl rfl rfl rfl (C := vp_in j n) ?_ (am_vin hn hg) hp kk
  unfold am_hp
  dsimp only
  rw [h1]
  show some (_, _, _, (am_mk D).set a (.inl (2, n, .inr (.inr (.inr (.inl (vf_upd (D.2.2 a) j.toNatClampNeg x))))))) = _
  rw [am_mk_set (D := D) (E := am_uK D a j.toNatClampNeg x) h2 (by show Sum.inl _ = Sum.inl _; rw [am_uK_row]) (fun b hb => am_uK_ne hb)]
theorem y_alen {tag n : Nat} {v : Int32} (r : am_at k pc = some (.arraylength, 1, au)) (ha : am_sa tag a = some n) (hv : Int32.ofNat n = v) (hp : pc + 1 = p') (kk : am_X xs L k d mc ms p' lc (.int v :: st) (am_mk D) c s Q) : am_X xs L k d mc ms pc lc (.ref a :: st) (am_mk D) c s Q := by
  obtain ⟨f, h1, -⟩ := am_mkA (D := D) ha
  subst hv
  refine x_hp r rfl rfl rfl rfl (C := True) ?_ trivial hp kk
  unfold am_hp
  dsimp only
  rw [h1]
  match tag with
  | 0 => rfl
  | 1 => rfl
  | 2 => rfl
  | t + 3 => rfl
theorem y_alenS (r : am_at k pc = some (.arraylength, 1, au)) (ha : a = 1000000 ∨ a = 1000001) (hp : pc + 1 = p') (kk : am_X xs L k d mc ms p' lc (.int 28 :: st) (am_mk D) c s Q) : am_X xs L k d mc ms pc lc (.ref a :: st) (am_mk D) c s Q := by
  refine x_hp r rfl rfl rfl rfl (C := True) ?_ trivial hp kk
  unfold am_hp
  dsimp only
  rw [am_mkN (by rw [am_sh_len]; omega)]
  dsimp only
  rw [if_pos ha]
theorem y_alenX (r : am_at k pc = some (.arraylength, 1, au)) (hp : pc + 1 = p') (kk : am_X xs L k d mc ms p' lc (.int (Int32.ofNat L) :: st) (am_mk D) c s Q) : am_X xs L k d mc ms pc lc (.ref 1000002 :: st) (am_mk D) c s Q := by
  refine x_hp r rfl rfl rfl rfl (C := True) ?_ trivial hp kk
  unfold am_hp
  dsimp only
  rw [am_mkN (by rw [am_sh_len]; omega)]
  rfl
theorem am_rcI {mi : am_MI} {as : List Value} {hh : am_AH} {ci : Nat} {fs : List Value} {q : String × List (String × String × String × Bool)} (h1 : mi.2.1.1 = 1) (ha : as.head? = some (.ref a)) (hs : hh[a]? = some (.inr (ci, fs))) (hq : am_cls[ci]? = some q) (hn : (q.1 == mi.1.1) = true) : am_rcv mi as hh = true := by
  unfold am_rcv
  split
  · rfl
  · split
    · next a' r =>
      cases ha
      rw [hs]
      dsimp only
      rw [hq]
      exact hn
    · next hx =>
      exfalso
      cases as with
      | nil => cases ha
      | cons v r => cases ha; exact hx _ _ rfl
  · next e1 e2 => exact absurd h1 e2
theorem am_rc1 {mi : am_MI} {as : List Value} {ci : Nat} {q : String × List (String × String × String × Bool)} (h1 : mi.2.1.1 = 1) (ha : as.head? = some (.ref a)) (hs : am_sc a = some ci) (hq : am_cls[ci]? = some q) (hn : (q.1 == mi.1.1) = true) : am_rcv mi as (am_mk D) = true := by
  unfold am_sc at hs
  split at hs
  · next c cs he =>
    cases hs
    exact am_rcI h1 ha (show (am_mk D)[a]? = some (am_cell D a (.inr (ci, cs))) by rw [am_mk_at, he]; rfl) hq hn
  · cases hs
theorem am_rc0 {mi : am_MI} {as : List Value} {hh : am_AH} (h1 : mi.2.1.1 = 0) : am_rcv mi as hh = true := by
  unfold am_rcv
  split
  · rfl
  · next e => rw [h1] at e; cases e
  · next e1 e2 => exact absurd h1 e1
/-- a method out of its walk -/
theorem am_Yof {mi : am_MI} {as : List Value} {o : am_O} (hm : am_pg[k]? = some mi) (hl : (am_args as).length ≤ mi.1.2.2.2.1) (hr : am_rcv mi as (am_mk D) = true) {lc : List Value} (he : am_ent as mi.1.2.2.2.1 = lc) (hw : ∀ Q : am_O → am_AH → Prop, Q o (am_mk D') → am_X xs L k d mc ms 0 lc [] (am_mk D) 0 0 Q) : am_Y xs L k d mc ms as D o D' := by
  refine ⟨⟨mi, hm, hl, hr⟩, ?_⟩
  have hnl : am_nl k = mi.1.2.2.2.1 := by unfold am_nl; rw [hm]; rfl
  rw [hnl, he]
  exact hw _ ⟨rfl, rfl⟩
end YB
