/-! two rows of six numbers beside the data, made by one method of the law -/
section XG
variable {xs : Nat → Int32} {L : Nat} {t : am_AH} {D D' : am_D} {k d mc ms pc p' : Nat} {lc st : List Value} {c s : Nat} {Q : am_O → am_AH → Prop} {au : List Nat}
theorem am_mk_cg {D E : am_D} (h : ∀ a, a < 106 → D.1 a = E.1 a ∧ D.2.1 a = E.2.1 a ∧ D.2.2 a = E.2.2 a) : am_mk D = am_mk E := by
  apply List.ext_getElem?
  intro b
  rw [am_mk_at, am_mk_at]
  cases hq : am_sh[b]? with
  | none => rfl
  | some s2 =>
    have hb : b < 106 := by have := (List.getElem?_eq_some_iff.mp hq).1; rw [am_sh_len] at this; exact this
    obtain ⟨h1, h2, h3⟩ := h b hb
    exact congrArg some (am_cell_eq h1 h2 h3 s2)
def c6 (f : Nat → Int32) : va_E := .inl (0, 6, .inl f)
def am_mh (t : am_AH) (D : am_D) : am_AH := am_mk D ++ (t ++ [c6 (D.1 200), c6 (D.1 201)])
/-- the two rows stay -/
def u_kr (D' D : am_D) : am_D := (fun a => if a = 200 then D.1 200 else if a = 201 then D.1 201 else D'.1 a, D'.2)
theorem u_kr_mh (D' D : am_D) : am_mk D' ++ (t ++ [c6 (D.1 200), c6 (D.1 201)]) = am_mh t (u_kr D' D) := by
  unfold am_mh
  rw [am_mk_cg (D := u_kr D' D) (E := D') (fun a ha => ⟨by show (if a = 200 then _ else if a = 201 then _ else D'.1 a) = _; rw [if_neg (by omega), if_neg (by omega)], rfl, rfl⟩)]
  rfl
theorem am_mh_0 : (am_mh t D)[106 + t.length]? = some (c6 (D.1 200)) := by
  unfold am_mh
  rw [List.getElem?_append_right (by rw [am_mk_len, am_sh_len]; omega), am_mk_len, am_sh_len, List.getElem?_append_right (by omega), show 106 + t.length - 106 - t.length = 0 by omega]
  rfl
theorem am_mh_1 : (am_mh t D)[107 + t.length]? = some (c6 (D.1 201)) := by
  unfold am_mh
  rw [List.getElem?_append_right (by rw [am_mk_len, am_sh_len]; omega), am_mk_len, am_sh_len, List.getElem?_append_right (by omega), show 107 + t.length - 106 - t.length = 1 by omega]
  rfl
theorem am_uI_mk {a e : Nat} {x : Int32} (ha : 106 ≤ a) : am_mk (am_uI D a e x) = am_mk D := am_mk_cg fun b hb => ⟨by
  funext i
  show (if b = a ∧ i = e then x else D.1 b i) = D.1 b i
  rw [if_neg (by omega)], rfl, rfl⟩
theorem am_mh_s0 (e : Nat) (x : Int32) : (am_mh t D).set (106 + t.length) (c6 (upd (D.1 200) e x)) = am_mh t (am_uI D 200 e x) := by
  unfold am_mh
  rw [List.set_append_right _ _ (by rw [am_mk_len, am_sh_len]; omega), am_mk_len, am_sh_len, List.set_append_right _ _ (by omega), show 106 + t.length - 106 - t.length = 0 by omega, am_uI_mk (by omega), ← am_uI_row D 200 e x]
  rfl
theorem am_mh_s1 (e : Nat) (x : Int32) : (am_mh t D).set (107 + t.length) (c6 (upd (D.1 201) e x)) = am_mh t (am_uI D 201 e x) := by
  unfold am_mh
  rw [List.set_append_right _ _ (by rw [am_mk_len, am_sh_len]; omega), am_mk_len, am_sh_len, List.set_append_right _ _ (by omega), show 107 + t.length - 106 - t.length = 1 by omega, am_uI_mk (by omega), ← am_uI_row D 201 e x]
  rfl
theorem m_ial0 {j : Int32} (r : am_at k pc = some (.iaload, 1, au)) (hg : 0 ≤ j ∧ j < 6) {e : Nat} (he : j.toNatClampNeg = e) (hp : pc + 1 = p') (kk : am_X xs L k d mc ms p' lc (.int (D.1 200 e) :: st) (am_mh t D) c s Q) : am_X xs L k d mc ms pc lc (.int j :: .ref (106 + t.length) :: st) (am_mh t D) c s Q := by
  subst he
  refine x_hp r rfl rfl rfl rfl (C := vp_in j 6) ?_ (am_vin (n := 6) (by decide) hg) hp kk
  unfold am_hp
  dsimp only
  rw [am_mh_0]
  rfl
theorem m_ial1 {j : Int32} (r : am_at k pc = some (.iaload, 1, au)) (hg : 0 ≤ j ∧ j < 6) {e : Nat} (he : j.toNatClampNeg = e) (hp : pc + 1 = p') (kk : am_X xs L k d mc ms p' lc (.int (D.1 201 e) :: st) (am_mh t D) c s Q) : am_X xs L k d mc ms pc lc (.int j :: .ref (107 + t.length) :: st) (am_mh t D) c s Q := by
  subst he
  refine x_hp r rfl rfl rfl rfl (C := vp_in j 6) ?_ (am_vin (n := 6) (by decide) hg) hp kk
  unfold am_hp
  dsimp only
  rw [am_mh_1]
  rfl
theorem m_ias0 {j x : Int32} (r : am_at k pc = some (.iastore, 1, au)) (hg : 0 ≤ j ∧ j < 6) {e : Nat} (he : j.toNatClampNeg = e) (hD : D' = am_uI D 200 e x) (hp : pc + 1 = p') (kk : am_X xs L k d mc ms p' lc st (am_mh t D') c s Q) : am_X xs L k d mc ms pc lc (.int x :: .int j :: .ref (106 + t.length) :: st) (am_mh t D) c s Q := by
  subst he
  subst hD
  refine x_hp r rfl rfl rfl rfl (C := vp_in j 6) ?_ (am_vin (n := 6) (by decide) hg) hp kk
  unfold am_hp
  dsimp only
  rw [am_mh_0]
  show some (_, _, _, (am_mh t D).set (106 + t.length) (c6 (upd (D.1 200) j.toNatClampNeg x))) = _
  rw [am_mh_s0]
theorem m_ias1 {j x : Int32} (r : am_at k pc = some (.iastore, 1, au)) (hg : 0 ≤ j ∧ j < 6) {e : Nat} (he : j.toNatClampNeg = e) (hD : D' = am_uI D 201 e x) (hp : pc + 1 = p') (kk : am_X xs L k d mc ms p' lc st (am_mh t D') c s Q) : am_X xs L k d mc ms pc lc (.int x :: .int j :: .ref (107 + t.length) :: st) (am_mh t D) c s Q := by
  subst he
  subst hD
  refine x_hp r rfl rfl rfl rfl (C := vp_in j 6) ?_ (am_vin (n := 6) (by decide) hg) hp kk
  unfold am_hp
  dsimp only
  rw [am_mh_1]
  show some (_, _, _, (am_mh t D).set (107 + t.length) (c6 (upd (D.1 201) j.toNatClampNeg x))) = _
  rw [am_mh_s1]
variable {i : Instr}
/-- a call that changes nothing; one that changes the class's cells -/
theorem m_call1 {k' na j nest d0 : Nat} {hq : List Nat} {as rest : List Value} {v : Value} (ht : t.length ≤ 800000) (r : am_at k pc = some (i, 3, k' :: na :: j :: nest :: hq)) (hi : am_isInv i = true) (hst : st = as.reverse ++ rest) (hn : as.length = na) (hk : k' < 1000) (hcat : (rest.map fun v => v.category).sum ≤ 8)
    (hY : am_Y xs L k' d0 0 0 as D (.inl (some v)) D) (hd : d0 + 1 ≤ d) (hp : pc + 3 = p') (kk : am_X xs L k d 2 12 p' lc (v :: rest) (am_mh t D) 2 12 Q) : am_X xs L k d 2 12 pc lc st (am_mh t D) 2 12 Q :=
  x_callT (t := t ++ [c6 (D.1 200), c6 (D.1 201)]) (by rw [List.length_append]; show t.length + 2 ≤ _; omega) r hi hst hn hk hcat hY hd (Nat.le_refl _) (Nat.le_refl _) hp kk
theorem m_call2 {k' na j nest d0 : Nat} {hq : List Nat} {as rest : List Value} {v : Value} (ht : t.length ≤ 800000) (r : am_at k pc = some (i, 3, k' :: na :: j :: nest :: hq)) (hi : am_isInv i = true) (hst : st = as.reverse ++ rest) (hn : as.length = na) (hk : k' < 1000) (hcat : (rest.map fun v => v.category).sum ≤ 8)
    (hY : am_Y xs L k' d0 0 0 as D (.inl (some v)) D') (hd : d0 + 1 ≤ d) (hp : pc + 3 = p') (kk : am_X xs L k d 2 12 p' lc (v :: rest) (am_mh t (u_kr D' D)) 2 12 Q) : am_X xs L k d 2 12 pc lc st (am_mh t D) 2 12 Q :=
  x_callT (t := t ++ [c6 (D.1 200), c6 (D.1 201)]) (by rw [List.length_append]; show t.length + 2 ≤ _; omega) r hi hst hn hk hcat hY hd (Nat.le_refl _) (Nat.le_refl _) hp (by rw [u_kr_mh]; exact kk)
end XG
