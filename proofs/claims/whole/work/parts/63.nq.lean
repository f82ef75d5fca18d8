/-! texts: the model reads tiles that are given; the first error -/
section NQ
variable {D D0 : am_D} {l : Nat} {tx : Nat → Nat}
/-- what a reading of tiles comes to -/
def q_rd (D0 : am_D) (l : Nat) (tx : Nat → Nat) (r : Option (Nat × am_D)) : Prop := ∃ c D' e s', r = some (c, D') ∧ q_ps D0 D' e ∧ q_err 1 tx l e s' ∧ (c = 2 ↔ (e = l ∧ (s' = 1 ∨ s' = 6)))
theorem q98_t (hT : q_T D0 l tx) {K : am_D → Int32 → Option (Nat × am_D)} {m : Nat} (hK : ∀ (i : Nat) (D : am_D) (v : Int32), i ≤ l → l < i + m → q_ps D0 D i → ((v = 1 ∧ q_ok 1 tx 0 0 i 0) ∨ (v = 0 ∧ q_ok 1 tx 0 0 i 2)) → q_rd D0 l tx (K D v)) {i : Nat} (h : q_ps D0 D i) (hi : i ≤ l) (hm : l < i + m + 1) (ho : q_ok 1 tx 0 0 i 2) : q_rd D0 l tx ((m94 D).bind fun q4 => (if q4.1 = (-1 : Int32) then (some (1, q4.2)) else (if (q4.2.1 106 6) = (q4.2.1 106 5) then (some (2, q4.2)) else ((m91 q4.2).bind fun q8 => (am_lt (if q8 = (59 : Int32) then (1 : Int32) else (0 : Int32)) fun q10 => ((m92 q4.2 (59 : Int32)).bind fun q14 => (if q14.1 = 0 then ((m92 q14.2 (44 : Int32)).bind fun q17 => (if q17.1 = 0 then (some (3, q17.2)) else (K q17.2 q10))) else (K q14.2 q10)))))))) := by
  have h60 := hT.1
  obtain ⟨x, D1, k, s', e1, p1, hk, ok, hcase⟩ := q94m hT h hi
  have ok' : q_ok 1 tx 0 0 (i + k) s' := q_ok_tr i k 0 ho (by rw [Nat.zero_add]; exact ok)
  have e5 : D1.1 106 5 = Int32.ofNat l := by rw [p1.2.1 5 (by omega) (by omega) (by omega)]; exact hT.2.2.1
  rw [e1, Option.bind_some]
  dsimp only
  rcases hcase with ⟨rfl, n1, n6, herr⟩ | ⟨hx, rfl, rfl, -⟩
  · rw [if_pos rfl]
    exact ⟨1, D1, i + k, s', rfl, p1, ⟨hk, ok', herr⟩, ⟨fun q => by omega, fun q => by rcases q.2 with q | q <;> contradiction⟩⟩
  · rw [if_neg hx, p1.2.2.1, e5]
    by_cases c : i + 2 = l
    · rw [if_pos (by rw [c])]
      exact ⟨2, D1, i + 2, 1, rfl, p1, ⟨hk, ok', fun q => by omega⟩, ⟨fun _ => ⟨c, Or.inl rfl⟩, fun _ => rfl⟩⟩
    · have hlt : i + 2 < l := by omega
      obtain ⟨t1, t2⟩ := q_tx7 hT hlt
      have e2 := q92 hT p1 hk (c := 59) (by omega)
      have e2' : m92 D1 (59 : Int32) = _ := e2
      rw [if_neg (show ¬ Int32.ofNat (i + 2) = Int32.ofNat l by rw [q_eq (by omega) (by omega)]; exact c), q91 hT p1 hk, Option.bind_some]
      simp only [am_lt]
      by_cases c2 : q_cx l tx (i + 2) = 59
      · rw [e2', if_pos c2, if_pos (show Int32.ofNat (q_cx l tx (i + 2)) = (59 : Int32) by rw [c2]; rfl), Option.bind_some]
        dsimp only
        rw [if_neg (show ¬ (1 : Int32) = 0 by decide)]
        refine hK (i + 3) _ _ (by omega) (by omega) (q_ps_6 p1 _) (Or.inl ⟨rfl, q_ok_tr (i + 2) 1 0 ok' ?_⟩)
        rw [Nat.zero_add]
        exact q_ok1 (by rw [q_t1 _ t1, if_neg (by omega), if_pos (by omega)]) (by decide)
      · rw [e2', if_neg c2, if_neg (show ¬ Int32.ofNat (q_cx l tx (i + 2)) = (59 : Int32) from fun q => c2 (q_ofN (b := 59) (by omega) (by omega) q)), Option.bind_some]
        dsimp only
        have p3 := q_ps_6 p1 (i + 2)
        have e3 := q92 hT p3 hk (c := 44) (by omega)
        have e3' : m92 (am_uI D1 106 6 (Int32.ofNat (i + 2))) (44 : Int32) = _ := e3
        rw [if_pos rfl, e3']
        by_cases c3 : q_cx l tx (i + 2) = 44
        · rw [if_pos c3, Option.bind_some]
          dsimp only
          rw [if_neg (show ¬ (1 : Int32) = 0 by decide)]
          refine hK (i + 3) _ _ (by omega) (by omega) (q_ps_6 p3 _) (Or.inr ⟨rfl, q_ok_tr (i + 2) 1 0 ok' ?_⟩)
          rw [Nat.zero_add]
          exact q_ok1 (by rw [q_t1 _ t1, if_pos (by omega)]) (by decide)
        · rw [if_neg c3, Option.bind_some]
          dsimp only
          rw [if_pos rfl]
          exact ⟨3, _, i + 2, 1, rfl, q_ps_6 p3 _, ⟨hk, ok', fun _ => by rw [q_t1 _ t1, if_neg (by omega), if_neg (by omega)]⟩, ⟨fun q => by omega, fun q => absurd q.1 c⟩⟩
theorem q98_L {N : Nat} (hT : q_T D0 l tx) : ∀ (m i : Nat) (D : am_D) (v : Int32), i ≤ l → l < i + m → q_ps D0 D i → ((v = 1 ∧ q_ok 1 tx 0 0 i 0) ∨ (v = 0 ∧ q_ok 1 tx 0 0 i 2)) → q_rd D0 l tx (m98_L7 N m D v)
  | 0, i, D, v, hi, hm, _, _ => by omega
  | m + 1, i, D, v, hi, hm, h, ho => by
    have h60 := hT.1
    have ih := q98_L (N := N) hT m
    rw [m98_L7]
    rcases ho with ⟨rfl, ho⟩ | ⟨rfl, ho⟩
    · rw [if_neg (show ¬ (1 : Int32) = 0 by decide)]
      have e := q93 hT h hi (a := 0) (b := 3) (by omega) (by omega)
      have e' : m93 D 0 3 = _ := e
      rw [e']
      by_cases c1 : 48 ≤ q_cx l tx i ∧ q_cx l tx i ≤ 51
      · have hi0 := q_cx_lt (l := l) (tx := tx) (k := i) (by omega)
        obtain ⟨t1, t2⟩ := q_tx7 hT hi0
        rw [if_pos (by omega), Option.bind_some]
        dsimp only
        rw [if_neg (q_nm (by omega))]
        have o1 : q_ok 1 tx 0 0 (i + 1) 7 := q_ok_tr i 1 0 ho (by rw [Nat.zero_add]; exact q_ok1 (by rw [q_t0 _ t1, if_pos (by omega)]) (by decide))
        have p1 := q_ps_6 h (i + 1)
        have e2 := q92 hT p1 (by omega) (c := 58) (by omega)
        have e2' : m92 (am_uI D 106 6 (Int32.ofNat (i + 1))) (58 : Int32) = _ := e2
        rw [e2']
        by_cases c2 : q_cx l tx (i + 1) = 58
        · have hi1 := q_cx_lt (l := l) (tx := tx) (k := i + 1) (by omega)
          obtain ⟨u1, u2⟩ := q_tx7 hT hi1
          rw [if_pos c2, Option.bind_some]
          dsimp only
          rw [if_neg (show ¬ (1 : Int32) = 0 by decide)]
          refine q98_t hT ih (q_ps_6 p1 (i + 2)) (by omega) (by omega) (q_ok_tr (i + 1) 1 0 o1 ?_)
          rw [Nat.zero_add]
          exact q_ok1 (by rw [q_t7 _ u1, if_pos (by omega)]) (by decide)
        · rw [if_neg c2, Option.bind_some]
          dsimp only
          rw [if_pos rfl]
          refine ⟨0, _, i + 1, 7, rfl, q_ps_6 p1 _, ⟨by omega, o1, fun q => ?_⟩, ⟨fun q => by omega, fun q => by rcases q.2 with q | q <;> revert q <;> decide⟩⟩
          obtain ⟨u1, u2⟩ := q_tx7 hT q
          rw [q_t7 _ u1, if_neg (by omega)]
      · rw [if_neg (by omega), Option.bind_some]
        dsimp only
        rw [if_pos rfl]
        refine ⟨0, _, i, 0, rfl, q_ps_6 h _, ⟨by omega, ho, fun q => ?_⟩, ⟨fun q => by omega, fun q => by rcases q.2 with q | q <;> revert q <;> decide⟩⟩
        obtain ⟨u1, u2⟩ := q_tx7 hT q
        rw [q_t0 _ u1, if_neg (by omega)]
    · rw [if_pos rfl]
      exact q98_t hT ih h hi (by omega) ho
theorem q98 {N : Nat} (hN : 2000 ≤ N) (hT : q_T D l tx) : ∃ b D' e s', m98 N D = some (b, D') ∧ q_ps D D' e ∧ q_err 1 tx l e s' ∧ ((b = 1 ∧ e = l ∧ (s' = 1 ∨ s' = 6)) ∨ (b = 0 ∧ ¬ (e = l ∧ (s' = 1 ∨ s' = 6)))) := by
  have h60 := hT.1
  have p0 : q_ps D (am_uI D 106 6 0) 0 := ⟨fun a ha => q_uI_ne _ ha, fun j h1 h2 h3 => by rw [q_uI_at, if_neg (by omega)], q_uIs _ _ _ _, rfl⟩
  obtain ⟨c, D', e, s', h1, h2, h3, h4⟩ := q98_L (N := N) hT N 0 (am_uI D 106 6 0) 1 (by omega) (by omega) p0 (Or.inl ⟨rfl, rfl⟩)
  unfold m98
  simp only [am_lt]
  rw [h1, Option.bind_some]
  dsimp only
  by_cases c2 : c = 2
  · subst c2
    exact ⟨1, D', e, s', rfl, h2, h3, Or.inl ⟨rfl, h4.mp rfl⟩⟩
  · refine ⟨0, D', e, s', ?_, h2, h3, Or.inr ⟨rfl, fun q => c2 (h4.mpr q)⟩⟩
    rw [if_neg c2]
    split
    · rfl
    · split <;> rfl
theorem g_fe1 {N : Nat} (hN : 2000 ≤ N) (hI : q_I D) : q_G (fun D => m270 N D 1) (fun D => m99 N D 1) D := by
  obtain ⟨l, tx, hT⟩ := q_I_T hI
  obtain ⟨e, s', h1, h2⟩ := q240 (N := N) hN hT 1
  have hE := q_mE D (Int32.ofNat e).toInt64 0
  obtain ⟨b, D2, e', s'', g1, g2, g3, g4⟩ := q98 (N := N) hN (q_E_T hE hT)
  obtain ⟨rfl, -⟩ := q_err_un h2 g3
  have e5 : D2.1 106 5 = Int32.ofNat l := by rw [g2.2.1 5 (by omega) (by omega) (by omega)]; exact (q_E_T hE hT).2.2.1
  refine q_G_ok (D' := D) (D2 := D2) (Int32.ofNat e) ?_ ?_ ?_ ?_ (q_E_I (hE.tr (q_ps_E g2)) hI)
  · show m270 N D 1 = _
    unfold m270 m12
    rw [if_neg (show ¬ m43 1 = 0 by decide), h1]
    rfl
  · show m99 N _ 1 = _
    unfold m99
    rw [show m46 1 0 1 = 1 from rfl]
    simp only [am_lt, q_10, if_false, q47a, g1, Option.bind_some]
    rcases g4 with ⟨rfl, c, -⟩ | ⟨rfl, -⟩
    · rw [if_neg (show ¬ (1 : Int32) = 0 by decide), e5, ← c]
    · rw [if_pos rfl, g2.2.2.1]
  · rw [g2.2.1 0 (by omega) (by omega) (by omega)]; exact q_uIs _ _ _ _
  · rw [g2.2.2.2]; rfl
theorem g_firstError {N : Nat} (hN : 2000 ≤ N) (hI : q_I D) (v1 : Int32) : q_G (fun D => m270 N D v1) (fun D => m99 N D v1) D := by
  rcases q43 v1 with ⟨w, hw, rfl, -, -, -⟩ | ⟨e1, -, e2⟩
  · obtain rfl | rfl : w = 0 ∨ w = 1 := by omega
    · exact g_fe0 hN hI
    · exact g_fe1 hN hI
  · refine q_G_ex hI 1 (by omega) ?_ ?_
    · show m270 N D _ = _
      unfold m270 m12
      rw [if_pos e1]
      rfl
    · show m99 N D _ = _
      unfold m99
      rw [e2]
      simp only [am_lt, if_true, q47b]
      rfl
end NQ
