/-! methods as functions, with their walks (by wip/tools/decomp.py): 148 153 154 156 165 166 168 168 168 168 168 168 168 168 168 168 168 168 168 169 169 169 -/
section XE
variable {xs : Nat → Int32} {L : Nat}
theorem r148_0 : am_at 148 0 = some (.fload_n 0, 1, [0]) := by decide +kernel
theorem r148_1 : am_at 148 1 = some (.fconst 0, 1, []) := by decide +kernel
theorem r148_2 : am_at 148 2 = some (.fcmp .l, 1, []) := by decide +kernel
theorem r148_3 : am_at 148 3 = some (.ifCond .ne (5), 3, [8]) := by decide +kernel
theorem r148_6 : am_at 148 6 = some (.iconst (0), 1, []) := by decide +kernel
theorem r148_7 : am_at 148 7 = some (.ireturn, 1, []) := by decide +kernel
theorem r148_8 : am_at 148 8 = some (.fload_n 0, 1, [0]) := by decide +kernel
theorem r148_9 : am_at 148 9 = some (.fstore_n 1, 1, [1]) := by decide +kernel
theorem r148_10 : am_at 148 10 = some (.bipush (127), 2, []) := by decide +kernel
theorem r148_12 : am_at 148 12 = some (.istore_n 2, 1, [2]) := by decide +kernel
theorem r148_13 : am_at 148 13 = some (.fload_n 1, 1, [1]) := by decide +kernel
theorem r148_14 : am_at 148 14 = some (.fconst 2, 1, []) := by decide +kernel
theorem r148_15 : am_at 148 15 = some (.fcmp .l, 1, []) := by decide +kernel
theorem r148_16 : am_at 148 16 = some (.ifCond .lt (13), 3, [29]) := by decide +kernel
theorem r148_19 : am_at 148 19 = some (.fload_n 1, 1, [1]) := by decide +kernel
theorem r148_20 : am_at 148 20 = some (.fconst 2, 1, []) := by decide +kernel
theorem r148_21 : am_at 148 21 = some (.fdiv, 1, []) := by decide +kernel
theorem r148_22 : am_at 148 22 = some (.fstore_n 1, 1, [1]) := by decide +kernel
theorem r148_23 : am_at 148 23 = some (.iinc 2 (1), 3, [2]) := by decide +kernel
theorem r148_26 : am_at 148 26 = some (.goto (-13), 3, [13]) := by decide +kernel
theorem r148_29 : am_at 148 29 = some (.fload_n 1, 1, [1]) := by decide +kernel
theorem r148_30 : am_at 148 30 = some (.fconst 1, 1, []) := by decide +kernel
theorem r148_31 : am_at 148 31 = some (.fcmp .g, 1, []) := by decide +kernel
theorem r148_32 : am_at 148 32 = some (.ifCond .ge (13), 3, [45]) := by decide +kernel
theorem r148_35 : am_at 148 35 = some (.fload_n 1, 1, [1]) := by decide +kernel
theorem r148_36 : am_at 148 36 = some (.fconst 2, 1, []) := by decide +kernel
theorem r148_37 : am_at 148 37 = some (.fmul, 1, []) := by decide +kernel
theorem r148_38 : am_at 148 38 = some (.fstore_n 1, 1, [1]) := by decide +kernel
theorem r148_39 : am_at 148 39 = some (.iinc 2 (-1), 3, [2]) := by decide +kernel
theorem r148_42 : am_at 148 42 = some (.goto (-13), 3, [29]) := by decide +kernel
theorem r148_45 : am_at 148 45 = some (.iload_n 2, 1, [2]) := by decide +kernel
theorem r148_46 : am_at 148 46 = some (.ldc_w 326, 3, [3, 1715, 8388608]) := by decide +kernel
theorem r148_49 : am_at 148 49 = some (.imul, 1, []) := by decide +kernel
theorem r148_50 : am_at 148 50 = some (.fload_n 1, 1, [1]) := by decide +kernel
theorem r148_51 : am_at 148 51 = some (.fconst 1, 1, []) := by decide +kernel
theorem r148_52 : am_at 148 52 = some (.fsub, 1, []) := by decide +kernel
theorem r148_53 : am_at 148 53 = some (.ldc_w 327, 3, [4, 1716, 1258291200]) := by decide +kernel
theorem r148_56 : am_at 148 56 = some (.fmul, 1, []) := by decide +kernel
theorem r148_57 : am_at 148 57 = some (.f2i, 1, []) := by decide +kernel
theorem r148_58 : am_at 148 58 = some (.iadd, 1, []) := by decide +kernel
theorem r148_59 : am_at 148 59 = some (.ireturn, 1, []) := by decide +kernel
theorem rt148 : am_rtt 148 = some (some .int) := by decide +kernel
set_option maxRecDepth 100000 in
theorem pg148 : am_pg[148]? = some am_m148 := rfl
theorem m148_L13_w {d : Nat} {N : Nat} {D : am_D} {mc ms : Nat} {Q : am_O → am_AH → Prop} (hd : 1 ≤ d) : ∀ (n : Nat) (v1 : UInt32) (v2 : Int32) {q : UInt32 × Int32} (h : m148_L13 N D  n v1 v2 = some q) (k0 : am_X xs L 148 d mc ms 29 [am_dead, .float q.1, .int q.2] [] (am_mk D) 0 0 Q), am_X xs L 148 d mc ms 13 [am_dead, .float v1, .int v2] [] (am_mk D) 0 0 Q := by
  intro n
  induction n with
  | zero =>
    intro v1 v2 q h k0
    exact (nomatch (show none = some q from h))
  | succ n ih =>
    intro v1 v2 q h k0
    rw [m148_L13] at h
    refine x_ld (v := .float v1) r148_13 rfl rfl rfl ?_
    refine x_ar r148_14 rfl trivial rfl ?_
    refine x_ar r148_15 rfl trivial rfl ?_
    rcases am_ifE h with ⟨c2, h⟩ | ⟨c2, h⟩
    · refine x_ifltT r148_16 c2 ?_
      refine x_forget (lc0 := [am_dead, .float v1, .int v2]) ⟨Or.inl rfl, Or.inl rfl, Or.inl rfl, trivial⟩ ?_
      cases h
      exact k0
    · refine x_ifltF r148_16 c2 rfl ?_
      refine x_ld (v := .float v1) r148_19 rfl rfl rfl ?_
      refine x_ar r148_20 rfl trivial rfl ?_
      obtain ⟨g3, h⟩ := am_gdE h
      refine x_ar r148_21 rfl g3 rfl ?_
      obtain ⟨x4, e5, h⟩ := am_ltE h
      refine am_topF e5 ?_
      refine x_sto (lc' := [am_dead, .float x4, .int v2]) r148_22 rfl rfl rfl rfl ?_
      obtain ⟨x6, e7, h⟩ := am_ltE h
      refine x_sto (lc' := [am_dead, .float x4, .int x6]) r148_23 rfl rfl (by subst e7; rfl) rfl ?_
      refine x_goto r148_26 ?_
      exact x_forget (lc0 := [am_dead, .float x4, .int x6]) ⟨Or.inl rfl, Or.inl rfl, Or.inl rfl, trivial⟩ (ih x4 x6 h k0)
theorem m148_L29_w {d : Nat} {N : Nat} {D : am_D} {mc ms : Nat} {Q : am_O → am_AH → Prop} (hd : 1 ≤ d) : ∀ (n : Nat) (v1 : UInt32) (v2 : Int32) {q : UInt32 × Int32} (h : m148_L29 N D  n v1 v2 = some q) (k0 : am_X xs L 148 d mc ms 45 [am_dead, .float q.1, .int q.2] [] (am_mk D) 0 0 Q), am_X xs L 148 d mc ms 29 [am_dead, .float v1, .int v2] [] (am_mk D) 0 0 Q := by
  intro n
  induction n with
  | zero =>
    intro v1 v2 q h k0
    exact (nomatch (show none = some q from h))
  | succ n ih =>
    intro v1 v2 q h k0
    rw [m148_L29] at h
    refine x_ld (v := .float v1) r148_29 rfl rfl rfl ?_
    refine x_ar r148_30 rfl trivial rfl ?_
    refine x_ar r148_31 rfl trivial rfl ?_
    rcases am_ifE h with ⟨c10, h⟩ | ⟨c10, h⟩
    · refine x_ifgeT r148_32 c10 ?_
      refine x_forget (lc0 := [am_dead, .float v1, .int v2]) ⟨Or.inl rfl, Or.inl rfl, Or.inl rfl, trivial⟩ ?_
      cases h
      exact k0
    · refine x_ifgeF r148_32 c10 rfl ?_
      refine x_ld (v := .float v1) r148_35 rfl rfl rfl ?_
      refine x_ar r148_36 rfl trivial rfl ?_
      obtain ⟨g11, h⟩ := am_gdE h
      refine x_ar r148_37 rfl g11 rfl ?_
      obtain ⟨x12, e13, h⟩ := am_ltE h
      refine am_topF e13 ?_
      refine x_sto (lc' := [am_dead, .float x12, .int v2]) r148_38 rfl rfl rfl rfl ?_
      obtain ⟨x14, e15, h⟩ := am_ltE h
      refine x_sto (lc' := [am_dead, .float x12, .int x14]) r148_39 rfl rfl (by subst e15; rfl) rfl ?_
      refine x_goto r148_42 ?_
      exact x_forget (lc0 := [am_dead, .float x12, .int x14]) ⟨Or.inl rfl, Or.inl rfl, Or.inl rfl, trivial⟩ (ih x12 x14 h k0)
theorem m148_w {d mc ms : Nat} {N : Nat} {D : am_D} {v0 : UInt32} {Q : am_O → am_AH → Prop} (hd : 1 ≤ d) {r : Int32} (h : m148 N D v0 = some r) (hQ : Q (.inl (some (.int r))) (am_mk D)) : am_X xs L 148 d mc ms 0 [.float v0, am_dead, am_dead] [] (am_mk D) 0 0 Q := by
  unfold m148 at h
  refine x_ld (v := .float v0) r148_0 rfl rfl rfl ?_
  refine x_ar r148_1 rfl trivial rfl ?_
  refine x_ar r148_2 rfl trivial rfl ?_
  rcases am_ifE h with ⟨c1, h⟩ | ⟨c1, h⟩
  · refine x_ifneT r148_3 c1 rfl ?_
    refine x_ic (v := 0) r148_6 rfl rfl ?_
    cases h
    exact x_ret (ret := some .int) (C := True) (v := some (.int _)) r148_7 rt148 rfl rfl rfl rfl rfl rfl rfl rfl trivial hQ
  · refine x_ifneF r148_3 c1 ?_
    refine x_ld (v := .float v0) r148_8 rfl rfl rfl ?_
    refine x_sto (lc' := [.float v0, .float v0, am_dead]) r148_9 rfl rfl rfl rfl ?_
    refine x_bi (v := 127) r148_10 rfl rfl ?_
    refine x_sto (lc' := [.float v0, .float v0, .int (127 : Int32)]) r148_12 rfl rfl rfl rfl ?_
    obtain ⟨q8, h9, h⟩ := Option.bind_eq_some_iff.mp h
    refine x_forget (lc0 := [am_dead, .float v0, .int (127 : Int32)]) ⟨Or.inr ⟨rfl, rfl⟩, Or.inl rfl, Or.inl rfl, trivial⟩ (m148_L13_w hd N v0 (127 : Int32) h9 ?_)
    obtain ⟨q16, h17, h⟩ := Option.bind_eq_some_iff.mp h
    refine x_forget (lc0 := [am_dead, .float q8.1, .int q8.2]) ⟨Or.inl rfl, Or.inl rfl, Or.inl rfl, trivial⟩ (m148_L29_w hd N q8.1 q8.2 h17 ?_)
    refine x_ld (v := .int q16.2) r148_45 rfl rfl rfl ?_
    refine x_sp r148_46 rfl rfl rfl rfl rfl rfl trivial rfl ?_
    refine x_ar r148_49 rfl trivial rfl ?_
    refine x_ld (v := .float q16.1) r148_50 rfl rfl rfl ?_
    refine x_ar r148_51 rfl trivial rfl ?_
    obtain ⟨g18, h⟩ := am_gdE h
    refine x_ar r148_52 rfl g18 rfl ?_
    refine x_sp r148_53 rfl rfl rfl rfl rfl rfl trivial rfl ?_
    obtain ⟨g19, h⟩ := am_gdE h
    refine x_ar r148_56 rfl g19 rfl ?_
    refine x_ar r148_57 rfl trivial rfl ?_
    refine x_ar r148_58 rfl trivial rfl ?_
    cases h
    exact x_ret (ret := some .int) (C := True) (v := some (.int _)) r148_59 rt148 rfl rfl rfl rfl rfl rfl rfl rfl trivial hQ
theorem m148_ok {N : Nat} {D : am_D} {v0 : UInt32} {r : Int32} (h : m148 N D v0 = some r) : am_Y xs L 148 1 0 0 [.float v0] D (.inl (some (.int r))) D := am_Yof (mi := am_m148) (lc := [.float v0, am_dead, am_dead]) pg148 (Nat.le_of_ble_eq_true rfl) (am_rc0 rfl) rfl (fun Q hQ => m148_w (Nat.le_refl _) h hQ)
theorem r153_0 : am_at 153 0 = some (.aload_n 0, 1, [0]) := by decide +kernel
theorem r153_1 : am_at 153 1 = some (.iconst (0), 1, []) := by decide +kernel
theorem r153_2 : am_at 153 2 = some (.putfield 37, 3, [0, 4, 0, 140]) := by decide +kernel
theorem r153_5 : am_at 153 5 = some (.aload_n 0, 1, [0]) := by decide +kernel
theorem r153_6 : am_at 153 6 = some (.iconst (-1), 1, []) := by decide +kernel
theorem r153_7 : am_at 153 7 = some (.putfield 24, 3, [0, 5, 0, 142]) := by decide +kernel
theorem r153_10 : am_at 153 10 = some (.aload_n 0, 1, [0]) := by decide +kernel
theorem r153_11 : am_at 153 11 = some (.iconst (-1), 1, []) := by decide +kernel
theorem r153_12 : am_at 153 12 = some (.putfield 28, 3, [0, 6, 0, 143]) := by decide +kernel
theorem r153_15 : am_at 153 15 = some (.return_, 1, []) := by decide +kernel
theorem rt153 : am_rtt 153 = some (none) := by decide +kernel
set_option maxRecDepth 100000 in
theorem pg153 : am_pg[153]? = some am_m153 := rfl
theorem m153_w {d mc ms : Nat} {D : am_D} {Q : am_O → am_AH → Prop} (hd : 1 ≤ d) {r : am_D} (h : m153 D = r) (hQ : Q (.inl none) (am_mk r)) : am_X xs L 153 d mc ms 0 [.ref 2] [] (am_mk D) 0 0 Q := by
  unfold m153 at h
  refine x_ld (v := .ref 2) r153_0 rfl rfl rfl ?_
  refine x_ic (v := 0) r153_1 rfl rfl ?_
  obtain ⟨D1, e2, h⟩ := am_ltE h
  refine y_pf0 r153_2 rfl e2 rfl ?_
  refine x_ld (v := .ref 2) r153_5 rfl rfl rfl ?_
  refine x_ic (v := -1) r153_6 rfl rfl ?_
  obtain ⟨D3, e4, h⟩ := am_ltE h
  refine y_pf0 r153_7 rfl e4 rfl ?_
  refine x_ld (v := .ref 2) r153_10 rfl rfl rfl ?_
  refine x_ic (v := -1) r153_11 rfl rfl ?_
  obtain ⟨D5, e6, h⟩ := am_ltE h
  refine y_pf0 r153_12 rfl e6 rfl ?_
  subst h
  exact x_ret (ret := none) (C := True) (v := none) r153_15 rt153 rfl rfl rfl rfl rfl rfl rfl rfl trivial hQ
theorem m153_ok {D : am_D} {r : am_D} (h : m153 D = r) : am_Y xs L 153 1 0 0 [.ref 2] D (.inl none) r := am_Yof (mi := am_m153) (lc := [.ref 2]) pg153 (Nat.le_of_ble_eq_true rfl) (am_rc1 (ci := 0) rfl rfl rfl rfl rfl) rfl (fun Q hQ => m153_w (Nat.le_refl _) h hQ)
theorem r154_0 : am_at 154 0 = some (.iconst (0), 1, []) := by decide +kernel
theorem r154_1 : am_at 154 1 = some (.istore_n 2, 1, [2]) := by decide +kernel
theorem r154_2 : am_at 154 2 = some (.iload_n 2, 1, [2]) := by decide +kernel
theorem r154_3 : am_at 154 3 = some (.aload_n 0, 1, [0]) := by decide +kernel
theorem r154_4 : am_at 154 4 = some (.getfield 37, 3, [0, 4, 0, 140]) := by decide +kernel
theorem r154_7 : am_at 154 7 = some (.if_icmp .ge (23), 3, [30]) := by decide +kernel
theorem r154_10 : am_at 154 10 = some (.aload_n 0, 1, [0]) := by decide +kernel
theorem r154_11 : am_at 154 11 = some (.getfield 9, 3, [0, 0, 3, 132]) := by decide +kernel
theorem r154_14 : am_at 154 14 = some (.iload_n 2, 1, [2]) := by decide +kernel
theorem r154_15 : am_at 154 15 = some (.invokestatic 40, 3, [180, 2, 436, 0]) := by decide +kernel
theorem r154_18 : am_at 154 18 = some (.iload_n 1, 1, [1]) := by decide +kernel
theorem r154_19 : am_at 154 19 = some (.if_icmp .ne (5), 3, [24]) := by decide +kernel
theorem r154_22 : am_at 154 22 = some (.iload_n 2, 1, [2]) := by decide +kernel
theorem r154_23 : am_at 154 23 = some (.ireturn, 1, []) := by decide +kernel
theorem r154_24 : am_at 154 24 = some (.iinc 2 (1), 3, [2]) := by decide +kernel
theorem r154_27 : am_at 154 27 = some (.goto (-25), 3, [2]) := by decide +kernel
theorem r154_30 : am_at 154 30 = some (.iconst (-1), 1, []) := by decide +kernel
theorem r154_31 : am_at 154 31 = some (.ireturn, 1, []) := by decide +kernel
theorem rt154 : am_rtt 154 = some (some .int) := by decide +kernel
set_option maxRecDepth 100000 in
theorem pg154 : am_pg[154]? = some am_m154 := rfl
theorem m154_L2_w {d : Nat} {N : Nat} {D : am_D} {v1 : Int32} {mc ms : Nat} {Q : am_O → am_AH → Prop} (hd : 2 ≤ d) : ∀ (n : Nat) (v2 : Int32) {q : Nat × Int32} (h : m154_L2 N D v1  n v2 = some q) (k0 : q.1 = 0 → am_X xs L 154 d mc ms 30 [.ref 2, am_dead, am_dead] [] (am_mk D) 0 0 Q) (k1 : q.1 = 1 → am_X xs L 154 d mc ms 22 [.ref 2, am_dead, .int q.2] [] (am_mk D) 0 0 Q), am_X xs L 154 d mc ms 2 [.ref 2, .int v1, .int v2] [] (am_mk D) 0 0 Q := by
  intro n
  induction n with
  | zero =>
    intro v2 q h k0 k1
    exact (nomatch (show none = some q from h))
  | succ n ih =>
    intro v2 q h k0 k1
    rw [m154_L2] at h
    refine x_ld (v := .int v2) r154_2 rfl rfl rfl ?_
    refine x_ld (v := .ref 2) r154_3 rfl rfl rfl ?_
    refine y_gf (cd := 0) (v := .int (D.1 2 4)) r154_4 rfl rfl rfl ?_
    rcases am_ifE h with ⟨c1, h⟩ | ⟨c1, h⟩
    · refine x_icgeT r154_7 c1 ?_
      refine x_forget (lc0 := [.ref 2, am_dead, am_dead]) ⟨Or.inl rfl, Or.inr ⟨rfl, rfl⟩, Or.inr ⟨rfl, rfl⟩, trivial⟩ ?_
      cases h
      exact k0 rfl
    · refine x_icgeF r154_7 c1 rfl ?_
      refine x_ld (v := .ref 2) r154_10 rfl rfl rfl ?_
      refine y_gf (cd := 5) (v := .ref 3) r154_11 rfl rfl rfl ?_
      refine x_ld (v := .int v2) r154_14 rfl rfl rfl ?_
      refine x_call1 (as := [.ref 3, .int v2]) (rest := []) r154_15 rfl rfl rfl (by decide) (Nat.le_of_ble_eq_true rfl) (am_rows_at (n := 28) rfl (by decide)) (Nat.le_trans (by decide) hd) (Nat.zero_le _) (Nat.zero_le _) rfl ?_
      refine x_ld (v := .int v1) r154_18 rfl rfl rfl ?_
      rcases am_ifE h with ⟨c2, h⟩ | ⟨c2, h⟩
      · refine x_icneT r154_19 c2 rfl ?_
        refine x_forget (lc0 := [.ref 2, am_dead, .int v2]) ⟨Or.inl rfl, Or.inr ⟨rfl, rfl⟩, Or.inl rfl, trivial⟩ ?_
        cases h
        exact k1 rfl
      · refine x_icneF r154_19 c2 ?_
        obtain ⟨x3, e4, h⟩ := am_ltE h
        refine x_sto (lc' := [.ref 2, .int v1, .int x3]) r154_24 rfl rfl (by subst e4; rfl) rfl ?_
        refine x_goto r154_27 ?_
        exact x_forget (lc0 := [.ref 2, .int v1, .int x3]) ⟨Or.inl rfl, Or.inl rfl, Or.inl rfl, trivial⟩ (ih x3 h k0 k1)
theorem m154_w {d mc ms : Nat} {N : Nat} {D : am_D} {v1 : Int32} {Q : am_O → am_AH → Prop} (hd : 2 ≤ d) {r : Int32} (h : m154 N D v1 = some r) (hQ : Q (.inl (some (.int r))) (am_mk D)) : am_X xs L 154 d mc ms 0 [.ref 2, .int v1, am_dead] [] (am_mk D) 0 0 Q := by
  unfold m154 at h
  refine x_ic (v := 0) r154_0 rfl rfl ?_
  refine x_sto (lc' := [.ref 2, .int v1, .int (0 : Int32)]) r154_1 rfl rfl rfl rfl ?_
  obtain ⟨q5, h6, h⟩ := Option.bind_eq_some_iff.mp h
  refine x_forget (lc0 := [.ref 2, .int v1, .int (0 : Int32)]) ⟨Or.inl rfl, Or.inl rfl, Or.inl rfl, trivial⟩ (m154_L2_w hd N (0 : Int32) h6 (fun e7 => ?_) (fun e8 => ?_))
  · rw [if_pos e7] at h
    refine x_ic (v := -1) r154_30 rfl rfl ?_
    cases h
    exact x_ret (ret := some .int) (C := True) (v := some (.int _)) r154_31 rt154 rfl rfl rfl rfl rfl rfl rfl rfl trivial hQ
  · rw [if_neg (by rw [e8]; decide)] at h
    refine x_ld (v := .int q5.2) r154_22 rfl rfl rfl ?_
    cases h
    exact x_ret (ret := some .int) (C := True) (v := some (.int _)) r154_23 rt154 rfl rfl rfl rfl rfl rfl rfl rfl trivial hQ
theorem m154_ok {N : Nat} {D : am_D} {v1 : Int32} {r : Int32} (h : m154 N D v1 = some r) : am_Y xs L 154 2 0 0 [.ref 2, .int v1] D (.inl (some (.int r))) D := am_Yof (mi := am_m154) (lc := [.ref 2, .int v1, am_dead]) pg154 (Nat.le_of_ble_eq_true rfl) (am_rc1 (ci := 0) rfl rfl rfl rfl rfl) rfl (fun Q hQ => m154_w (Nat.le_refl _) h hQ)
theorem r156_0 : am_at 156 0 = some (.iload_n 1, 1, [1]) := by decide +kernel
theorem r156_1 : am_at 156 1 = some (.ifCond .ne (10), 3, [11]) := by decide +kernel
theorem r156_4 : am_at 156 4 = some (.aload_n 0, 1, [0]) := by decide +kernel
theorem r156_5 : am_at 156 5 = some (.getfield 24, 3, [0, 5, 0, 142]) := by decide +kernel
theorem r156_8 : am_at 156 8 = some (.goto (7), 3, [15]) := by decide +kernel
theorem r156_11 : am_at 156 11 = some (.aload_n 0, 1, [0]) := by decide +kernel
theorem r156_12 : am_at 156 12 = some (.getfield 28, 3, [0, 6, 0, 143]) := by decide +kernel
theorem r156_15 : am_at 156 15 = some (.ireturn, 1, []) := by decide +kernel
theorem rt156 : am_rtt 156 = some (some .int) := by decide +kernel
set_option maxRecDepth 100000 in
theorem pg156 : am_pg[156]? = some am_m156 := rfl
theorem m156_w {d mc ms : Nat} {D : am_D} {v1 : Int32} {Q : am_O → am_AH → Prop} (hd : 1 ≤ d) {r : Int32} (h : m156 D v1 = r) (hQ : Q (.inl (some (.int r))) (am_mk D)) : am_X xs L 156 d mc ms 0 [.ref 2, .int v1] [] (am_mk D) 0 0 Q := by
  unfold m156 at h
  refine x_ld (v := .int v1) r156_0 rfl rfl rfl ?_
  rcases am_ifE h with ⟨c1, h⟩ | ⟨c1, h⟩
  · refine x_ifneT r156_1 c1 rfl ?_
    refine x_ld (v := .ref 2) r156_4 rfl rfl rfl ?_
    refine y_gf (cd := 0) (v := .int (D.1 2 5)) r156_5 rfl rfl rfl ?_
    refine x_goto r156_8 ?_
    subst h
    exact x_ret (ret := some .int) (C := True) (v := some (.int _)) r156_15 rt156 rfl rfl rfl rfl rfl rfl rfl rfl trivial hQ
  · refine x_ifneF r156_1 c1 ?_
    refine x_ld (v := .ref 2) r156_11 rfl rfl rfl ?_
    refine y_gf (cd := 0) (v := .int (D.1 2 6)) r156_12 rfl rfl rfl ?_
    subst h
    exact x_ret (ret := some .int) (C := True) (v := some (.int _)) r156_15 rt156 rfl rfl rfl rfl rfl rfl rfl rfl trivial hQ
theorem m156_ok {D : am_D} {v1 : Int32} {r : Int32} (h : m156 D v1 = r) : am_Y xs L 156 1 0 0 [.ref 2, .int v1] D (.inl (some (.int r))) D := am_Yof (mi := am_m156) (lc := [.ref 2, .int v1]) pg156 (Nat.le_of_ble_eq_true rfl) (am_rc1 (ci := 0) rfl rfl rfl rfl rfl) rfl (fun Q hQ => m156_w (Nat.le_refl _) h hQ)
theorem r165_0 : am_at 165 0 = some (.aload_n 0, 1, [0]) := by decide +kernel
theorem r165_1 : am_at 165 1 = some (.getfield 9, 3, [0, 0, 3, 132]) := by decide +kernel
theorem r165_4 : am_at 165 4 = some (.iload_n 1, 1, [1]) := by decide +kernel
theorem r165_5 : am_at 165 5 = some (.aload_n 0, 1, [0]) := by decide +kernel
theorem r165_6 : am_at 165 6 = some (.getfield 9, 3, [0, 0, 3, 132]) := by decide +kernel
theorem r165_9 : am_at 165 9 = some (.iload_n 1, 1, [1]) := by decide +kernel
theorem r165_10 : am_at 165 10 = some (.iconst (1), 1, []) := by decide +kernel
theorem r165_11 : am_at 165 11 = some (.isub, 1, []) := by decide +kernel
theorem r165_12 : am_at 165 12 = some (.invokestatic 40, 3, [180, 2, 436, 0]) := by decide +kernel
theorem r165_15 : am_at 165 15 = some (.invokestatic 80, 3, [181, 3, 937, 0]) := by decide +kernel
theorem r165_18 : am_at 165 18 = some (.aload_n 0, 1, [0]) := by decide +kernel
theorem r165_19 : am_at 165 19 = some (.getfield 15, 3, [0, 1, 3, 134]) := by decide +kernel
theorem r165_22 : am_at 165 22 = some (.iload_n 1, 1, [1]) := by decide +kernel
theorem r165_23 : am_at 165 23 = some (.aload_n 0, 1, [0]) := by decide +kernel
theorem r165_24 : am_at 165 24 = some (.getfield 15, 3, [0, 1, 3, 134]) := by decide +kernel
theorem r165_27 : am_at 165 27 = some (.iload_n 1, 1, [1]) := by decide +kernel
theorem r165_28 : am_at 165 28 = some (.iconst (1), 1, []) := by decide +kernel
theorem r165_29 : am_at 165 29 = some (.isub, 1, []) := by decide +kernel
theorem r165_30 : am_at 165 30 = some (.invokestatic 40, 3, [180, 2, 436, 0]) := by decide +kernel
theorem r165_33 : am_at 165 33 = some (.invokestatic 80, 3, [181, 3, 937, 0]) := by decide +kernel
theorem r165_36 : am_at 165 36 = some (.aload_n 0, 1, [0]) := by decide +kernel
theorem r165_37 : am_at 165 37 = some (.getfield 18, 3, [0, 2, 3, 136]) := by decide +kernel
theorem r165_40 : am_at 165 40 = some (.iload_n 1, 1, [1]) := by decide +kernel
theorem r165_41 : am_at 165 41 = some (.aload_n 0, 1, [0]) := by decide +kernel
theorem r165_42 : am_at 165 42 = some (.getfield 18, 3, [0, 2, 3, 136]) := by decide +kernel
theorem r165_45 : am_at 165 45 = some (.iload_n 1, 1, [1]) := by decide +kernel
theorem r165_46 : am_at 165 46 = some (.iconst (1), 1, []) := by decide +kernel
theorem r165_47 : am_at 165 47 = some (.isub, 1, []) := by decide +kernel
theorem r165_48 : am_at 165 48 = some (.invokestatic 40, 3, [180, 2, 436, 0]) := by decide +kernel
theorem r165_51 : am_at 165 51 = some (.invokestatic 80, 3, [181, 3, 937, 0]) := by decide +kernel
theorem r165_54 : am_at 165 54 = some (.aload_n 0, 1, [0]) := by decide +kernel
theorem r165_55 : am_at 165 55 = some (.getfield 21, 3, [0, 3, 3, 138]) := by decide +kernel
theorem r165_58 : am_at 165 58 = some (.iload_n 1, 1, [1]) := by decide +kernel
theorem r165_59 : am_at 165 59 = some (.aload_n 0, 1, [0]) := by decide +kernel
theorem r165_60 : am_at 165 60 = some (.getfield 21, 3, [0, 3, 3, 138]) := by decide +kernel
theorem r165_63 : am_at 165 63 = some (.iload_n 1, 1, [1]) := by decide +kernel
theorem r165_64 : am_at 165 64 = some (.iconst (1), 1, []) := by decide +kernel
theorem r165_65 : am_at 165 65 = some (.isub, 1, []) := by decide +kernel
theorem r165_66 : am_at 165 66 = some (.invokestatic 40, 3, [180, 2, 436, 0]) := by decide +kernel
theorem r165_69 : am_at 165 69 = some (.invokestatic 80, 3, [181, 3, 937, 0]) := by decide +kernel
theorem r165_72 : am_at 165 72 = some (.return_, 1, []) := by decide +kernel
theorem rt165 : am_rtt 165 = some (none) := by decide +kernel
set_option maxRecDepth 100000 in
theorem pg165 : am_pg[165]? = some am_m165 := rfl
theorem m165_w {d mc ms : Nat} {D : am_D} {v1 : Int32} {Q : am_O → am_AH → Prop} (hd : 2 ≤ d) {r : am_D} (h : m165 D v1 = r) (hQ : Q (.inl none) (am_mk r)) : am_X xs L 165 d mc ms 0 [.ref 2, .int v1] [] (am_mk D) 0 0 Q := by
  unfold m165 at h
  refine x_ld (v := .ref 2) r165_0 rfl rfl rfl ?_
  refine y_gf (cd := 5) (v := .ref 3) r165_1 rfl rfl rfl ?_
  refine x_ld (v := .int v1) r165_4 rfl rfl rfl ?_
  refine x_ld (v := .ref 2) r165_5 rfl rfl rfl ?_
  refine y_gf (cd := 5) (v := .ref 3) r165_6 rfl rfl rfl ?_
  refine x_ld (v := .int v1) r165_9 rfl rfl rfl ?_
  refine x_ic (v := 1) r165_10 rfl rfl ?_
  refine x_ar r165_11 rfl trivial rfl ?_
  refine x_call1 (as := [.ref 3, .int (v1 - (1 : Int32))]) (rest := [.int v1, .ref 3]) r165_12 rfl rfl rfl (by decide) (Nat.le_of_ble_eq_true rfl) (am_rows_at (n := 28) rfl (by decide)) (Nat.le_trans (by decide) hd) (Nat.zero_le _) (Nat.zero_le _) rfl ?_
  obtain ⟨D1, e2, h⟩ := am_ltE h
  refine x_call0 (as := [.ref 3, .int v1, .int (am_rat (D.1 3) 28 (v1 - (1 : Int32)))]) (rest := []) r165_15 rfl rfl rfl (by decide) (Nat.le_of_ble_eq_true rfl) (am_rows_put (n := 28) rfl (by decide) e2) (Nat.le_trans (by decide) hd) (Nat.zero_le _) (Nat.zero_le _) rfl ?_
  refine x_ld (v := .ref 2) r165_18 rfl rfl rfl ?_
  refine y_gf (cd := 6) (v := .ref 4) r165_19 rfl rfl rfl ?_
  refine x_ld (v := .int v1) r165_22 rfl rfl rfl ?_
  refine x_ld (v := .ref 2) r165_23 rfl rfl rfl ?_
  refine y_gf (cd := 6) (v := .ref 4) r165_24 rfl rfl rfl ?_
  refine x_ld (v := .int v1) r165_27 rfl rfl rfl ?_
  refine x_ic (v := 1) r165_28 rfl rfl ?_
  refine x_ar r165_29 rfl trivial rfl ?_
  refine x_call1 (as := [.ref 4, .int (v1 - (1 : Int32))]) (rest := [.int v1, .ref 4]) r165_30 rfl rfl rfl (by decide) (Nat.le_of_ble_eq_true rfl) (am_rows_at (n := 28) rfl (by decide)) (Nat.le_trans (by decide) hd) (Nat.zero_le _) (Nat.zero_le _) rfl ?_
  obtain ⟨D3, e4, h⟩ := am_ltE h
  refine x_call0 (as := [.ref 4, .int v1, .int (am_rat (D1.1 4) 28 (v1 - (1 : Int32)))]) (rest := []) r165_33 rfl rfl rfl (by decide) (Nat.le_of_ble_eq_true rfl) (am_rows_put (n := 28) rfl (by decide) e4) (Nat.le_trans (by decide) hd) (Nat.zero_le _) (Nat.zero_le _) rfl ?_
  refine x_ld (v := .ref 2) r165_36 rfl rfl rfl ?_
  refine y_gf (cd := 7) (v := .ref 5) r165_37 rfl rfl rfl ?_
  refine x_ld (v := .int v1) r165_40 rfl rfl rfl ?_
  refine x_ld (v := .ref 2) r165_41 rfl rfl rfl ?_
  refine y_gf (cd := 7) (v := .ref 5) r165_42 rfl rfl rfl ?_
  refine x_ld (v := .int v1) r165_45 rfl rfl rfl ?_
  refine x_ic (v := 1) r165_46 rfl rfl ?_
  refine x_ar r165_47 rfl trivial rfl ?_
  refine x_call1 (as := [.ref 5, .int (v1 - (1 : Int32))]) (rest := [.int v1, .ref 5]) r165_48 rfl rfl rfl (by decide) (Nat.le_of_ble_eq_true rfl) (am_rows_at (n := 28) rfl (by decide)) (Nat.le_trans (by decide) hd) (Nat.zero_le _) (Nat.zero_le _) rfl ?_
  obtain ⟨D5, e6, h⟩ := am_ltE h
  refine x_call0 (as := [.ref 5, .int v1, .int (am_rat (D3.1 5) 28 (v1 - (1 : Int32)))]) (rest := []) r165_51 rfl rfl rfl (by decide) (Nat.le_of_ble_eq_true rfl) (am_rows_put (n := 28) rfl (by decide) e6) (Nat.le_trans (by decide) hd) (Nat.zero_le _) (Nat.zero_le _) rfl ?_
  refine x_ld (v := .ref 2) r165_54 rfl rfl rfl ?_
  refine y_gf (cd := 8) (v := .ref 6) r165_55 rfl rfl rfl ?_
  refine x_ld (v := .int v1) r165_58 rfl rfl rfl ?_
  refine x_ld (v := .ref 2) r165_59 rfl rfl rfl ?_
  refine y_gf (cd := 8) (v := .ref 6) r165_60 rfl rfl rfl ?_
  refine x_ld (v := .int v1) r165_63 rfl rfl rfl ?_
  refine x_ic (v := 1) r165_64 rfl rfl ?_
  refine x_ar r165_65 rfl trivial rfl ?_
  refine x_call1 (as := [.ref 6, .int (v1 - (1 : Int32))]) (rest := [.int v1, .ref 6]) r165_66 rfl rfl rfl (by decide) (Nat.le_of_ble_eq_true rfl) (am_rows_at (n := 28) rfl (by decide)) (Nat.le_trans (by decide) hd) (Nat.zero_le _) (Nat.zero_le _) rfl ?_
  obtain ⟨D7, e8, h⟩ := am_ltE h
  refine x_call0 (as := [.ref 6, .int v1, .int (am_rat (D5.1 6) 28 (v1 - (1 : Int32)))]) (rest := []) r165_69 rfl rfl rfl (by decide) (Nat.le_of_ble_eq_true rfl) (am_rows_put (n := 28) rfl (by decide) e8) (Nat.le_trans (by decide) hd) (Nat.zero_le _) (Nat.zero_le _) rfl ?_
  subst h
  exact x_ret (ret := none) (C := True) (v := none) r165_72 rt165 rfl rfl rfl rfl rfl rfl rfl rfl trivial hQ
theorem m165_ok {D : am_D} {v1 : Int32} {r : am_D} (h : m165 D v1 = r) : am_Y xs L 165 2 0 0 [.ref 2, .int v1] D (.inl none) r := am_Yof (mi := am_m165) (lc := [.ref 2, .int v1]) pg165 (Nat.le_of_ble_eq_true rfl) (am_rc1 (ci := 0) rfl rfl rfl rfl rfl) rfl (fun Q hQ => m165_w (Nat.le_refl _) h hQ)
theorem r166_0 : am_at 166 0 = some (.iload_n 0, 1, [0]) := by decide +kernel
theorem r166_1 : am_at 166 1 = some (.ifCond .ne (7), 3, [8]) := by decide +kernel
theorem r166_4 : am_at 166 4 = some (.iconst (1), 1, []) := by decide +kernel
theorem r166_5 : am_at 166 5 = some (.goto (4), 3, [9]) := by decide +kernel
theorem r166_8 : am_at 166 8 = some (.iconst (0), 1, []) := by decide +kernel
theorem r166_9 : am_at 166 9 = some (.ireturn, 1, []) := by decide +kernel
theorem rt166 : am_rtt 166 = some (some .int) := by decide +kernel
set_option maxRecDepth 100000 in
theorem pg166 : am_pg[166]? = some am_m166 := rfl
theorem m166_w {d mc ms : Nat} {D : am_D} {v0 : Int32} {Q : am_O → am_AH → Prop} (hd : 1 ≤ d) {r : Int32} (h : m166 v0 = r) (hQ : Q (.inl (some (.int r))) (am_mk D)) : am_X xs L 166 d mc ms 0 [.int v0] [] (am_mk D) 0 0 Q := by
  unfold m166 at h
  refine x_ld (v := .int v0) r166_0 rfl rfl rfl ?_
  rcases am_ifE h with ⟨c1, h⟩ | ⟨c1, h⟩
  · refine x_ifneT r166_1 c1 rfl ?_
    refine x_ic (v := 1) r166_4 rfl rfl ?_
    refine x_goto r166_5 ?_
    subst h
    exact x_ret (ret := some .int) (C := True) (v := some (.int _)) r166_9 rt166 rfl rfl rfl rfl rfl rfl rfl rfl trivial hQ
  · refine x_ifneF r166_1 c1 ?_
    refine x_ic (v := 0) r166_8 rfl rfl ?_
    subst h
    exact x_ret (ret := some .int) (C := True) (v := some (.int _)) r166_9 rt166 rfl rfl rfl rfl rfl rfl rfl rfl trivial hQ
theorem m166_ok {D : am_D} {v0 : Int32} {r : Int32} (h : m166 v0 = r) : am_Y xs L 166 1 0 0 [.int v0] D (.inl (some (.int r))) D := am_Yof (mi := am_m166) (lc := [.int v0]) pg166 (Nat.le_of_ble_eq_true rfl) (am_rc0 rfl) rfl (fun Q hQ => m166_w (Nat.le_refl _) h hQ)
theorem m152_26_2_w {d mc ms : Nat} {D : am_D} {Q : am_O → am_AH → Prop} (hd : 2 ≤ d) {r : am_D} (h : m152_26_2 D = r) (hQ : Q (.inl none) (am_mk r)) : am_X xs L 152 d mc ms 0 [.ref 26, .ref 2] [] (am_mk D) 0 0 Q := by
  unfold m152_26_2 at h
  refine x_ld (v := .ref 2) r152_0 rfl rfl rfl ?_
  refine y_gf (cd := 5) (v := .ref 3) r152_1 rfl rfl rfl ?_
  refine x_ld (v := .ref 26) r152_4 rfl rfl rfl ?_
  refine y_gf (cd := 29) (v := .ref 27) r152_5 rfl rfl rfl ?_
  obtain ⟨D1, e2, h⟩ := am_ltE h
  refine x_call0 (as := [.ref 3, .ref 27]) (rest := []) r152_8 rfl rfl rfl (by decide) (Nat.le_of_ble_eq_true rfl) (am_rows_copy (n := 28) (m := 28) rfl rfl (by decide) (by decide) e2) (Nat.le_trans (by decide) hd) (Nat.zero_le _) (Nat.zero_le _) rfl ?_
  refine x_ld (v := .ref 2) r152_11 rfl rfl rfl ?_
  refine y_gf (cd := 6) (v := .ref 4) r152_12 rfl rfl rfl ?_
  refine x_ld (v := .ref 26) r152_15 rfl rfl rfl ?_
  refine y_gf (cd := 30) (v := .ref 28) r152_16 rfl rfl rfl ?_
  obtain ⟨D3, e4, h⟩ := am_ltE h
  refine x_call0 (as := [.ref 4, .ref 28]) (rest := []) r152_19 rfl rfl rfl (by decide) (Nat.le_of_ble_eq_true rfl) (am_rows_copy (n := 28) (m := 28) rfl rfl (by decide) (by decide) e4) (Nat.le_trans (by decide) hd) (Nat.zero_le _) (Nat.zero_le _) rfl ?_
  refine x_ld (v := .ref 2) r152_22 rfl rfl rfl ?_
  refine y_gf (cd := 7) (v := .ref 5) r152_23 rfl rfl rfl ?_
  refine x_ld (v := .ref 26) r152_26 rfl rfl rfl ?_
  refine y_gf (cd := 31) (v := .ref 29) r152_27 rfl rfl rfl ?_
  obtain ⟨D5, e6, h⟩ := am_ltE h
  refine x_call0 (as := [.ref 5, .ref 29]) (rest := []) r152_30 rfl rfl rfl (by decide) (Nat.le_of_ble_eq_true rfl) (am_rows_copy (n := 28) (m := 28) rfl rfl (by decide) (by decide) e6) (Nat.le_trans (by decide) hd) (Nat.zero_le _) (Nat.zero_le _) rfl ?_
  refine x_ld (v := .ref 2) r152_33 rfl rfl rfl ?_
  refine y_gf (cd := 8) (v := .ref 6) r152_34 rfl rfl rfl ?_
  refine x_ld (v := .ref 26) r152_37 rfl rfl rfl ?_
  refine y_gf (cd := 32) (v := .ref 30) r152_38 rfl rfl rfl ?_
  obtain ⟨D7, e8, h⟩ := am_ltE h
  refine x_call0 (as := [.ref 6, .ref 30]) (rest := []) r152_41 rfl rfl rfl (by decide) (Nat.le_of_ble_eq_true rfl) (am_rows_copy (n := 28) (m := 28) rfl rfl (by decide) (by decide) e8) (Nat.le_trans (by decide) hd) (Nat.zero_le _) (Nat.zero_le _) rfl ?_
  refine x_ld (v := .ref 26) r152_44 rfl rfl rfl ?_
  refine x_ld (v := .ref 2) r152_45 rfl rfl rfl ?_
  refine y_gf (cd := 0) (v := .int (D7.1 2 4)) r152_46 rfl rfl rfl ?_
  obtain ⟨D9, e10, h⟩ := am_ltE h
  refine y_pf0 r152_49 rfl e10 rfl ?_
  refine x_ld (v := .ref 26) r152_52 rfl rfl rfl ?_
  refine x_ld (v := .ref 2) r152_53 rfl rfl rfl ?_
  refine y_gf (cd := 0) (v := .int (D9.1 2 5)) r152_54 rfl rfl rfl ?_
  obtain ⟨D11, e12, h⟩ := am_ltE h
  refine y_pf0 r152_57 rfl e12 rfl ?_
  refine x_ld (v := .ref 26) r152_60 rfl rfl rfl ?_
  refine x_ld (v := .ref 2) r152_61 rfl rfl rfl ?_
  refine y_gf (cd := 0) (v := .int (D11.1 2 6)) r152_62 rfl rfl rfl ?_
  obtain ⟨D13, e14, h⟩ := am_ltE h
  refine y_pf0 r152_65 rfl e14 rfl ?_
  subst h
  exact x_ret (ret := none) (C := True) (v := none) r152_68 rt152 rfl rfl rfl rfl rfl rfl rfl rfl trivial hQ
theorem m152_26_2_ok {D : am_D} {r : am_D} (h : m152_26_2 D = r) : am_Y xs L 152 2 0 0 [.ref 26, .ref 2] D (.inl none) r := am_Yof (mi := am_m152) (lc := [.ref 26, .ref 2]) pg152 (Nat.le_of_ble_eq_true rfl) (am_rc1 (ci := 0) rfl rfl rfl rfl rfl) rfl (fun Q hQ => m152_26_2_w (Nat.le_refl _) h hQ)
theorem m202_25_1_w {d mc ms : Nat} {D : am_D} {Q : am_O → am_AH → Prop} (hd : 3 ≤ d) {r : am_D} (h : m202_25_1 D = r) (hQ : Q (.inl none) (am_mk r)) : am_X xs L 202 d mc ms 0 [.ref 25, .ref 1] [] (am_mk D) 0 0 Q := by
  unfold m202_25_1 at h
  refine x_ld (v := .ref 25) r202_0 rfl rfl rfl ?_
  refine y_gf (cd := 28) (v := .ref 26) r202_1 rfl rfl rfl ?_
  refine x_ld (v := .ref 1) r202_4 rfl rfl rfl ?_
  refine y_gf (cd := 4) (v := .ref 2) r202_5 rfl rfl rfl ?_
  obtain ⟨q1, h2, h⟩ := am_ltE h
  replace h2 := h2.symm
  refine x_call0 (as := [.ref 26, .ref 2]) (rest := []) r202_8 rfl rfl rfl (by decide) (Nat.le_of_ble_eq_true rfl) (m152_26_2_ok h2) (Nat.le_trans (by decide) hd) (Nat.zero_le _) (Nat.zero_le _) rfl ?_
  refine x_ld (v := .ref 1) r202_11 rfl rfl rfl ?_
  refine y_gf (cd := 9) (v := .ref 7) r202_12 rfl rfl rfl ?_
  refine x_ld (v := .ref 25) r202_15 rfl rfl rfl ?_
  refine y_gf (cd := 33) (v := .ref 31) r202_16 rfl rfl rfl ?_
  obtain ⟨D3, e4, h⟩ := am_ltE h
  refine x_call0 (as := [.ref 7, .ref 31]) (rest := []) r202_19 rfl rfl rfl (by decide) (Nat.le_of_ble_eq_true rfl) (am_rows_copy (n := 28) (m := 28) rfl rfl (by decide) (by decide) e4) (Nat.le_trans (by decide) hd) (Nat.zero_le _) (Nat.zero_le _) rfl ?_
  refine x_ld (v := .ref 1) r202_22 rfl rfl rfl ?_
  refine y_gf (cd := 10) (v := .ref 8) r202_23 rfl rfl rfl ?_
  refine x_ld (v := .ref 25) r202_26 rfl rfl rfl ?_
  refine y_gf (cd := 34) (v := .ref 32) r202_27 rfl rfl rfl ?_
  obtain ⟨D5, e6, h⟩ := am_ltE h
  refine x_call0 (as := [.ref 8, .ref 32]) (rest := []) r202_30 rfl rfl rfl (by decide) (Nat.le_of_ble_eq_true rfl) (am_rows_copy (n := 4) (m := 4) rfl rfl (by decide) (by decide) e6) (Nat.le_trans (by decide) hd) (Nat.zero_le _) (Nat.zero_le _) rfl ?_
  refine x_ld (v := .ref 1) r202_33 rfl rfl rfl ?_
  refine y_gf (cd := 11) (v := .ref 9) r202_34 rfl rfl rfl ?_
  refine x_ld (v := .ref 25) r202_37 rfl rfl rfl ?_
  refine y_gf (cd := 35) (v := .ref 33) r202_38 rfl rfl rfl ?_
  obtain ⟨D7, e8, h⟩ := am_ltE h
  refine x_call0 (as := [.ref 9, .ref 33]) (rest := []) r202_41 rfl rfl rfl (by decide) (Nat.le_of_ble_eq_true rfl) (am_rows_copy (n := 4) (m := 4) rfl rfl (by decide) (by decide) e8) (Nat.le_trans (by decide) hd) (Nat.zero_le _) (Nat.zero_le _) rfl ?_
  refine x_ld (v := .ref 1) r202_44 rfl rfl rfl ?_
  refine y_gf (cd := 12) (v := .ref 10) r202_45 rfl rfl rfl ?_
  refine x_ld (v := .ref 25) r202_48 rfl rfl rfl ?_
  refine y_gf (cd := 36) (v := .ref 34) r202_49 rfl rfl rfl ?_
  obtain ⟨D9, e10, h⟩ := am_ltE h
  refine x_call0 (as := [.ref 10, .ref 34]) (rest := []) r202_52 rfl rfl rfl (by decide) (Nat.le_of_ble_eq_true rfl) (am_rows_copy (n := 4) (m := 4) rfl rfl (by decide) (by decide) e10) (Nat.le_trans (by decide) hd) (Nat.zero_le _) (Nat.zero_le _) rfl ?_
  refine x_ld (v := .ref 1) r202_55 rfl rfl rfl ?_
  refine y_gf (cd := 13) (v := .ref 11) r202_56 rfl rfl rfl ?_
  refine x_ld (v := .ref 25) r202_59 rfl rfl rfl ?_
  refine y_gf (cd := 37) (v := .ref 35) r202_60 rfl rfl rfl ?_
  obtain ⟨D11, e12, h⟩ := am_ltE h
  refine x_call0 (as := [.ref 11, .ref 35]) (rest := []) r202_63 rfl rfl rfl (by decide) (Nat.le_of_ble_eq_true rfl) (am_rows_copy (n := 2) (m := 2) rfl rfl (by decide) (by decide) e12) (Nat.le_trans (by decide) hd) (Nat.zero_le _) (Nat.zero_le _) rfl ?_
  refine x_ld (v := .ref 25) r202_66 rfl rfl rfl ?_
  refine x_ld (v := .ref 1) r202_67 rfl rfl rfl ?_
  refine y_gf (cd := 0) (v := .int (D11.1 1 6)) r202_68 rfl rfl rfl ?_
  obtain ⟨D13, e14, h⟩ := am_ltE h
  refine y_pf0 r202_71 rfl e14 rfl ?_
  refine x_ld (v := .ref 25) r202_74 rfl rfl rfl ?_
  refine x_ld (v := .ref 1) r202_75 rfl rfl rfl ?_
  refine y_gf (cd := 0) (v := .int (D13.1 1 7)) r202_76 rfl rfl rfl ?_
  obtain ⟨D15, e16, h⟩ := am_ltE h
  refine y_pf0 r202_79 rfl e16 rfl ?_
  refine x_ld (v := .ref 25) r202_82 rfl rfl rfl ?_
  refine x_ld (v := .ref 1) r202_83 rfl rfl rfl ?_
  refine y_gf (cd := 0) (v := .int (D15.1 1 8)) r202_84 rfl rfl rfl ?_
  obtain ⟨D17, e18, h⟩ := am_ltE h
  refine y_pf0 r202_87 rfl e18 rfl ?_
  refine x_ld (v := .ref 25) r202_90 rfl rfl rfl ?_
  refine x_ld (v := .ref 1) r202_91 rfl rfl rfl ?_
  refine y_gf (cd := 0) (v := .int (D17.1 1 9)) r202_92 rfl rfl rfl ?_
  obtain ⟨D19, e20, h⟩ := am_ltE h
  refine y_pf0 r202_95 rfl e20 rfl ?_
  refine x_ld (v := .ref 25) r202_98 rfl rfl rfl ?_
  refine x_ld (v := .ref 1) r202_99 rfl rfl rfl ?_
  refine y_gf (cd := 0) (v := .int (D19.1 1 10)) r202_100 rfl rfl rfl ?_
  obtain ⟨D21, e22, h⟩ := am_ltE h
  refine y_pf0 r202_103 rfl e22 rfl ?_
  refine x_ld (v := .ref 25) r202_106 rfl rfl rfl ?_
  refine x_ld (v := .ref 1) r202_107 rfl rfl rfl ?_
  refine y_gf (cd := 0) (v := .int (D21.1 1 11)) r202_108 rfl rfl rfl ?_
  obtain ⟨D23, e24, h⟩ := am_ltE h
  refine y_pf0 r202_111 rfl e24 rfl ?_
  refine x_ld (v := .ref 25) r202_114 rfl rfl rfl ?_
  refine x_ld (v := .ref 1) r202_115 rfl rfl rfl ?_
  refine y_gf (cd := 0) (v := .int (D23.1 1 12)) r202_116 rfl rfl rfl ?_
  obtain ⟨D25, e26, h⟩ := am_ltE h
  refine y_pf0 r202_119 rfl e26 rfl ?_
  refine x_ld (v := .ref 25) r202_122 rfl rfl rfl ?_
  refine x_ld (v := .ref 1) r202_123 rfl rfl rfl ?_
  refine y_gf (cd := 0) (v := .int (D25.1 1 13)) r202_124 rfl rfl rfl ?_
  obtain ⟨D27, e28, h⟩ := am_ltE h
  refine y_pf0 r202_127 rfl e28 rfl ?_
  refine x_ld (v := .ref 25) r202_130 rfl rfl rfl ?_
  refine x_ld (v := .ref 1) r202_131 rfl rfl rfl ?_
  refine y_gf (cd := 0) (v := .int (D27.1 1 14)) r202_132 rfl rfl rfl ?_
  obtain ⟨D29, e30, h⟩ := am_ltE h
  refine y_pf0 r202_135 rfl e30 rfl ?_
  refine x_ld (v := .ref 25) r202_138 rfl rfl rfl ?_
  refine x_ld (v := .ref 1) r202_139 rfl rfl rfl ?_
  refine y_gf (cd := 0) (v := .int (D29.1 1 15)) r202_140 rfl rfl rfl ?_
  obtain ⟨D31, e32, h⟩ := am_ltE h
  refine y_pf0 r202_143 rfl e32 rfl ?_
  subst h
  exact x_ret (ret := none) (C := True) (v := none) r202_146 rt202 rfl rfl rfl rfl rfl rfl rfl rfl trivial hQ
theorem m202_25_1_ok {D : am_D} {r : am_D} (h : m202_25_1 D = r) : am_Y xs L 202 3 0 0 [.ref 25, .ref 1] D (.inl none) r := am_Yof (mi := am_m202) (lc := [.ref 25, .ref 1]) pg202 (Nat.le_of_ble_eq_true rfl) (am_rc1 (ci := 4) rfl rfl rfl rfl rfl) rfl (fun Q hQ => m202_25_1_w (Nat.le_refl _) h hQ)
theorem m152_37_2_w {d mc ms : Nat} {D : am_D} {Q : am_O → am_AH → Prop} (hd : 2 ≤ d) {r : am_D} (h : m152_37_2 D = r) (hQ : Q (.inl none) (am_mk r)) : am_X xs L 152 d mc ms 0 [.ref 37, .ref 2] [] (am_mk D) 0 0 Q := by
  unfold m152_37_2 at h
  refine x_ld (v := .ref 2) r152_0 rfl rfl rfl ?_
  refine y_gf (cd := 5) (v := .ref 3) r152_1 rfl rfl rfl ?_
  refine x_ld (v := .ref 37) r152_4 rfl rfl rfl ?_
  refine y_gf (cd := 40) (v := .ref 38) r152_5 rfl rfl rfl ?_
  obtain ⟨D1, e2, h⟩ := am_ltE h
  refine x_call0 (as := [.ref 3, .ref 38]) (rest := []) r152_8 rfl rfl rfl (by decide) (Nat.le_of_ble_eq_true rfl) (am_rows_copy (n := 28) (m := 28) rfl rfl (by decide) (by decide) e2) (Nat.le_trans (by decide) hd) (Nat.zero_le _) (Nat.zero_le _) rfl ?_
  refine x_ld (v := .ref 2) r152_11 rfl rfl rfl ?_
  refine y_gf (cd := 6) (v := .ref 4) r152_12 rfl rfl rfl ?_
  refine x_ld (v := .ref 37) r152_15 rfl rfl rfl ?_
  refine y_gf (cd := 41) (v := .ref 39) r152_16 rfl rfl rfl ?_
  obtain ⟨D3, e4, h⟩ := am_ltE h
  refine x_call0 (as := [.ref 4, .ref 39]) (rest := []) r152_19 rfl rfl rfl (by decide) (Nat.le_of_ble_eq_true rfl) (am_rows_copy (n := 28) (m := 28) rfl rfl (by decide) (by decide) e4) (Nat.le_trans (by decide) hd) (Nat.zero_le _) (Nat.zero_le _) rfl ?_
  refine x_ld (v := .ref 2) r152_22 rfl rfl rfl ?_
  refine y_gf (cd := 7) (v := .ref 5) r152_23 rfl rfl rfl ?_
  refine x_ld (v := .ref 37) r152_26 rfl rfl rfl ?_
  refine y_gf (cd := 42) (v := .ref 40) r152_27 rfl rfl rfl ?_
  obtain ⟨D5, e6, h⟩ := am_ltE h
  refine x_call0 (as := [.ref 5, .ref 40]) (rest := []) r152_30 rfl rfl rfl (by decide) (Nat.le_of_ble_eq_true rfl) (am_rows_copy (n := 28) (m := 28) rfl rfl (by decide) (by decide) e6) (Nat.le_trans (by decide) hd) (Nat.zero_le _) (Nat.zero_le _) rfl ?_
  refine x_ld (v := .ref 2) r152_33 rfl rfl rfl ?_
  refine y_gf (cd := 8) (v := .ref 6) r152_34 rfl rfl rfl ?_
  refine x_ld (v := .ref 37) r152_37 rfl rfl rfl ?_
  refine y_gf (cd := 43) (v := .ref 41) r152_38 rfl rfl rfl ?_
  obtain ⟨D7, e8, h⟩ := am_ltE h
  refine x_call0 (as := [.ref 6, .ref 41]) (rest := []) r152_41 rfl rfl rfl (by decide) (Nat.le_of_ble_eq_true rfl) (am_rows_copy (n := 28) (m := 28) rfl rfl (by decide) (by decide) e8) (Nat.le_trans (by decide) hd) (Nat.zero_le _) (Nat.zero_le _) rfl ?_
  refine x_ld (v := .ref 37) r152_44 rfl rfl rfl ?_
  refine x_ld (v := .ref 2) r152_45 rfl rfl rfl ?_
  refine y_gf (cd := 0) (v := .int (D7.1 2 4)) r152_46 rfl rfl rfl ?_
  obtain ⟨D9, e10, h⟩ := am_ltE h
  refine y_pf0 r152_49 rfl e10 rfl ?_
  refine x_ld (v := .ref 37) r152_52 rfl rfl rfl ?_
  refine x_ld (v := .ref 2) r152_53 rfl rfl rfl ?_
  refine y_gf (cd := 0) (v := .int (D9.1 2 5)) r152_54 rfl rfl rfl ?_
  obtain ⟨D11, e12, h⟩ := am_ltE h
  refine y_pf0 r152_57 rfl e12 rfl ?_
  refine x_ld (v := .ref 37) r152_60 rfl rfl rfl ?_
  refine x_ld (v := .ref 2) r152_61 rfl rfl rfl ?_
  refine y_gf (cd := 0) (v := .int (D11.1 2 6)) r152_62 rfl rfl rfl ?_
  obtain ⟨D13, e14, h⟩ := am_ltE h
  refine y_pf0 r152_65 rfl e14 rfl ?_
  subst h
  exact x_ret (ret := none) (C := True) (v := none) r152_68 rt152 rfl rfl rfl rfl rfl rfl rfl rfl trivial hQ
theorem m152_37_2_ok {D : am_D} {r : am_D} (h : m152_37_2 D = r) : am_Y xs L 152 2 0 0 [.ref 37, .ref 2] D (.inl none) r := am_Yof (mi := am_m152) (lc := [.ref 37, .ref 2]) pg152 (Nat.le_of_ble_eq_true rfl) (am_rc1 (ci := 0) rfl rfl rfl rfl rfl) rfl (fun Q hQ => m152_37_2_w (Nat.le_refl _) h hQ)
theorem m202_36_1_w {d mc ms : Nat} {D : am_D} {Q : am_O → am_AH → Prop} (hd : 3 ≤ d) {r : am_D} (h : m202_36_1 D = r) (hQ : Q (.inl none) (am_mk r)) : am_X xs L 202 d mc ms 0 [.ref 36, .ref 1] [] (am_mk D) 0 0 Q := by
  unfold m202_36_1 at h
  refine x_ld (v := .ref 36) r202_0 rfl rfl rfl ?_
  refine y_gf (cd := 39) (v := .ref 37) r202_1 rfl rfl rfl ?_
  refine x_ld (v := .ref 1) r202_4 rfl rfl rfl ?_
  refine y_gf (cd := 4) (v := .ref 2) r202_5 rfl rfl rfl ?_
  obtain ⟨q1, h2, h⟩ := am_ltE h
  replace h2 := h2.symm
  refine x_call0 (as := [.ref 37, .ref 2]) (rest := []) r202_8 rfl rfl rfl (by decide) (Nat.le_of_ble_eq_true rfl) (m152_37_2_ok h2) (Nat.le_trans (by decide) hd) (Nat.zero_le _) (Nat.zero_le _) rfl ?_
  refine x_ld (v := .ref 1) r202_11 rfl rfl rfl ?_
  refine y_gf (cd := 9) (v := .ref 7) r202_12 rfl rfl rfl ?_
  refine x_ld (v := .ref 36) r202_15 rfl rfl rfl ?_
  refine y_gf (cd := 44) (v := .ref 42) r202_16 rfl rfl rfl ?_
  obtain ⟨D3, e4, h⟩ := am_ltE h
  refine x_call0 (as := [.ref 7, .ref 42]) (rest := []) r202_19 rfl rfl rfl (by decide) (Nat.le_of_ble_eq_true rfl) (am_rows_copy (n := 28) (m := 28) rfl rfl (by decide) (by decide) e4) (Nat.le_trans (by decide) hd) (Nat.zero_le _) (Nat.zero_le _) rfl ?_
  refine x_ld (v := .ref 1) r202_22 rfl rfl rfl ?_
  refine y_gf (cd := 10) (v := .ref 8) r202_23 rfl rfl rfl ?_
  refine x_ld (v := .ref 36) r202_26 rfl rfl rfl ?_
  refine y_gf (cd := 45) (v := .ref 43) r202_27 rfl rfl rfl ?_
  obtain ⟨D5, e6, h⟩ := am_ltE h
  refine x_call0 (as := [.ref 8, .ref 43]) (rest := []) r202_30 rfl rfl rfl (by decide) (Nat.le_of_ble_eq_true rfl) (am_rows_copy (n := 4) (m := 4) rfl rfl (by decide) (by decide) e6) (Nat.le_trans (by decide) hd) (Nat.zero_le _) (Nat.zero_le _) rfl ?_
  refine x_ld (v := .ref 1) r202_33 rfl rfl rfl ?_
  refine y_gf (cd := 11) (v := .ref 9) r202_34 rfl rfl rfl ?_
  refine x_ld (v := .ref 36) r202_37 rfl rfl rfl ?_
  refine y_gf (cd := 46) (v := .ref 44) r202_38 rfl rfl rfl ?_
  obtain ⟨D7, e8, h⟩ := am_ltE h
  refine x_call0 (as := [.ref 9, .ref 44]) (rest := []) r202_41 rfl rfl rfl (by decide) (Nat.le_of_ble_eq_true rfl) (am_rows_copy (n := 4) (m := 4) rfl rfl (by decide) (by decide) e8) (Nat.le_trans (by decide) hd) (Nat.zero_le _) (Nat.zero_le _) rfl ?_
  refine x_ld (v := .ref 1) r202_44 rfl rfl rfl ?_
  refine y_gf (cd := 12) (v := .ref 10) r202_45 rfl rfl rfl ?_
  refine x_ld (v := .ref 36) r202_48 rfl rfl rfl ?_
  refine y_gf (cd := 47) (v := .ref 45) r202_49 rfl rfl rfl ?_
  obtain ⟨D9, e10, h⟩ := am_ltE h
  refine x_call0 (as := [.ref 10, .ref 45]) (rest := []) r202_52 rfl rfl rfl (by decide) (Nat.le_of_ble_eq_true rfl) (am_rows_copy (n := 4) (m := 4) rfl rfl (by decide) (by decide) e10) (Nat.le_trans (by decide) hd) (Nat.zero_le _) (Nat.zero_le _) rfl ?_
  refine x_ld (v := .ref 1) r202_55 rfl rfl rfl ?_
  refine y_gf (cd := 13) (v := .ref 11) r202_56 rfl rfl rfl ?_
  refine x_ld (v := .ref 36) r202_59 rfl rfl rfl ?_
  refine y_gf (cd := 48) (v := .ref 46) r202_60 rfl rfl rfl ?_
  obtain ⟨D11, e12, h⟩ := am_ltE h
  refine x_call0 (as := [.ref 11, .ref 46]) (rest := []) r202_63 rfl rfl rfl (by decide) (Nat.le_of_ble_eq_true rfl) (am_rows_copy (n := 2) (m := 2) rfl rfl (by decide) (by decide) e12) (Nat.le_trans (by decide) hd) (Nat.zero_le _) (Nat.zero_le _) rfl ?_
  refine x_ld (v := .ref 36) r202_66 rfl rfl rfl ?_
  refine x_ld (v := .ref 1) r202_67 rfl rfl rfl ?_
  refine y_gf (cd := 0) (v := .int (D11.1 1 6)) r202_68 rfl rfl rfl ?_
  obtain ⟨D13, e14, h⟩ := am_ltE h
  refine y_pf0 r202_71 rfl e14 rfl ?_
  refine x_ld (v := .ref 36) r202_74 rfl rfl rfl ?_
  refine x_ld (v := .ref 1) r202_75 rfl rfl rfl ?_
  refine y_gf (cd := 0) (v := .int (D13.1 1 7)) r202_76 rfl rfl rfl ?_
  obtain ⟨D15, e16, h⟩ := am_ltE h
  refine y_pf0 r202_79 rfl e16 rfl ?_
  refine x_ld (v := .ref 36) r202_82 rfl rfl rfl ?_
  refine x_ld (v := .ref 1) r202_83 rfl rfl rfl ?_
  refine y_gf (cd := 0) (v := .int (D15.1 1 8)) r202_84 rfl rfl rfl ?_
  obtain ⟨D17, e18, h⟩ := am_ltE h
  refine y_pf0 r202_87 rfl e18 rfl ?_
  refine x_ld (v := .ref 36) r202_90 rfl rfl rfl ?_
  refine x_ld (v := .ref 1) r202_91 rfl rfl rfl ?_
  refine y_gf (cd := 0) (v := .int (D17.1 1 9)) r202_92 rfl rfl rfl ?_
  obtain ⟨D19, e20, h⟩ := am_ltE h
  refine y_pf0 r202_95 rfl e20 rfl ?_
  refine x_ld (v := .ref 36) r202_98 rfl rfl rfl ?_
  refine x_ld (v := .ref 1) r202_99 rfl rfl rfl ?_
  refine y_gf (cd := 0) (v := .int (D19.1 1 10)) r202_100 rfl rfl rfl ?_
  obtain ⟨D21, e22, h⟩ := am_ltE h
  refine y_pf0 r202_103 rfl e22 rfl ?_
  refine x_ld (v := .ref 36) r202_106 rfl rfl rfl ?_
  refine x_ld (v := .ref 1) r202_107 rfl rfl rfl ?_
  refine y_gf (cd := 0) (v := .int (D21.1 1 11)) r202_108 rfl rfl rfl ?_
  obtain ⟨D23, e24, h⟩ := am_ltE h
  refine y_pf0 r202_111 rfl e24 rfl ?_
  refine x_ld (v := .ref 36) r202_114 rfl rfl rfl ?_
  refine x_ld (v := .ref 1) r202_115 rfl rfl rfl ?_
  refine y_gf (cd := 0) (v := .int (D23.1 1 12)) r202_116 rfl rfl rfl ?_
  obtain ⟨D25, e26, h⟩ := am_ltE h
  refine y_pf0 r202_119 rfl e26 rfl ?_
  refine x_ld (v := .ref 36) r202_122 rfl rfl rfl ?_
  refine x_ld (v := .ref 1) r202_123 rfl rfl rfl ?_
  refine y_gf (cd := 0) (v := .int (D25.1 1 13)) r202_124 rfl rfl rfl ?_
  obtain ⟨D27, e28, h⟩ := am_ltE h
  refine y_pf0 r202_127 rfl e28 rfl ?_
  refine x_ld (v := .ref 36) r202_130 rfl rfl rfl ?_
  refine x_ld (v := .ref 1) r202_131 rfl rfl rfl ?_
  refine y_gf (cd := 0) (v := .int (D27.1 1 14)) r202_132 rfl rfl rfl ?_
  obtain ⟨D29, e30, h⟩ := am_ltE h
  refine y_pf0 r202_135 rfl e30 rfl ?_
  refine x_ld (v := .ref 36) r202_138 rfl rfl rfl ?_
  refine x_ld (v := .ref 1) r202_139 rfl rfl rfl ?_
  refine y_gf (cd := 0) (v := .int (D29.1 1 15)) r202_140 rfl rfl rfl ?_
  obtain ⟨D31, e32, h⟩ := am_ltE h
  refine y_pf0 r202_143 rfl e32 rfl ?_
  subst h
  exact x_ret (ret := none) (C := True) (v := none) r202_146 rt202 rfl rfl rfl rfl rfl rfl rfl rfl trivial hQ
theorem m202_36_1_ok {D : am_D} {r : am_D} (h : m202_36_1 D = r) : am_Y xs L 202 3 0 0 [.ref 36, .ref 1] D (.inl none) r := am_Yof (mi := am_m202) (lc := [.ref 36, .ref 1]) pg202 (Nat.le_of_ble_eq_true rfl) (am_rc1 (ci := 4) rfl rfl rfl rfl rfl) rfl (fun Q hQ => m202_36_1_w (Nat.le_refl _) h hQ)
theorem m152_48_2_w {d mc ms : Nat} {D : am_D} {Q : am_O → am_AH → Prop} (hd : 2 ≤ d) {r : am_D} (h : m152_48_2 D = r) (hQ : Q (.inl none) (am_mk r)) : am_X xs L 152 d mc ms 0 [.ref 48, .ref 2] [] (am_mk D) 0 0 Q := by
  unfold m152_48_2 at h
  refine x_ld (v := .ref 2) r152_0 rfl rfl rfl ?_
  refine y_gf (cd := 5) (v := .ref 3) r152_1 rfl rfl rfl ?_
  refine x_ld (v := .ref 48) r152_4 rfl rfl rfl ?_
  refine y_gf (cd := 51) (v := .ref 49) r152_5 rfl rfl rfl ?_
  obtain ⟨D1, e2, h⟩ := am_ltE h
  refine x_call0 (as := [.ref 3, .ref 49]) (rest := []) r152_8 rfl rfl rfl (by decide) (Nat.le_of_ble_eq_true rfl) (am_rows_copy (n := 28) (m := 28) rfl rfl (by decide) (by decide) e2) (Nat.le_trans (by decide) hd) (Nat.zero_le _) (Nat.zero_le _) rfl ?_
  refine x_ld (v := .ref 2) r152_11 rfl rfl rfl ?_
  refine y_gf (cd := 6) (v := .ref 4) r152_12 rfl rfl rfl ?_
  refine x_ld (v := .ref 48) r152_15 rfl rfl rfl ?_
  refine y_gf (cd := 52) (v := .ref 50) r152_16 rfl rfl rfl ?_
  obtain ⟨D3, e4, h⟩ := am_ltE h
  refine x_call0 (as := [.ref 4, .ref 50]) (rest := []) r152_19 rfl rfl rfl (by decide) (Nat.le_of_ble_eq_true rfl) (am_rows_copy (n := 28) (m := 28) rfl rfl (by decide) (by decide) e4) (Nat.le_trans (by decide) hd) (Nat.zero_le _) (Nat.zero_le _) rfl ?_
  refine x_ld (v := .ref 2) r152_22 rfl rfl rfl ?_
  refine y_gf (cd := 7) (v := .ref 5) r152_23 rfl rfl rfl ?_
  refine x_ld (v := .ref 48) r152_26 rfl rfl rfl ?_
  refine y_gf (cd := 53) (v := .ref 51) r152_27 rfl rfl rfl ?_
  obtain ⟨D5, e6, h⟩ := am_ltE h
  refine x_call0 (as := [.ref 5, .ref 51]) (rest := []) r152_30 rfl rfl rfl (by decide) (Nat.le_of_ble_eq_true rfl) (am_rows_copy (n := 28) (m := 28) rfl rfl (by decide) (by decide) e6) (Nat.le_trans (by decide) hd) (Nat.zero_le _) (Nat.zero_le _) rfl ?_
  refine x_ld (v := .ref 2) r152_33 rfl rfl rfl ?_
  refine y_gf (cd := 8) (v := .ref 6) r152_34 rfl rfl rfl ?_
  refine x_ld (v := .ref 48) r152_37 rfl rfl rfl ?_
  refine y_gf (cd := 54) (v := .ref 52) r152_38 rfl rfl rfl ?_
  obtain ⟨D7, e8, h⟩ := am_ltE h
  refine x_call0 (as := [.ref 6, .ref 52]) (rest := []) r152_41 rfl rfl rfl (by decide) (Nat.le_of_ble_eq_true rfl) (am_rows_copy (n := 28) (m := 28) rfl rfl (by decide) (by decide) e8) (Nat.le_trans (by decide) hd) (Nat.zero_le _) (Nat.zero_le _) rfl ?_
  refine x_ld (v := .ref 48) r152_44 rfl rfl rfl ?_
  refine x_ld (v := .ref 2) r152_45 rfl rfl rfl ?_
  refine y_gf (cd := 0) (v := .int (D7.1 2 4)) r152_46 rfl rfl rfl ?_
  obtain ⟨D9, e10, h⟩ := am_ltE h
  refine y_pf0 r152_49 rfl e10 rfl ?_
  refine x_ld (v := .ref 48) r152_52 rfl rfl rfl ?_
  refine x_ld (v := .ref 2) r152_53 rfl rfl rfl ?_
  refine y_gf (cd := 0) (v := .int (D9.1 2 5)) r152_54 rfl rfl rfl ?_
  obtain ⟨D11, e12, h⟩ := am_ltE h
  refine y_pf0 r152_57 rfl e12 rfl ?_
  refine x_ld (v := .ref 48) r152_60 rfl rfl rfl ?_
  refine x_ld (v := .ref 2) r152_61 rfl rfl rfl ?_
  refine y_gf (cd := 0) (v := .int (D11.1 2 6)) r152_62 rfl rfl rfl ?_
  obtain ⟨D13, e14, h⟩ := am_ltE h
  refine y_pf0 r152_65 rfl e14 rfl ?_
  subst h
  exact x_ret (ret := none) (C := True) (v := none) r152_68 rt152 rfl rfl rfl rfl rfl rfl rfl rfl trivial hQ
theorem m152_48_2_ok {D : am_D} {r : am_D} (h : m152_48_2 D = r) : am_Y xs L 152 2 0 0 [.ref 48, .ref 2] D (.inl none) r := am_Yof (mi := am_m152) (lc := [.ref 48, .ref 2]) pg152 (Nat.le_of_ble_eq_true rfl) (am_rc1 (ci := 0) rfl rfl rfl rfl rfl) rfl (fun Q hQ => m152_48_2_w (Nat.le_refl _) h hQ)
theorem m202_47_1_w {d mc ms : Nat} {D : am_D} {Q : am_O → am_AH → Prop} (hd : 3 ≤ d) {r : am_D} (h : m202_47_1 D = r) (hQ : Q (.inl none) (am_mk r)) : am_X xs L 202 d mc ms 0 [.ref 47, .ref 1] [] (am_mk D) 0 0 Q := by
  unfold m202_47_1 at h
  refine x_ld (v := .ref 47) r202_0 rfl rfl rfl ?_
  refine y_gf (cd := 50) (v := .ref 48) r202_1 rfl rfl rfl ?_
  refine x_ld (v := .ref 1) r202_4 rfl rfl rfl ?_
  refine y_gf (cd := 4) (v := .ref 2) r202_5 rfl rfl rfl ?_
  obtain ⟨q1, h2, h⟩ := am_ltE h
  replace h2 := h2.symm
  refine x_call0 (as := [.ref 48, .ref 2]) (rest := []) r202_8 rfl rfl rfl (by decide) (Nat.le_of_ble_eq_true rfl) (m152_48_2_ok h2) (Nat.le_trans (by decide) hd) (Nat.zero_le _) (Nat.zero_le _) rfl ?_
  refine x_ld (v := .ref 1) r202_11 rfl rfl rfl ?_
  refine y_gf (cd := 9) (v := .ref 7) r202_12 rfl rfl rfl ?_
  refine x_ld (v := .ref 47) r202_15 rfl rfl rfl ?_
  refine y_gf (cd := 55) (v := .ref 53) r202_16 rfl rfl rfl ?_
  obtain ⟨D3, e4, h⟩ := am_ltE h
  refine x_call0 (as := [.ref 7, .ref 53]) (rest := []) r202_19 rfl rfl rfl (by decide) (Nat.le_of_ble_eq_true rfl) (am_rows_copy (n := 28) (m := 28) rfl rfl (by decide) (by decide) e4) (Nat.le_trans (by decide) hd) (Nat.zero_le _) (Nat.zero_le _) rfl ?_
  refine x_ld (v := .ref 1) r202_22 rfl rfl rfl ?_
  refine y_gf (cd := 10) (v := .ref 8) r202_23 rfl rfl rfl ?_
  refine x_ld (v := .ref 47) r202_26 rfl rfl rfl ?_
  refine y_gf (cd := 56) (v := .ref 54) r202_27 rfl rfl rfl ?_
  obtain ⟨D5, e6, h⟩ := am_ltE h
  refine x_call0 (as := [.ref 8, .ref 54]) (rest := []) r202_30 rfl rfl rfl (by decide) (Nat.le_of_ble_eq_true rfl) (am_rows_copy (n := 4) (m := 4) rfl rfl (by decide) (by decide) e6) (Nat.le_trans (by decide) hd) (Nat.zero_le _) (Nat.zero_le _) rfl ?_
  refine x_ld (v := .ref 1) r202_33 rfl rfl rfl ?_
  refine y_gf (cd := 11) (v := .ref 9) r202_34 rfl rfl rfl ?_
  refine x_ld (v := .ref 47) r202_37 rfl rfl rfl ?_
  refine y_gf (cd := 57) (v := .ref 55) r202_38 rfl rfl rfl ?_
  obtain ⟨D7, e8, h⟩ := am_ltE h
  refine x_call0 (as := [.ref 9, .ref 55]) (rest := []) r202_41 rfl rfl rfl (by decide) (Nat.le_of_ble_eq_true rfl) (am_rows_copy (n := 4) (m := 4) rfl rfl (by decide) (by decide) e8) (Nat.le_trans (by decide) hd) (Nat.zero_le _) (Nat.zero_le _) rfl ?_
  refine x_ld (v := .ref 1) r202_44 rfl rfl rfl ?_
  refine y_gf (cd := 12) (v := .ref 10) r202_45 rfl rfl rfl ?_
  refine x_ld (v := .ref 47) r202_48 rfl rfl rfl ?_
  refine y_gf (cd := 58) (v := .ref 56) r202_49 rfl rfl rfl ?_
  obtain ⟨D9, e10, h⟩ := am_ltE h
  refine x_call0 (as := [.ref 10, .ref 56]) (rest := []) r202_52 rfl rfl rfl (by decide) (Nat.le_of_ble_eq_true rfl) (am_rows_copy (n := 4) (m := 4) rfl rfl (by decide) (by decide) e10) (Nat.le_trans (by decide) hd) (Nat.zero_le _) (Nat.zero_le _) rfl ?_
  refine x_ld (v := .ref 1) r202_55 rfl rfl rfl ?_
  refine y_gf (cd := 13) (v := .ref 11) r202_56 rfl rfl rfl ?_
  refine x_ld (v := .ref 47) r202_59 rfl rfl rfl ?_
  refine y_gf (cd := 59) (v := .ref 57) r202_60 rfl rfl rfl ?_
  obtain ⟨D11, e12, h⟩ := am_ltE h
  refine x_call0 (as := [.ref 11, .ref 57]) (rest := []) r202_63 rfl rfl rfl (by decide) (Nat.le_of_ble_eq_true rfl) (am_rows_copy (n := 2) (m := 2) rfl rfl (by decide) (by decide) e12) (Nat.le_trans (by decide) hd) (Nat.zero_le _) (Nat.zero_le _) rfl ?_
  refine x_ld (v := .ref 47) r202_66 rfl rfl rfl ?_
  refine x_ld (v := .ref 1) r202_67 rfl rfl rfl ?_
  refine y_gf (cd := 0) (v := .int (D11.1 1 6)) r202_68 rfl rfl rfl ?_
  obtain ⟨D13, e14, h⟩ := am_ltE h
  refine y_pf0 r202_71 rfl e14 rfl ?_
  refine x_ld (v := .ref 47) r202_74 rfl rfl rfl ?_
  refine x_ld (v := .ref 1) r202_75 rfl rfl rfl ?_
  refine y_gf (cd := 0) (v := .int (D13.1 1 7)) r202_76 rfl rfl rfl ?_
  obtain ⟨D15, e16, h⟩ := am_ltE h
  refine y_pf0 r202_79 rfl e16 rfl ?_
  refine x_ld (v := .ref 47) r202_82 rfl rfl rfl ?_
  refine x_ld (v := .ref 1) r202_83 rfl rfl rfl ?_
  refine y_gf (cd := 0) (v := .int (D15.1 1 8)) r202_84 rfl rfl rfl ?_
  obtain ⟨D17, e18, h⟩ := am_ltE h
  refine y_pf0 r202_87 rfl e18 rfl ?_
  refine x_ld (v := .ref 47) r202_90 rfl rfl rfl ?_
  refine x_ld (v := .ref 1) r202_91 rfl rfl rfl ?_
  refine y_gf (cd := 0) (v := .int (D17.1 1 9)) r202_92 rfl rfl rfl ?_
  obtain ⟨D19, e20, h⟩ := am_ltE h
  refine y_pf0 r202_95 rfl e20 rfl ?_
  refine x_ld (v := .ref 47) r202_98 rfl rfl rfl ?_
  refine x_ld (v := .ref 1) r202_99 rfl rfl rfl ?_
  refine y_gf (cd := 0) (v := .int (D19.1 1 10)) r202_100 rfl rfl rfl ?_
  obtain ⟨D21, e22, h⟩ := am_ltE h
  refine y_pf0 r202_103 rfl e22 rfl ?_
  refine x_ld (v := .ref 47) r202_106 rfl rfl rfl ?_
  refine x_ld (v := .ref 1) r202_107 rfl rfl rfl ?_
  refine y_gf (cd := 0) (v := .int (D21.1 1 11)) r202_108 rfl rfl rfl ?_
  obtain ⟨D23, e24, h⟩ := am_ltE h
  refine y_pf0 r202_111 rfl e24 rfl ?_
  refine x_ld (v := .ref 47) r202_114 rfl rfl rfl ?_
  refine x_ld (v := .ref 1) r202_115 rfl rfl rfl ?_
  refine y_gf (cd := 0) (v := .int (D23.1 1 12)) r202_116 rfl rfl rfl ?_
  obtain ⟨D25, e26, h⟩ := am_ltE h
  refine y_pf0 r202_119 rfl e26 rfl ?_
  refine x_ld (v := .ref 47) r202_122 rfl rfl rfl ?_
  refine x_ld (v := .ref 1) r202_123 rfl rfl rfl ?_
  refine y_gf (cd := 0) (v := .int (D25.1 1 13)) r202_124 rfl rfl rfl ?_
  obtain ⟨D27, e28, h⟩ := am_ltE h
  refine y_pf0 r202_127 rfl e28 rfl ?_
  refine x_ld (v := .ref 47) r202_130 rfl rfl rfl ?_
  refine x_ld (v := .ref 1) r202_131 rfl rfl rfl ?_
  refine y_gf (cd := 0) (v := .int (D27.1 1 14)) r202_132 rfl rfl rfl ?_
  obtain ⟨D29, e30, h⟩ := am_ltE h
  refine y_pf0 r202_135 rfl e30 rfl ?_
  refine x_ld (v := .ref 47) r202_138 rfl rfl rfl ?_
  refine x_ld (v := .ref 1) r202_139 rfl rfl rfl ?_
  refine y_gf (cd := 0) (v := .int (D29.1 1 15)) r202_140 rfl rfl rfl ?_
  obtain ⟨D31, e32, h⟩ := am_ltE h
  refine y_pf0 r202_143 rfl e32 rfl ?_
  subst h
  exact x_ret (ret := none) (C := True) (v := none) r202_146 rt202 rfl rfl rfl rfl rfl rfl rfl rfl trivial hQ
theorem m202_47_1_ok {D : am_D} {r : am_D} (h : m202_47_1 D = r) : am_Y xs L 202 3 0 0 [.ref 47, .ref 1] D (.inl none) r := am_Yof (mi := am_m202) (lc := [.ref 47, .ref 1]) pg202 (Nat.le_of_ble_eq_true rfl) (am_rc1 (ci := 4) rfl rfl rfl rfl rfl) rfl (fun Q hQ => m202_47_1_w (Nat.le_refl _) h hQ)
theorem m152_59_2_w {d mc ms : Nat} {D : am_D} {Q : am_O → am_AH → Prop} (hd : 2 ≤ d) {r : am_D} (h : m152_59_2 D = r) (hQ : Q (.inl none) (am_mk r)) : am_X xs L 152 d mc ms 0 [.ref 59, .ref 2] [] (am_mk D) 0 0 Q := by
  unfold m152_59_2 at h
  refine x_ld (v := .ref 2) r152_0 rfl rfl rfl ?_
  refine y_gf (cd := 5) (v := .ref 3) r152_1 rfl rfl rfl ?_
  refine x_ld (v := .ref 59) r152_4 rfl rfl rfl ?_
  refine y_gf (cd := 62) (v := .ref 60) r152_5 rfl rfl rfl ?_
  obtain ⟨D1, e2, h⟩ := am_ltE h
  refine x_call0 (as := [.ref 3, .ref 60]) (rest := []) r152_8 rfl rfl rfl (by decide) (Nat.le_of_ble_eq_true rfl) (am_rows_copy (n := 28) (m := 28) rfl rfl (by decide) (by decide) e2) (Nat.le_trans (by decide) hd) (Nat.zero_le _) (Nat.zero_le _) rfl ?_
  refine x_ld (v := .ref 2) r152_11 rfl rfl rfl ?_
  refine y_gf (cd := 6) (v := .ref 4) r152_12 rfl rfl rfl ?_
  refine x_ld (v := .ref 59) r152_15 rfl rfl rfl ?_
  refine y_gf (cd := 63) (v := .ref 61) r152_16 rfl rfl rfl ?_
  obtain ⟨D3, e4, h⟩ := am_ltE h
  refine x_call0 (as := [.ref 4, .ref 61]) (rest := []) r152_19 rfl rfl rfl (by decide) (Nat.le_of_ble_eq_true rfl) (am_rows_copy (n := 28) (m := 28) rfl rfl (by decide) (by decide) e4) (Nat.le_trans (by decide) hd) (Nat.zero_le _) (Nat.zero_le _) rfl ?_
  refine x_ld (v := .ref 2) r152_22 rfl rfl rfl ?_
  refine y_gf (cd := 7) (v := .ref 5) r152_23 rfl rfl rfl ?_
  refine x_ld (v := .ref 59) r152_26 rfl rfl rfl ?_
  refine y_gf (cd := 64) (v := .ref 62) r152_27 rfl rfl rfl ?_
  obtain ⟨D5, e6, h⟩ := am_ltE h
  refine x_call0 (as := [.ref 5, .ref 62]) (rest := []) r152_30 rfl rfl rfl (by decide) (Nat.le_of_ble_eq_true rfl) (am_rows_copy (n := 28) (m := 28) rfl rfl (by decide) (by decide) e6) (Nat.le_trans (by decide) hd) (Nat.zero_le _) (Nat.zero_le _) rfl ?_
  refine x_ld (v := .ref 2) r152_33 rfl rfl rfl ?_
  refine y_gf (cd := 8) (v := .ref 6) r152_34 rfl rfl rfl ?_
  refine x_ld (v := .ref 59) r152_37 rfl rfl rfl ?_
  refine y_gf (cd := 65) (v := .ref 63) r152_38 rfl rfl rfl ?_
  obtain ⟨D7, e8, h⟩ := am_ltE h
  refine x_call0 (as := [.ref 6, .ref 63]) (rest := []) r152_41 rfl rfl rfl (by decide) (Nat.le_of_ble_eq_true rfl) (am_rows_copy (n := 28) (m := 28) rfl rfl (by decide) (by decide) e8) (Nat.le_trans (by decide) hd) (Nat.zero_le _) (Nat.zero_le _) rfl ?_
  refine x_ld (v := .ref 59) r152_44 rfl rfl rfl ?_
  refine x_ld (v := .ref 2) r152_45 rfl rfl rfl ?_
  refine y_gf (cd := 0) (v := .int (D7.1 2 4)) r152_46 rfl rfl rfl ?_
  obtain ⟨D9, e10, h⟩ := am_ltE h
  refine y_pf0 r152_49 rfl e10 rfl ?_
  refine x_ld (v := .ref 59) r152_52 rfl rfl rfl ?_
  refine x_ld (v := .ref 2) r152_53 rfl rfl rfl ?_
  refine y_gf (cd := 0) (v := .int (D9.1 2 5)) r152_54 rfl rfl rfl ?_
  obtain ⟨D11, e12, h⟩ := am_ltE h
  refine y_pf0 r152_57 rfl e12 rfl ?_
  refine x_ld (v := .ref 59) r152_60 rfl rfl rfl ?_
  refine x_ld (v := .ref 2) r152_61 rfl rfl rfl ?_
  refine y_gf (cd := 0) (v := .int (D11.1 2 6)) r152_62 rfl rfl rfl ?_
  obtain ⟨D13, e14, h⟩ := am_ltE h
  refine y_pf0 r152_65 rfl e14 rfl ?_
  subst h
  exact x_ret (ret := none) (C := True) (v := none) r152_68 rt152 rfl rfl rfl rfl rfl rfl rfl rfl trivial hQ
theorem m152_59_2_ok {D : am_D} {r : am_D} (h : m152_59_2 D = r) : am_Y xs L 152 2 0 0 [.ref 59, .ref 2] D (.inl none) r := am_Yof (mi := am_m152) (lc := [.ref 59, .ref 2]) pg152 (Nat.le_of_ble_eq_true rfl) (am_rc1 (ci := 0) rfl rfl rfl rfl rfl) rfl (fun Q hQ => m152_59_2_w (Nat.le_refl _) h hQ)
theorem m202_58_1_w {d mc ms : Nat} {D : am_D} {Q : am_O → am_AH → Prop} (hd : 3 ≤ d) {r : am_D} (h : m202_58_1 D = r) (hQ : Q (.inl none) (am_mk r)) : am_X xs L 202 d mc ms 0 [.ref 58, .ref 1] [] (am_mk D) 0 0 Q := by
  unfold m202_58_1 at h
  refine x_ld (v := .ref 58) r202_0 rfl rfl rfl ?_
  refine y_gf (cd := 61) (v := .ref 59) r202_1 rfl rfl rfl ?_
  refine x_ld (v := .ref 1) r202_4 rfl rfl rfl ?_
  refine y_gf (cd := 4) (v := .ref 2) r202_5 rfl rfl rfl ?_
  obtain ⟨q1, h2, h⟩ := am_ltE h
  replace h2 := h2.symm
  refine x_call0 (as := [.ref 59, .ref 2]) (rest := []) r202_8 rfl rfl rfl (by decide) (Nat.le_of_ble_eq_true rfl) (m152_59_2_ok h2) (Nat.le_trans (by decide) hd) (Nat.zero_le _) (Nat.zero_le _) rfl ?_
  refine x_ld (v := .ref 1) r202_11 rfl rfl rfl ?_
  refine y_gf (cd := 9) (v := .ref 7) r202_12 rfl rfl rfl ?_
  refine x_ld (v := .ref 58) r202_15 rfl rfl rfl ?_
  refine y_gf (cd := 66) (v := .ref 64) r202_16 rfl rfl rfl ?_
  obtain ⟨D3, e4, h⟩ := am_ltE h
  refine x_call0 (as := [.ref 7, .ref 64]) (rest := []) r202_19 rfl rfl rfl (by decide) (Nat.le_of_ble_eq_true rfl) (am_rows_copy (n := 28) (m := 28) rfl rfl (by decide) (by decide) e4) (Nat.le_trans (by decide) hd) (Nat.zero_le _) (Nat.zero_le _) rfl ?_
  refine x_ld (v := .ref 1) r202_22 rfl rfl rfl ?_
  refine y_gf (cd := 10) (v := .ref 8) r202_23 rfl rfl rfl ?_
  refine x_ld (v := .ref 58) r202_26 rfl rfl rfl ?_
  refine y_gf (cd := 67) (v := .ref 65) r202_27 rfl rfl rfl ?_
  obtain ⟨D5, e6, h⟩ := am_ltE h
  refine x_call0 (as := [.ref 8, .ref 65]) (rest := []) r202_30 rfl rfl rfl (by decide) (Nat.le_of_ble_eq_true rfl) (am_rows_copy (n := 4) (m := 4) rfl rfl (by decide) (by decide) e6) (Nat.le_trans (by decide) hd) (Nat.zero_le _) (Nat.zero_le _) rfl ?_
  refine x_ld (v := .ref 1) r202_33 rfl rfl rfl ?_
  refine y_gf (cd := 11) (v := .ref 9) r202_34 rfl rfl rfl ?_
  refine x_ld (v := .ref 58) r202_37 rfl rfl rfl ?_
  refine y_gf (cd := 68) (v := .ref 66) r202_38 rfl rfl rfl ?_
  obtain ⟨D7, e8, h⟩ := am_ltE h
  refine x_call0 (as := [.ref 9, .ref 66]) (rest := []) r202_41 rfl rfl rfl (by decide) (Nat.le_of_ble_eq_true rfl) (am_rows_copy (n := 4) (m := 4) rfl rfl (by decide) (by decide) e8) (Nat.le_trans (by decide) hd) (Nat.zero_le _) (Nat.zero_le _) rfl ?_
  refine x_ld (v := .ref 1) r202_44 rfl rfl rfl ?_
  refine y_gf (cd := 12) (v := .ref 10) r202_45 rfl rfl rfl ?_
  refine x_ld (v := .ref 58) r202_48 rfl rfl rfl ?_
  refine y_gf (cd := 69) (v := .ref 67) r202_49 rfl rfl rfl ?_
  obtain ⟨D9, e10, h⟩ := am_ltE h
  refine x_call0 (as := [.ref 10, .ref 67]) (rest := []) r202_52 rfl rfl rfl (by decide) (Nat.le_of_ble_eq_true rfl) (am_rows_copy (n := 4) (m := 4) rfl rfl (by decide) (by decide) e10) (Nat.le_trans (by decide) hd) (Nat.zero_le _) (Nat.zero_le _) rfl ?_
  refine x_ld (v := .ref 1) r202_55 rfl rfl rfl ?_
  refine y_gf (cd := 13) (v := .ref 11) r202_56 rfl rfl rfl ?_
  refine x_ld (v := .ref 58) r202_59 rfl rfl rfl ?_
  refine y_gf (cd := 70) (v := .ref 68) r202_60 rfl rfl rfl ?_
  obtain ⟨D11, e12, h⟩ := am_ltE h
  refine x_call0 (as := [.ref 11, .ref 68]) (rest := []) r202_63 rfl rfl rfl (by decide) (Nat.le_of_ble_eq_true rfl) (am_rows_copy (n := 2) (m := 2) rfl rfl (by decide) (by decide) e12) (Nat.le_trans (by decide) hd) (Nat.zero_le _) (Nat.zero_le _) rfl ?_
  refine x_ld (v := .ref 58) r202_66 rfl rfl rfl ?_
  refine x_ld (v := .ref 1) r202_67 rfl rfl rfl ?_
  refine y_gf (cd := 0) (v := .int (D11.1 1 6)) r202_68 rfl rfl rfl ?_
  obtain ⟨D13, e14, h⟩ := am_ltE h
  refine y_pf0 r202_71 rfl e14 rfl ?_
  refine x_ld (v := .ref 58) r202_74 rfl rfl rfl ?_
  refine x_ld (v := .ref 1) r202_75 rfl rfl rfl ?_
  refine y_gf (cd := 0) (v := .int (D13.1 1 7)) r202_76 rfl rfl rfl ?_
  obtain ⟨D15, e16, h⟩ := am_ltE h
  refine y_pf0 r202_79 rfl e16 rfl ?_
  refine x_ld (v := .ref 58) r202_82 rfl rfl rfl ?_
  refine x_ld (v := .ref 1) r202_83 rfl rfl rfl ?_
  refine y_gf (cd := 0) (v := .int (D15.1 1 8)) r202_84 rfl rfl rfl ?_
  obtain ⟨D17, e18, h⟩ := am_ltE h
  refine y_pf0 r202_87 rfl e18 rfl ?_
  refine x_ld (v := .ref 58) r202_90 rfl rfl rfl ?_
  refine x_ld (v := .ref 1) r202_91 rfl rfl rfl ?_
  refine y_gf (cd := 0) (v := .int (D17.1 1 9)) r202_92 rfl rfl rfl ?_
  obtain ⟨D19, e20, h⟩ := am_ltE h
  refine y_pf0 r202_95 rfl e20 rfl ?_
  refine x_ld (v := .ref 58) r202_98 rfl rfl rfl ?_
  refine x_ld (v := .ref 1) r202_99 rfl rfl rfl ?_
  refine y_gf (cd := 0) (v := .int (D19.1 1 10)) r202_100 rfl rfl rfl ?_
  obtain ⟨D21, e22, h⟩ := am_ltE h
  refine y_pf0 r202_103 rfl e22 rfl ?_
  refine x_ld (v := .ref 58) r202_106 rfl rfl rfl ?_
  refine x_ld (v := .ref 1) r202_107 rfl rfl rfl ?_
  refine y_gf (cd := 0) (v := .int (D21.1 1 11)) r202_108 rfl rfl rfl ?_
  obtain ⟨D23, e24, h⟩ := am_ltE h
  refine y_pf0 r202_111 rfl e24 rfl ?_
  refine x_ld (v := .ref 58) r202_114 rfl rfl rfl ?_
  refine x_ld (v := .ref 1) r202_115 rfl rfl rfl ?_
  refine y_gf (cd := 0) (v := .int (D23.1 1 12)) r202_116 rfl rfl rfl ?_
  obtain ⟨D25, e26, h⟩ := am_ltE h
  refine y_pf0 r202_119 rfl e26 rfl ?_
  refine x_ld (v := .ref 58) r202_122 rfl rfl rfl ?_
  refine x_ld (v := .ref 1) r202_123 rfl rfl rfl ?_
  refine y_gf (cd := 0) (v := .int (D25.1 1 13)) r202_124 rfl rfl rfl ?_
  obtain ⟨D27, e28, h⟩ := am_ltE h
  refine y_pf0 r202_127 rfl e28 rfl ?_
  refine x_ld (v := .ref 58) r202_130 rfl rfl rfl ?_
  refine x_ld (v := .ref 1) r202_131 rfl rfl rfl ?_
  refine y_gf (cd := 0) (v := .int (D27.1 1 14)) r202_132 rfl rfl rfl ?_
  obtain ⟨D29, e30, h⟩ := am_ltE h
  refine y_pf0 r202_135 rfl e30 rfl ?_
  refine x_ld (v := .ref 58) r202_138 rfl rfl rfl ?_
  refine x_ld (v := .ref 1) r202_139 rfl rfl rfl ?_
  refine y_gf (cd := 0) (v := .int (D29.1 1 15)) r202_140 rfl rfl rfl ?_
  obtain ⟨D31, e32, h⟩ := am_ltE h
  refine y_pf0 r202_143 rfl e32 rfl ?_
  subst h
  exact x_ret (ret := none) (C := True) (v := none) r202_146 rt202 rfl rfl rfl rfl rfl rfl rfl rfl trivial hQ
theorem m202_58_1_ok {D : am_D} {r : am_D} (h : m202_58_1 D = r) : am_Y xs L 202 3 0 0 [.ref 58, .ref 1] D (.inl none) r := am_Yof (mi := am_m202) (lc := [.ref 58, .ref 1]) pg202 (Nat.le_of_ble_eq_true rfl) (am_rc1 (ci := 4) rfl rfl rfl rfl rfl) rfl (fun Q hQ => m202_58_1_w (Nat.le_refl _) h hQ)
theorem m152_70_2_w {d mc ms : Nat} {D : am_D} {Q : am_O → am_AH → Prop} (hd : 2 ≤ d) {r : am_D} (h : m152_70_2 D = r) (hQ : Q (.inl none) (am_mk r)) : am_X xs L 152 d mc ms 0 [.ref 70, .ref 2] [] (am_mk D) 0 0 Q := by
  unfold m152_70_2 at h
  refine x_ld (v := .ref 2) r152_0 rfl rfl rfl ?_
  refine y_gf (cd := 5) (v := .ref 3) r152_1 rfl rfl rfl ?_
  refine x_ld (v := .ref 70) r152_4 rfl rfl rfl ?_
  refine y_gf (cd := 73) (v := .ref 71) r152_5 rfl rfl rfl ?_
  obtain ⟨D1, e2, h⟩ := am_ltE h
  refine x_call0 (as := [.ref 3, .ref 71]) (rest := []) r152_8 rfl rfl rfl (by decide) (Nat.le_of_ble_eq_true rfl) (am_rows_copy (n := 28) (m := 28) rfl rfl (by decide) (by decide) e2) (Nat.le_trans (by decide) hd) (Nat.zero_le _) (Nat.zero_le _) rfl ?_
  refine x_ld (v := .ref 2) r152_11 rfl rfl rfl ?_
  refine y_gf (cd := 6) (v := .ref 4) r152_12 rfl rfl rfl ?_
  refine x_ld (v := .ref 70) r152_15 rfl rfl rfl ?_
  refine y_gf (cd := 74) (v := .ref 72) r152_16 rfl rfl rfl ?_
  obtain ⟨D3, e4, h⟩ := am_ltE h
  refine x_call0 (as := [.ref 4, .ref 72]) (rest := []) r152_19 rfl rfl rfl (by decide) (Nat.le_of_ble_eq_true rfl) (am_rows_copy (n := 28) (m := 28) rfl rfl (by decide) (by decide) e4) (Nat.le_trans (by decide) hd) (Nat.zero_le _) (Nat.zero_le _) rfl ?_
  refine x_ld (v := .ref 2) r152_22 rfl rfl rfl ?_
  refine y_gf (cd := 7) (v := .ref 5) r152_23 rfl rfl rfl ?_
  refine x_ld (v := .ref 70) r152_26 rfl rfl rfl ?_
  refine y_gf (cd := 75) (v := .ref 73) r152_27 rfl rfl rfl ?_
  obtain ⟨D5, e6, h⟩ := am_ltE h
  refine x_call0 (as := [.ref 5, .ref 73]) (rest := []) r152_30 rfl rfl rfl (by decide) (Nat.le_of_ble_eq_true rfl) (am_rows_copy (n := 28) (m := 28) rfl rfl (by decide) (by decide) e6) (Nat.le_trans (by decide) hd) (Nat.zero_le _) (Nat.zero_le _) rfl ?_
  refine x_ld (v := .ref 2) r152_33 rfl rfl rfl ?_
  refine y_gf (cd := 8) (v := .ref 6) r152_34 rfl rfl rfl ?_
  refine x_ld (v := .ref 70) r152_37 rfl rfl rfl ?_
  refine y_gf (cd := 76) (v := .ref 74) r152_38 rfl rfl rfl ?_
  obtain ⟨D7, e8, h⟩ := am_ltE h
  refine x_call0 (as := [.ref 6, .ref 74]) (rest := []) r152_41 rfl rfl rfl (by decide) (Nat.le_of_ble_eq_true rfl) (am_rows_copy (n := 28) (m := 28) rfl rfl (by decide) (by decide) e8) (Nat.le_trans (by decide) hd) (Nat.zero_le _) (Nat.zero_le _) rfl ?_
  refine x_ld (v := .ref 70) r152_44 rfl rfl rfl ?_
  refine x_ld (v := .ref 2) r152_45 rfl rfl rfl ?_
  refine y_gf (cd := 0) (v := .int (D7.1 2 4)) r152_46 rfl rfl rfl ?_
  obtain ⟨D9, e10, h⟩ := am_ltE h
  refine y_pf0 r152_49 rfl e10 rfl ?_
  refine x_ld (v := .ref 70) r152_52 rfl rfl rfl ?_
  refine x_ld (v := .ref 2) r152_53 rfl rfl rfl ?_
  refine y_gf (cd := 0) (v := .int (D9.1 2 5)) r152_54 rfl rfl rfl ?_
  obtain ⟨D11, e12, h⟩ := am_ltE h
  refine y_pf0 r152_57 rfl e12 rfl ?_
  refine x_ld (v := .ref 70) r152_60 rfl rfl rfl ?_
  refine x_ld (v := .ref 2) r152_61 rfl rfl rfl ?_
  refine y_gf (cd := 0) (v := .int (D11.1 2 6)) r152_62 rfl rfl rfl ?_
  obtain ⟨D13, e14, h⟩ := am_ltE h
  refine y_pf0 r152_65 rfl e14 rfl ?_
  subst h
  exact x_ret (ret := none) (C := True) (v := none) r152_68 rt152 rfl rfl rfl rfl rfl rfl rfl rfl trivial hQ
theorem m152_70_2_ok {D : am_D} {r : am_D} (h : m152_70_2 D = r) : am_Y xs L 152 2 0 0 [.ref 70, .ref 2] D (.inl none) r := am_Yof (mi := am_m152) (lc := [.ref 70, .ref 2]) pg152 (Nat.le_of_ble_eq_true rfl) (am_rc1 (ci := 0) rfl rfl rfl rfl rfl) rfl (fun Q hQ => m152_70_2_w (Nat.le_refl _) h hQ)
theorem m202_69_1_w {d mc ms : Nat} {D : am_D} {Q : am_O → am_AH → Prop} (hd : 3 ≤ d) {r : am_D} (h : m202_69_1 D = r) (hQ : Q (.inl none) (am_mk r)) : am_X xs L 202 d mc ms 0 [.ref 69, .ref 1] [] (am_mk D) 0 0 Q := by
  unfold m202_69_1 at h
  refine x_ld (v := .ref 69) r202_0 rfl rfl rfl ?_
  refine y_gf (cd := 72) (v := .ref 70) r202_1 rfl rfl rfl ?_
  refine x_ld (v := .ref 1) r202_4 rfl rfl rfl ?_
  refine y_gf (cd := 4) (v := .ref 2) r202_5 rfl rfl rfl ?_
  obtain ⟨q1, h2, h⟩ := am_ltE h
  replace h2 := h2.symm
  refine x_call0 (as := [.ref 70, .ref 2]) (rest := []) r202_8 rfl rfl rfl (by decide) (Nat.le_of_ble_eq_true rfl) (m152_70_2_ok h2) (Nat.le_trans (by decide) hd) (Nat.zero_le _) (Nat.zero_le _) rfl ?_
  refine x_ld (v := .ref 1) r202_11 rfl rfl rfl ?_
  refine y_gf (cd := 9) (v := .ref 7) r202_12 rfl rfl rfl ?_
  refine x_ld (v := .ref 69) r202_15 rfl rfl rfl ?_
  refine y_gf (cd := 77) (v := .ref 75) r202_16 rfl rfl rfl ?_
  obtain ⟨D3, e4, h⟩ := am_ltE h
  refine x_call0 (as := [.ref 7, .ref 75]) (rest := []) r202_19 rfl rfl rfl (by decide) (Nat.le_of_ble_eq_true rfl) (am_rows_copy (n := 28) (m := 28) rfl rfl (by decide) (by decide) e4) (Nat.le_trans (by decide) hd) (Nat.zero_le _) (Nat.zero_le _) rfl ?_
  refine x_ld (v := .ref 1) r202_22 rfl rfl rfl ?_
  refine y_gf (cd := 10) (v := .ref 8) r202_23 rfl rfl rfl ?_
  refine x_ld (v := .ref 69) r202_26 rfl rfl rfl ?_
  refine y_gf (cd := 78) (v := .ref 76) r202_27 rfl rfl rfl ?_
  obtain ⟨D5, e6, h⟩ := am_ltE h
  refine x_call0 (as := [.ref 8, .ref 76]) (rest := []) r202_30 rfl rfl rfl (by decide) (Nat.le_of_ble_eq_true rfl) (am_rows_copy (n := 4) (m := 4) rfl rfl (by decide) (by decide) e6) (Nat.le_trans (by decide) hd) (Nat.zero_le _) (Nat.zero_le _) rfl ?_
  refine x_ld (v := .ref 1) r202_33 rfl rfl rfl ?_
  refine y_gf (cd := 11) (v := .ref 9) r202_34 rfl rfl rfl ?_
  refine x_ld (v := .ref 69) r202_37 rfl rfl rfl ?_
  refine y_gf (cd := 79) (v := .ref 77) r202_38 rfl rfl rfl ?_
  obtain ⟨D7, e8, h⟩ := am_ltE h
  refine x_call0 (as := [.ref 9, .ref 77]) (rest := []) r202_41 rfl rfl rfl (by decide) (Nat.le_of_ble_eq_true rfl) (am_rows_copy (n := 4) (m := 4) rfl rfl (by decide) (by decide) e8) (Nat.le_trans (by decide) hd) (Nat.zero_le _) (Nat.zero_le _) rfl ?_
  refine x_ld (v := .ref 1) r202_44 rfl rfl rfl ?_
  refine y_gf (cd := 12) (v := .ref 10) r202_45 rfl rfl rfl ?_
  refine x_ld (v := .ref 69) r202_48 rfl rfl rfl ?_
  refine y_gf (cd := 80) (v := .ref 78) r202_49 rfl rfl rfl ?_
  obtain ⟨D9, e10, h⟩ := am_ltE h
  refine x_call0 (as := [.ref 10, .ref 78]) (rest := []) r202_52 rfl rfl rfl (by decide) (Nat.le_of_ble_eq_true rfl) (am_rows_copy (n := 4) (m := 4) rfl rfl (by decide) (by decide) e10) (Nat.le_trans (by decide) hd) (Nat.zero_le _) (Nat.zero_le _) rfl ?_
  refine x_ld (v := .ref 1) r202_55 rfl rfl rfl ?_
  refine y_gf (cd := 13) (v := .ref 11) r202_56 rfl rfl rfl ?_
  refine x_ld (v := .ref 69) r202_59 rfl rfl rfl ?_
  refine y_gf (cd := 81) (v := .ref 79) r202_60 rfl rfl rfl ?_
  obtain ⟨D11, e12, h⟩ := am_ltE h
  refine x_call0 (as := [.ref 11, .ref 79]) (rest := []) r202_63 rfl rfl rfl (by decide) (Nat.le_of_ble_eq_true rfl) (am_rows_copy (n := 2) (m := 2) rfl rfl (by decide) (by decide) e12) (Nat.le_trans (by decide) hd) (Nat.zero_le _) (Nat.zero_le _) rfl ?_
  refine x_ld (v := .ref 69) r202_66 rfl rfl rfl ?_
  refine x_ld (v := .ref 1) r202_67 rfl rfl rfl ?_
  refine y_gf (cd := 0) (v := .int (D11.1 1 6)) r202_68 rfl rfl rfl ?_
  obtain ⟨D13, e14, h⟩ := am_ltE h
  refine y_pf0 r202_71 rfl e14 rfl ?_
  refine x_ld (v := .ref 69) r202_74 rfl rfl rfl ?_
  refine x_ld (v := .ref 1) r202_75 rfl rfl rfl ?_
  refine y_gf (cd := 0) (v := .int (D13.1 1 7)) r202_76 rfl rfl rfl ?_
  obtain ⟨D15, e16, h⟩ := am_ltE h
  refine y_pf0 r202_79 rfl e16 rfl ?_
  refine x_ld (v := .ref 69) r202_82 rfl rfl rfl ?_
  refine x_ld (v := .ref 1) r202_83 rfl rfl rfl ?_
  refine y_gf (cd := 0) (v := .int (D15.1 1 8)) r202_84 rfl rfl rfl ?_
  obtain ⟨D17, e18, h⟩ := am_ltE h
  refine y_pf0 r202_87 rfl e18 rfl ?_
  refine x_ld (v := .ref 69) r202_90 rfl rfl rfl ?_
  refine x_ld (v := .ref 1) r202_91 rfl rfl rfl ?_
  refine y_gf (cd := 0) (v := .int (D17.1 1 9)) r202_92 rfl rfl rfl ?_
  obtain ⟨D19, e20, h⟩ := am_ltE h
  refine y_pf0 r202_95 rfl e20 rfl ?_
  refine x_ld (v := .ref 69) r202_98 rfl rfl rfl ?_
  refine x_ld (v := .ref 1) r202_99 rfl rfl rfl ?_
  refine y_gf (cd := 0) (v := .int (D19.1 1 10)) r202_100 rfl rfl rfl ?_
  obtain ⟨D21, e22, h⟩ := am_ltE h
  refine y_pf0 r202_103 rfl e22 rfl ?_
  refine x_ld (v := .ref 69) r202_106 rfl rfl rfl ?_
  refine x_ld (v := .ref 1) r202_107 rfl rfl rfl ?_
  refine y_gf (cd := 0) (v := .int (D21.1 1 11)) r202_108 rfl rfl rfl ?_
  obtain ⟨D23, e24, h⟩ := am_ltE h
  refine y_pf0 r202_111 rfl e24 rfl ?_
  refine x_ld (v := .ref 69) r202_114 rfl rfl rfl ?_
  refine x_ld (v := .ref 1) r202_115 rfl rfl rfl ?_
  refine y_gf (cd := 0) (v := .int (D23.1 1 12)) r202_116 rfl rfl rfl ?_
  obtain ⟨D25, e26, h⟩ := am_ltE h
  refine y_pf0 r202_119 rfl e26 rfl ?_
  refine x_ld (v := .ref 69) r202_122 rfl rfl rfl ?_
  refine x_ld (v := .ref 1) r202_123 rfl rfl rfl ?_
  refine y_gf (cd := 0) (v := .int (D25.1 1 13)) r202_124 rfl rfl rfl ?_
  obtain ⟨D27, e28, h⟩ := am_ltE h
  refine y_pf0 r202_127 rfl e28 rfl ?_
  refine x_ld (v := .ref 69) r202_130 rfl rfl rfl ?_
  refine x_ld (v := .ref 1) r202_131 rfl rfl rfl ?_
  refine y_gf (cd := 0) (v := .int (D27.1 1 14)) r202_132 rfl rfl rfl ?_
  obtain ⟨D29, e30, h⟩ := am_ltE h
  refine y_pf0 r202_135 rfl e30 rfl ?_
  refine x_ld (v := .ref 69) r202_138 rfl rfl rfl ?_
  refine x_ld (v := .ref 1) r202_139 rfl rfl rfl ?_
  refine y_gf (cd := 0) (v := .int (D29.1 1 15)) r202_140 rfl rfl rfl ?_
  obtain ⟨D31, e32, h⟩ := am_ltE h
  refine y_pf0 r202_143 rfl e32 rfl ?_
  subst h
  exact x_ret (ret := none) (C := True) (v := none) r202_146 rt202 rfl rfl rfl rfl rfl rfl rfl rfl trivial hQ
theorem m202_69_1_ok {D : am_D} {r : am_D} (h : m202_69_1 D = r) : am_Y xs L 202 3 0 0 [.ref 69, .ref 1] D (.inl none) r := am_Yof (mi := am_m202) (lc := [.ref 69, .ref 1]) pg202 (Nat.le_of_ble_eq_true rfl) (am_rc1 (ci := 4) rfl rfl rfl rfl rfl) rfl (fun Q hQ => m202_69_1_w (Nat.le_refl _) h hQ)
theorem m152_81_2_w {d mc ms : Nat} {D : am_D} {Q : am_O → am_AH → Prop} (hd : 2 ≤ d) {r : am_D} (h : m152_81_2 D = r) (hQ : Q (.inl none) (am_mk r)) : am_X xs L 152 d mc ms 0 [.ref 81, .ref 2] [] (am_mk D) 0 0 Q := by
  unfold m152_81_2 at h
  refine x_ld (v := .ref 2) r152_0 rfl rfl rfl ?_
  refine y_gf (cd := 5) (v := .ref 3) r152_1 rfl rfl rfl ?_
  refine x_ld (v := .ref 81) r152_4 rfl rfl rfl ?_
  refine y_gf (cd := 84) (v := .ref 82) r152_5 rfl rfl rfl ?_
  obtain ⟨D1, e2, h⟩ := am_ltE h
  refine x_call0 (as := [.ref 3, .ref 82]) (rest := []) r152_8 rfl rfl rfl (by decide) (Nat.le_of_ble_eq_true rfl) (am_rows_copy (n := 28) (m := 28) rfl rfl (by decide) (by decide) e2) (Nat.le_trans (by decide) hd) (Nat.zero_le _) (Nat.zero_le _) rfl ?_
  refine x_ld (v := .ref 2) r152_11 rfl rfl rfl ?_
  refine y_gf (cd := 6) (v := .ref 4) r152_12 rfl rfl rfl ?_
  refine x_ld (v := .ref 81) r152_15 rfl rfl rfl ?_
  refine y_gf (cd := 85) (v := .ref 83) r152_16 rfl rfl rfl ?_
  obtain ⟨D3, e4, h⟩ := am_ltE h
  refine x_call0 (as := [.ref 4, .ref 83]) (rest := []) r152_19 rfl rfl rfl (by decide) (Nat.le_of_ble_eq_true rfl) (am_rows_copy (n := 28) (m := 28) rfl rfl (by decide) (by decide) e4) (Nat.le_trans (by decide) hd) (Nat.zero_le _) (Nat.zero_le _) rfl ?_
  refine x_ld (v := .ref 2) r152_22 rfl rfl rfl ?_
  refine y_gf (cd := 7) (v := .ref 5) r152_23 rfl rfl rfl ?_
  refine x_ld (v := .ref 81) r152_26 rfl rfl rfl ?_
  refine y_gf (cd := 86) (v := .ref 84) r152_27 rfl rfl rfl ?_
  obtain ⟨D5, e6, h⟩ := am_ltE h
  refine x_call0 (as := [.ref 5, .ref 84]) (rest := []) r152_30 rfl rfl rfl (by decide) (Nat.le_of_ble_eq_true rfl) (am_rows_copy (n := 28) (m := 28) rfl rfl (by decide) (by decide) e6) (Nat.le_trans (by decide) hd) (Nat.zero_le _) (Nat.zero_le _) rfl ?_
  refine x_ld (v := .ref 2) r152_33 rfl rfl rfl ?_
  refine y_gf (cd := 8) (v := .ref 6) r152_34 rfl rfl rfl ?_
  refine x_ld (v := .ref 81) r152_37 rfl rfl rfl ?_
  refine y_gf (cd := 87) (v := .ref 85) r152_38 rfl rfl rfl ?_
  obtain ⟨D7, e8, h⟩ := am_ltE h
  refine x_call0 (as := [.ref 6, .ref 85]) (rest := []) r152_41 rfl rfl rfl (by decide) (Nat.le_of_ble_eq_true rfl) (am_rows_copy (n := 28) (m := 28) rfl rfl (by decide) (by decide) e8) (Nat.le_trans (by decide) hd) (Nat.zero_le _) (Nat.zero_le _) rfl ?_
  refine x_ld (v := .ref 81) r152_44 rfl rfl rfl ?_
  refine x_ld (v := .ref 2) r152_45 rfl rfl rfl ?_
  refine y_gf (cd := 0) (v := .int (D7.1 2 4)) r152_46 rfl rfl rfl ?_
  obtain ⟨D9, e10, h⟩ := am_ltE h
  refine y_pf0 r152_49 rfl e10 rfl ?_
  refine x_ld (v := .ref 81) r152_52 rfl rfl rfl ?_
  refine x_ld (v := .ref 2) r152_53 rfl rfl rfl ?_
  refine y_gf (cd := 0) (v := .int (D9.1 2 5)) r152_54 rfl rfl rfl ?_
  obtain ⟨D11, e12, h⟩ := am_ltE h
  refine y_pf0 r152_57 rfl e12 rfl ?_
  refine x_ld (v := .ref 81) r152_60 rfl rfl rfl ?_
  refine x_ld (v := .ref 2) r152_61 rfl rfl rfl ?_
  refine y_gf (cd := 0) (v := .int (D11.1 2 6)) r152_62 rfl rfl rfl ?_
  obtain ⟨D13, e14, h⟩ := am_ltE h
  refine y_pf0 r152_65 rfl e14 rfl ?_
  subst h
  exact x_ret (ret := none) (C := True) (v := none) r152_68 rt152 rfl rfl rfl rfl rfl rfl rfl rfl trivial hQ
theorem m152_81_2_ok {D : am_D} {r : am_D} (h : m152_81_2 D = r) : am_Y xs L 152 2 0 0 [.ref 81, .ref 2] D (.inl none) r := am_Yof (mi := am_m152) (lc := [.ref 81, .ref 2]) pg152 (Nat.le_of_ble_eq_true rfl) (am_rc1 (ci := 0) rfl rfl rfl rfl rfl) rfl (fun Q hQ => m152_81_2_w (Nat.le_refl _) h hQ)
theorem m202_80_1_w {d mc ms : Nat} {D : am_D} {Q : am_O → am_AH → Prop} (hd : 3 ≤ d) {r : am_D} (h : m202_80_1 D = r) (hQ : Q (.inl none) (am_mk r)) : am_X xs L 202 d mc ms 0 [.ref 80, .ref 1] [] (am_mk D) 0 0 Q := by
  unfold m202_80_1 at h
  refine x_ld (v := .ref 80) r202_0 rfl rfl rfl ?_
  refine y_gf (cd := 83) (v := .ref 81) r202_1 rfl rfl rfl ?_
  refine x_ld (v := .ref 1) r202_4 rfl rfl rfl ?_
  refine y_gf (cd := 4) (v := .ref 2) r202_5 rfl rfl rfl ?_
  obtain ⟨q1, h2, h⟩ := am_ltE h
  replace h2 := h2.symm
  refine x_call0 (as := [.ref 81, .ref 2]) (rest := []) r202_8 rfl rfl rfl (by decide) (Nat.le_of_ble_eq_true rfl) (m152_81_2_ok h2) (Nat.le_trans (by decide) hd) (Nat.zero_le _) (Nat.zero_le _) rfl ?_
  refine x_ld (v := .ref 1) r202_11 rfl rfl rfl ?_
  refine y_gf (cd := 9) (v := .ref 7) r202_12 rfl rfl rfl ?_
  refine x_ld (v := .ref 80) r202_15 rfl rfl rfl ?_
  refine y_gf (cd := 88) (v := .ref 86) r202_16 rfl rfl rfl ?_
  obtain ⟨D3, e4, h⟩ := am_ltE h
  refine x_call0 (as := [.ref 7, .ref 86]) (rest := []) r202_19 rfl rfl rfl (by decide) (Nat.le_of_ble_eq_true rfl) (am_rows_copy (n := 28) (m := 28) rfl rfl (by decide) (by decide) e4) (Nat.le_trans (by decide) hd) (Nat.zero_le _) (Nat.zero_le _) rfl ?_
  refine x_ld (v := .ref 1) r202_22 rfl rfl rfl ?_
  refine y_gf (cd := 10) (v := .ref 8) r202_23 rfl rfl rfl ?_
  refine x_ld (v := .ref 80) r202_26 rfl rfl rfl ?_
  refine y_gf (cd := 89) (v := .ref 87) r202_27 rfl rfl rfl ?_
  obtain ⟨D5, e6, h⟩ := am_ltE h
  refine x_call0 (as := [.ref 8, .ref 87]) (rest := []) r202_30 rfl rfl rfl (by decide) (Nat.le_of_ble_eq_true rfl) (am_rows_copy (n := 4) (m := 4) rfl rfl (by decide) (by decide) e6) (Nat.le_trans (by decide) hd) (Nat.zero_le _) (Nat.zero_le _) rfl ?_
  refine x_ld (v := .ref 1) r202_33 rfl rfl rfl ?_
  refine y_gf (cd := 11) (v := .ref 9) r202_34 rfl rfl rfl ?_
  refine x_ld (v := .ref 80) r202_37 rfl rfl rfl ?_
  refine y_gf (cd := 90) (v := .ref 88) r202_38 rfl rfl rfl ?_
  obtain ⟨D7, e8, h⟩ := am_ltE h
  refine x_call0 (as := [.ref 9, .ref 88]) (rest := []) r202_41 rfl rfl rfl (by decide) (Nat.le_of_ble_eq_true rfl) (am_rows_copy (n := 4) (m := 4) rfl rfl (by decide) (by decide) e8) (Nat.le_trans (by decide) hd) (Nat.zero_le _) (Nat.zero_le _) rfl ?_
  refine x_ld (v := .ref 1) r202_44 rfl rfl rfl ?_
  refine y_gf (cd := 12) (v := .ref 10) r202_45 rfl rfl rfl ?_
  refine x_ld (v := .ref 80) r202_48 rfl rfl rfl ?_
  refine y_gf (cd := 91) (v := .ref 89) r202_49 rfl rfl rfl ?_
  obtain ⟨D9, e10, h⟩ := am_ltE h
  refine x_call0 (as := [.ref 10, .ref 89]) (rest := []) r202_52 rfl rfl rfl (by decide) (Nat.le_of_ble_eq_true rfl) (am_rows_copy (n := 4) (m := 4) rfl rfl (by decide) (by decide) e10) (Nat.le_trans (by decide) hd) (Nat.zero_le _) (Nat.zero_le _) rfl ?_
  refine x_ld (v := .ref 1) r202_55 rfl rfl rfl ?_
  refine y_gf (cd := 13) (v := .ref 11) r202_56 rfl rfl rfl ?_
  refine x_ld (v := .ref 80) r202_59 rfl rfl rfl ?_
  refine y_gf (cd := 92) (v := .ref 90) r202_60 rfl rfl rfl ?_
  obtain ⟨D11, e12, h⟩ := am_ltE h
  refine x_call0 (as := [.ref 11, .ref 90]) (rest := []) r202_63 rfl rfl rfl (by decide) (Nat.le_of_ble_eq_true rfl) (am_rows_copy (n := 2) (m := 2) rfl rfl (by decide) (by decide) e12) (Nat.le_trans (by decide) hd) (Nat.zero_le _) (Nat.zero_le _) rfl ?_
  refine x_ld (v := .ref 80) r202_66 rfl rfl rfl ?_
  refine x_ld (v := .ref 1) r202_67 rfl rfl rfl ?_
  refine y_gf (cd := 0) (v := .int (D11.1 1 6)) r202_68 rfl rfl rfl ?_
  obtain ⟨D13, e14, h⟩ := am_ltE h
  refine y_pf0 r202_71 rfl e14 rfl ?_
  refine x_ld (v := .ref 80) r202_74 rfl rfl rfl ?_
  refine x_ld (v := .ref 1) r202_75 rfl rfl rfl ?_
  refine y_gf (cd := 0) (v := .int (D13.1 1 7)) r202_76 rfl rfl rfl ?_
  obtain ⟨D15, e16, h⟩ := am_ltE h
  refine y_pf0 r202_79 rfl e16 rfl ?_
  refine x_ld (v := .ref 80) r202_82 rfl rfl rfl ?_
  refine x_ld (v := .ref 1) r202_83 rfl rfl rfl ?_
  refine y_gf (cd := 0) (v := .int (D15.1 1 8)) r202_84 rfl rfl rfl ?_
  obtain ⟨D17, e18, h⟩ := am_ltE h
  refine y_pf0 r202_87 rfl e18 rfl ?_
  refine x_ld (v := .ref 80) r202_90 rfl rfl rfl ?_
  refine x_ld (v := .ref 1) r202_91 rfl rfl rfl ?_
  refine y_gf (cd := 0) (v := .int (D17.1 1 9)) r202_92 rfl rfl rfl ?_
  obtain ⟨D19, e20, h⟩ := am_ltE h
  refine y_pf0 r202_95 rfl e20 rfl ?_
  refine x_ld (v := .ref 80) r202_98 rfl rfl rfl ?_
  refine x_ld (v := .ref 1) r202_99 rfl rfl rfl ?_
  refine y_gf (cd := 0) (v := .int (D19.1 1 10)) r202_100 rfl rfl rfl ?_
  obtain ⟨D21, e22, h⟩ := am_ltE h
  refine y_pf0 r202_103 rfl e22 rfl ?_
  refine x_ld (v := .ref 80) r202_106 rfl rfl rfl ?_
  refine x_ld (v := .ref 1) r202_107 rfl rfl rfl ?_
  refine y_gf (cd := 0) (v := .int (D21.1 1 11)) r202_108 rfl rfl rfl ?_
  obtain ⟨D23, e24, h⟩ := am_ltE h
  refine y_pf0 r202_111 rfl e24 rfl ?_
  refine x_ld (v := .ref 80) r202_114 rfl rfl rfl ?_
  refine x_ld (v := .ref 1) r202_115 rfl rfl rfl ?_
  refine y_gf (cd := 0) (v := .int (D23.1 1 12)) r202_116 rfl rfl rfl ?_
  obtain ⟨D25, e26, h⟩ := am_ltE h
  refine y_pf0 r202_119 rfl e26 rfl ?_
  refine x_ld (v := .ref 80) r202_122 rfl rfl rfl ?_
  refine x_ld (v := .ref 1) r202_123 rfl rfl rfl ?_
  refine y_gf (cd := 0) (v := .int (D25.1 1 13)) r202_124 rfl rfl rfl ?_
  obtain ⟨D27, e28, h⟩ := am_ltE h
  refine y_pf0 r202_127 rfl e28 rfl ?_
  refine x_ld (v := .ref 80) r202_130 rfl rfl rfl ?_
  refine x_ld (v := .ref 1) r202_131 rfl rfl rfl ?_
  refine y_gf (cd := 0) (v := .int (D27.1 1 14)) r202_132 rfl rfl rfl ?_
  obtain ⟨D29, e30, h⟩ := am_ltE h
  refine y_pf0 r202_135 rfl e30 rfl ?_
  refine x_ld (v := .ref 80) r202_138 rfl rfl rfl ?_
  refine x_ld (v := .ref 1) r202_139 rfl rfl rfl ?_
  refine y_gf (cd := 0) (v := .int (D29.1 1 15)) r202_140 rfl rfl rfl ?_
  obtain ⟨D31, e32, h⟩ := am_ltE h
  refine y_pf0 r202_143 rfl e32 rfl ?_
  subst h
  exact x_ret (ret := none) (C := True) (v := none) r202_146 rt202 rfl rfl rfl rfl rfl rfl rfl rfl trivial hQ
theorem m202_80_1_ok {D : am_D} {r : am_D} (h : m202_80_1 D = r) : am_Y xs L 202 3 0 0 [.ref 80, .ref 1] D (.inl none) r := am_Yof (mi := am_m202) (lc := [.ref 80, .ref 1]) pg202 (Nat.le_of_ble_eq_true rfl) (am_rc1 (ci := 4) rfl rfl rfl rfl rfl) rfl (fun Q hQ => m202_80_1_w (Nat.le_refl _) h hQ)
theorem r168_0 : am_at 168 0 = some (.aload_n 0, 1, [0]) := by decide +kernel
theorem r168_1 : am_at 168 1 = some (.getfield 18, 3, [1, 2, 0, 239]) := by decide +kernel
theorem r168_4 : am_at 168 4 = some (.bipush (6), 2, []) := by decide +kernel
theorem r168_6 : am_at 168 6 = some (.if_icmp .lt (26), 3, [32]) := by decide +kernel
theorem r168_9 : am_at 168 9 = some (.aload_n 0, 1, [0]) := by decide +kernel
theorem r168_10 : am_at 168 10 = some (.aload_n 0, 1, [0]) := by decide +kernel
theorem r168_11 : am_at 168 11 = some (.getfield 22, 3, [1, 1, 0, 238]) := by decide +kernel
theorem r168_14 : am_at 168 14 = some (.iconst (1), 1, []) := by decide +kernel
theorem r168_15 : am_at 168 15 = some (.iadd, 1, []) := by decide +kernel
theorem r168_16 : am_at 168 16 = some (.bipush (6), 2, []) := by decide +kernel
theorem r168_18 : am_at 168 18 = some (.irem, 1, []) := by decide +kernel
theorem r168_19 : am_at 168 19 = some (.putfield 22, 3, [1, 1, 0, 238]) := by decide +kernel
theorem r168_22 : am_at 168 22 = some (.aload_n 0, 1, [0]) := by decide +kernel
theorem r168_23 : am_at 168 23 = some (.dup, 1, []) := by decide +kernel
theorem r168_24 : am_at 168 24 = some (.getfield 18, 3, [1, 2, 0, 239]) := by decide +kernel
theorem r168_27 : am_at 168 27 = some (.iconst (1), 1, []) := by decide +kernel
theorem r168_28 : am_at 168 28 = some (.isub, 1, []) := by decide +kernel
theorem r168_29 : am_at 168 29 = some (.putfield 18, 3, [1, 2, 0, 239]) := by decide +kernel
theorem r168_32 : am_at 168 32 = some (.aload_n 0, 1, [0]) := by decide +kernel
theorem r168_33 : am_at 168 33 = some (.aload_n 0, 1, [0]) := by decide +kernel
theorem r168_34 : am_at 168 34 = some (.getfield 18, 3, [1, 2, 0, 239]) := by decide +kernel
theorem r168_37 : am_at 168 37 = some (.invokevirtual 25, 3, [170, 2, 824, 0]) := by decide +kernel
theorem r168_40 : am_at 168 40 = some (.astore_n 2, 1, [2]) := by decide +kernel
theorem r168_41 : am_at 168 41 = some (.aload_n 2, 1, [2]) := by decide +kernel
theorem r168_42 : am_at 168 42 = some (.ifnull (18), 3, [60]) := by decide +kernel
theorem r168_45 : am_at 168 45 = some (.aload_n 2, 1, [2]) := by decide +kernel
theorem r168_46 : am_at 168 46 = some (.aload_n 1, 1, [1]) := by decide +kernel
theorem r168_47 : am_at 168 47 = some (.invokevirtual 29, 3, [202, 2, 828, 0]) := by decide +kernel
theorem r168_50 : am_at 168 50 = some (.aload_n 0, 1, [0]) := by decide +kernel
theorem r168_51 : am_at 168 51 = some (.dup, 1, []) := by decide +kernel
theorem r168_52 : am_at 168 52 = some (.getfield 18, 3, [1, 2, 0, 239]) := by decide +kernel
theorem r168_55 : am_at 168 55 = some (.iconst (1), 1, []) := by decide +kernel
theorem r168_56 : am_at 168 56 = some (.iadd, 1, []) := by decide +kernel
theorem r168_57 : am_at 168 57 = some (.putfield 18, 3, [1, 2, 0, 239]) := by decide +kernel
theorem r168_60 : am_at 168 60 = some (.return_, 1, []) := by decide +kernel
theorem rt168 : am_rtt 168 = some (none) := by decide +kernel
set_option maxRecDepth 100000 in
theorem pg168 : am_pg[168]? = some am_m168 := rfl
theorem m168_w {d mc ms : Nat} {D : am_D} {Q : am_O → am_AH → Prop} (hd : 4 ≤ d) {r : am_D} (h : m168 D = some r) (hQ : Q (.inl none) (am_mk r)) : am_X xs L 168 d mc ms 0 [.ref 23, .ref 1, am_dead] [] (am_mk D) 0 0 Q := by
  unfold m168 at h
  refine x_ld (v := .ref 23) r168_0 rfl rfl rfl ?_
  refine y_gf (cd := 0) (v := .int (D.1 23 2)) r168_1 rfl rfl rfl ?_
  refine x_bi (v := 6) r168_4 rfl rfl ?_
  obtain ⟨q1, h3, h⟩ := am_ltE h
  replace h3 := h3.symm
  have kj2 : am_X xs L 168 d mc ms 32 [.ref 23, .ref 1, am_dead] [] (am_mk q1) 0 0 Q := by
    refine x_ld (v := .ref 23) r168_32 rfl rfl rfl ?_
    refine x_ld (v := .ref 23) r168_33 rfl rfl rfl ?_
    refine y_gf (cd := 0) (v := .int (q1.1 23 2)) r168_34 rfl rfl rfl ?_
    obtain ⟨q9, h10, h⟩ := Option.bind_eq_some_iff.mp h
    refine x_call1 (as := [.ref 23, .int (q1.1 23 2)]) (rest := []) r168_37 rfl rfl rfl (by decide) (Nat.le_of_ble_eq_true rfl) (m170_ok h10) (Nat.le_trans (by decide) hd) (Nat.zero_le _) (Nat.zero_le _) rfl ?_
    rcases am_ifE h with ⟨c11, h⟩ | ⟨c11, h⟩
    · refine am_topR (v := 25) (by rw [c11]) ?_
      refine x_sto (lc' := [.ref 23, .ref 1, .ref 25]) r168_40 rfl rfl rfl rfl ?_
      refine x_ld (v := .ref 25) r168_41 rfl rfl rfl ?_
      refine x_ifnull r168_42 rfl ?_
      refine x_ld (v := .ref 25) r168_45 rfl rfl rfl ?_
      refine x_ld (v := .ref 1) r168_46 rfl rfl rfl ?_
      obtain ⟨q12, h13, h⟩ := am_ltE h
      replace h13 := h13.symm
      refine x_call0 (as := [.ref 25, .ref 1]) (rest := []) r168_47 rfl rfl rfl (by decide) (Nat.le_of_ble_eq_true rfl) (m202_25_1_ok h13) (Nat.le_trans (by decide) hd) (Nat.zero_le _) (Nat.zero_le _) rfl ?_
      refine x_ld (v := .ref 23) r168_50 rfl rfl rfl ?_
      refine x_ar r168_51 rfl trivial rfl ?_
      refine y_gf (cd := 0) (v := .int (q12.1 23 2)) r168_52 rfl rfl rfl ?_
      refine x_ic (v := 1) r168_55 rfl rfl ?_
      refine x_ar r168_56 rfl trivial rfl ?_
      obtain ⟨D14, e15, h⟩ := am_ltE h
      refine y_pf0 r168_57 rfl e15 rfl ?_
      cases h
      exact x_ret (ret := none) (C := True) (v := none) r168_60 rt168 rfl rfl rfl rfl rfl rfl rfl rfl trivial hQ
    · rcases am_ifE h with ⟨c16, h⟩ | ⟨c16, h⟩
      · refine am_topR (v := 36) (by rw [c16]) ?_
        refine x_sto (lc' := [.ref 23, .ref 1, .ref 36]) r168_40 rfl rfl rfl rfl ?_
        refine x_ld (v := .ref 36) r168_41 rfl rfl rfl ?_
        refine x_ifnull r168_42 rfl ?_
        refine x_ld (v := .ref 36) r168_45 rfl rfl rfl ?_
        refine x_ld (v := .ref 1) r168_46 rfl rfl rfl ?_
        obtain ⟨q17, h18, h⟩ := am_ltE h
        replace h18 := h18.symm
        refine x_call0 (as := [.ref 36, .ref 1]) (rest := []) r168_47 rfl rfl rfl (by decide) (Nat.le_of_ble_eq_true rfl) (m202_36_1_ok h18) (Nat.le_trans (by decide) hd) (Nat.zero_le _) (Nat.zero_le _) rfl ?_
        refine x_ld (v := .ref 23) r168_50 rfl rfl rfl ?_
        refine x_ar r168_51 rfl trivial rfl ?_
        refine y_gf (cd := 0) (v := .int (q17.1 23 2)) r168_52 rfl rfl rfl ?_
        refine x_ic (v := 1) r168_55 rfl rfl ?_
        refine x_ar r168_56 rfl trivial rfl ?_
        obtain ⟨D19, e20, h⟩ := am_ltE h
        refine y_pf0 r168_57 rfl e20 rfl ?_
        cases h
        exact x_ret (ret := none) (C := True) (v := none) r168_60 rt168 rfl rfl rfl rfl rfl rfl rfl rfl trivial hQ
      · rcases am_ifE h with ⟨c21, h⟩ | ⟨c21, h⟩
        · refine am_topR (v := 47) (by rw [c21]) ?_
          refine x_sto (lc' := [.ref 23, .ref 1, .ref 47]) r168_40 rfl rfl rfl rfl ?_
          refine x_ld (v := .ref 47) r168_41 rfl rfl rfl ?_
          refine x_ifnull r168_42 rfl ?_
          refine x_ld (v := .ref 47) r168_45 rfl rfl rfl ?_
          refine x_ld (v := .ref 1) r168_46 rfl rfl rfl ?_
          obtain ⟨q22, h23, h⟩ := am_ltE h
          replace h23 := h23.symm
          refine x_call0 (as := [.ref 47, .ref 1]) (rest := []) r168_47 rfl rfl rfl (by decide) (Nat.le_of_ble_eq_true rfl) (m202_47_1_ok h23) (Nat.le_trans (by decide) hd) (Nat.zero_le _) (Nat.zero_le _) rfl ?_
          refine x_ld (v := .ref 23) r168_50 rfl rfl rfl ?_
          refine x_ar r168_51 rfl trivial rfl ?_
          refine y_gf (cd := 0) (v := .int (q22.1 23 2)) r168_52 rfl rfl rfl ?_
          refine x_ic (v := 1) r168_55 rfl rfl ?_
          refine x_ar r168_56 rfl trivial rfl ?_
          obtain ⟨D24, e25, h⟩ := am_ltE h
          refine y_pf0 r168_57 rfl e25 rfl ?_
          cases h
          exact x_ret (ret := none) (C := True) (v := none) r168_60 rt168 rfl rfl rfl rfl rfl rfl rfl rfl trivial hQ
        · rcases am_ifE h with ⟨c26, h⟩ | ⟨c26, h⟩
          · refine am_topR (v := 58) (by rw [c26]) ?_
            refine x_sto (lc' := [.ref 23, .ref 1, .ref 58]) r168_40 rfl rfl rfl rfl ?_
            refine x_ld (v := .ref 58) r168_41 rfl rfl rfl ?_
            refine x_ifnull r168_42 rfl ?_
            refine x_ld (v := .ref 58) r168_45 rfl rfl rfl ?_
            refine x_ld (v := .ref 1) r168_46 rfl rfl rfl ?_
            obtain ⟨q27, h28, h⟩ := am_ltE h
            replace h28 := h28.symm
            refine x_call0 (as := [.ref 58, .ref 1]) (rest := []) r168_47 rfl rfl rfl (by decide) (Nat.le_of_ble_eq_true rfl) (m202_58_1_ok h28) (Nat.le_trans (by decide) hd) (Nat.zero_le _) (Nat.zero_le _) rfl ?_
            refine x_ld (v := .ref 23) r168_50 rfl rfl rfl ?_
            refine x_ar r168_51 rfl trivial rfl ?_
            refine y_gf (cd := 0) (v := .int (q27.1 23 2)) r168_52 rfl rfl rfl ?_
            refine x_ic (v := 1) r168_55 rfl rfl ?_
            refine x_ar r168_56 rfl trivial rfl ?_
            obtain ⟨D29, e30, h⟩ := am_ltE h
            refine y_pf0 r168_57 rfl e30 rfl ?_
            cases h
            exact x_ret (ret := none) (C := True) (v := none) r168_60 rt168 rfl rfl rfl rfl rfl rfl rfl rfl trivial hQ
          · rcases am_ifE h with ⟨c31, h⟩ | ⟨c31, h⟩
            · refine am_topR (v := 69) (by rw [c31]) ?_
              refine x_sto (lc' := [.ref 23, .ref 1, .ref 69]) r168_40 rfl rfl rfl rfl ?_
              refine x_ld (v := .ref 69) r168_41 rfl rfl rfl ?_
              refine x_ifnull r168_42 rfl ?_
              refine x_ld (v := .ref 69) r168_45 rfl rfl rfl ?_
              refine x_ld (v := .ref 1) r168_46 rfl rfl rfl ?_
              obtain ⟨q32, h33, h⟩ := am_ltE h
              replace h33 := h33.symm
              refine x_call0 (as := [.ref 69, .ref 1]) (rest := []) r168_47 rfl rfl rfl (by decide) (Nat.le_of_ble_eq_true rfl) (m202_69_1_ok h33) (Nat.le_trans (by decide) hd) (Nat.zero_le _) (Nat.zero_le _) rfl ?_
              refine x_ld (v := .ref 23) r168_50 rfl rfl rfl ?_
              refine x_ar r168_51 rfl trivial rfl ?_
              refine y_gf (cd := 0) (v := .int (q32.1 23 2)) r168_52 rfl rfl rfl ?_
              refine x_ic (v := 1) r168_55 rfl rfl ?_
              refine x_ar r168_56 rfl trivial rfl ?_
              obtain ⟨D34, e35, h⟩ := am_ltE h
              refine y_pf0 r168_57 rfl e35 rfl ?_
              cases h
              exact x_ret (ret := none) (C := True) (v := none) r168_60 rt168 rfl rfl rfl rfl rfl rfl rfl rfl trivial hQ
            · rcases am_ifE h with ⟨c36, h⟩ | ⟨c36, h⟩
              · refine am_topR (v := 80) (by rw [c36]) ?_
                refine x_sto (lc' := [.ref 23, .ref 1, .ref 80]) r168_40 rfl rfl rfl rfl ?_
                refine x_ld (v := .ref 80) r168_41 rfl rfl rfl ?_
                refine x_ifnull r168_42 rfl ?_
                refine x_ld (v := .ref 80) r168_45 rfl rfl rfl ?_
                refine x_ld (v := .ref 1) r168_46 rfl rfl rfl ?_
                obtain ⟨q37, h38, h⟩ := am_ltE h
                replace h38 := h38.symm
                refine x_call0 (as := [.ref 80, .ref 1]) (rest := []) r168_47 rfl rfl rfl (by decide) (Nat.le_of_ble_eq_true rfl) (m202_80_1_ok h38) (Nat.le_trans (by decide) hd) (Nat.zero_le _) (Nat.zero_le _) rfl ?_
                refine x_ld (v := .ref 23) r168_50 rfl rfl rfl ?_
                refine x_ar r168_51 rfl trivial rfl ?_
                refine y_gf (cd := 0) (v := .int (q37.1 23 2)) r168_52 rfl rfl rfl ?_
                refine x_ic (v := 1) r168_55 rfl rfl ?_
                refine x_ar r168_56 rfl trivial rfl ?_
                obtain ⟨D39, e40, h⟩ := am_ltE h
                refine y_pf0 r168_57 rfl e40 rfl ?_
                cases h
                exact x_ret (ret := none) (C := True) (v := none) r168_60 rt168 rfl rfl rfl rfl rfl rfl rfl rfl trivial hQ
              · cases h
  rcases am_ifE h3 with ⟨c4, h3⟩ | ⟨c4, h3⟩
  · refine x_icltT r168_6 c4 ?_
    subst h3
    exact kj2
  · refine x_icltF r168_6 c4 rfl ?_
    refine x_ld (v := .ref 23) r168_9 rfl rfl rfl ?_
    refine x_ld (v := .ref 23) r168_10 rfl rfl rfl ?_
    refine y_gf (cd := 0) (v := .int (D.1 23 1)) r168_11 rfl rfl rfl ?_
    refine x_ic (v := 1) r168_14 rfl rfl ?_
    refine x_ar r168_15 rfl trivial rfl ?_
    refine x_bi (v := 6) r168_16 rfl rfl ?_
    refine x_ar r168_18 rfl (by decide) rfl ?_
    obtain ⟨D5, e6, h3⟩ := am_ltE h3
    refine y_pf0 r168_19 rfl e6 rfl ?_
    refine x_ld (v := .ref 23) r168_22 rfl rfl rfl ?_
    refine x_ar r168_23 rfl trivial rfl ?_
    refine y_gf (cd := 0) (v := .int (D5.1 23 2)) r168_24 rfl rfl rfl ?_
    refine x_ic (v := 1) r168_27 rfl rfl ?_
    refine x_ar r168_28 rfl trivial rfl ?_
    obtain ⟨D7, e8, h3⟩ := am_ltE h3
    refine y_pf0 r168_29 rfl e8 rfl ?_
    subst h3
    exact kj2
theorem m168_ok {D : am_D} {r : am_D} (h : m168 D = some r) : am_Y xs L 168 4 0 0 [.ref 23, .ref 1] D (.inl none) r := am_Yof (mi := am_m168) (lc := [.ref 23, .ref 1, am_dead]) pg168 (Nat.le_of_ble_eq_true rfl) (am_rc1 (ci := 1) rfl rfl rfl rfl rfl) rfl (fun Q hQ => m168_w (Nat.le_refl _) h hQ)
theorem m152_2_26_w {d mc ms : Nat} {D : am_D} {Q : am_O → am_AH → Prop} (hd : 2 ≤ d) {r : am_D} (h : m152_2_26 D = r) (hQ : Q (.inl none) (am_mk r)) : am_X xs L 152 d mc ms 0 [.ref 2, .ref 26] [] (am_mk D) 0 0 Q := by
  unfold m152_2_26 at h
  refine x_ld (v := .ref 26) r152_0 rfl rfl rfl ?_
  refine y_gf (cd := 29) (v := .ref 27) r152_1 rfl rfl rfl ?_
  refine x_ld (v := .ref 2) r152_4 rfl rfl rfl ?_
  refine y_gf (cd := 5) (v := .ref 3) r152_5 rfl rfl rfl ?_
  obtain ⟨D1, e2, h⟩ := am_ltE h
  refine x_call0 (as := [.ref 27, .ref 3]) (rest := []) r152_8 rfl rfl rfl (by decide) (Nat.le_of_ble_eq_true rfl) (am_rows_copy (n := 28) (m := 28) rfl rfl (by decide) (by decide) e2) (Nat.le_trans (by decide) hd) (Nat.zero_le _) (Nat.zero_le _) rfl ?_
  refine x_ld (v := .ref 26) r152_11 rfl rfl rfl ?_
  refine y_gf (cd := 30) (v := .ref 28) r152_12 rfl rfl rfl ?_
  refine x_ld (v := .ref 2) r152_15 rfl rfl rfl ?_
  refine y_gf (cd := 6) (v := .ref 4) r152_16 rfl rfl rfl ?_
  obtain ⟨D3, e4, h⟩ := am_ltE h
  refine x_call0 (as := [.ref 28, .ref 4]) (rest := []) r152_19 rfl rfl rfl (by decide) (Nat.le_of_ble_eq_true rfl) (am_rows_copy (n := 28) (m := 28) rfl rfl (by decide) (by decide) e4) (Nat.le_trans (by decide) hd) (Nat.zero_le _) (Nat.zero_le _) rfl ?_
  refine x_ld (v := .ref 26) r152_22 rfl rfl rfl ?_
  refine y_gf (cd := 31) (v := .ref 29) r152_23 rfl rfl rfl ?_
  refine x_ld (v := .ref 2) r152_26 rfl rfl rfl ?_
  refine y_gf (cd := 7) (v := .ref 5) r152_27 rfl rfl rfl ?_
  obtain ⟨D5, e6, h⟩ := am_ltE h
  refine x_call0 (as := [.ref 29, .ref 5]) (rest := []) r152_30 rfl rfl rfl (by decide) (Nat.le_of_ble_eq_true rfl) (am_rows_copy (n := 28) (m := 28) rfl rfl (by decide) (by decide) e6) (Nat.le_trans (by decide) hd) (Nat.zero_le _) (Nat.zero_le _) rfl ?_
  refine x_ld (v := .ref 26) r152_33 rfl rfl rfl ?_
  refine y_gf (cd := 32) (v := .ref 30) r152_34 rfl rfl rfl ?_
  refine x_ld (v := .ref 2) r152_37 rfl rfl rfl ?_
  refine y_gf (cd := 8) (v := .ref 6) r152_38 rfl rfl rfl ?_
  obtain ⟨D7, e8, h⟩ := am_ltE h
  refine x_call0 (as := [.ref 30, .ref 6]) (rest := []) r152_41 rfl rfl rfl (by decide) (Nat.le_of_ble_eq_true rfl) (am_rows_copy (n := 28) (m := 28) rfl rfl (by decide) (by decide) e8) (Nat.le_trans (by decide) hd) (Nat.zero_le _) (Nat.zero_le _) rfl ?_
  refine x_ld (v := .ref 2) r152_44 rfl rfl rfl ?_
  refine x_ld (v := .ref 26) r152_45 rfl rfl rfl ?_
  refine y_gf (cd := 0) (v := .int (D7.1 26 4)) r152_46 rfl rfl rfl ?_
  obtain ⟨D9, e10, h⟩ := am_ltE h
  refine y_pf0 r152_49 rfl e10 rfl ?_
  refine x_ld (v := .ref 2) r152_52 rfl rfl rfl ?_
  refine x_ld (v := .ref 26) r152_53 rfl rfl rfl ?_
  refine y_gf (cd := 0) (v := .int (D9.1 26 5)) r152_54 rfl rfl rfl ?_
  obtain ⟨D11, e12, h⟩ := am_ltE h
  refine y_pf0 r152_57 rfl e12 rfl ?_
  refine x_ld (v := .ref 2) r152_60 rfl rfl rfl ?_
  refine x_ld (v := .ref 26) r152_61 rfl rfl rfl ?_
  refine y_gf (cd := 0) (v := .int (D11.1 26 6)) r152_62 rfl rfl rfl ?_
  obtain ⟨D13, e14, h⟩ := am_ltE h
  refine y_pf0 r152_65 rfl e14 rfl ?_
  subst h
  exact x_ret (ret := none) (C := True) (v := none) r152_68 rt152 rfl rfl rfl rfl rfl rfl rfl rfl trivial hQ
theorem m152_2_26_ok {D : am_D} {r : am_D} (h : m152_2_26 D = r) : am_Y xs L 152 2 0 0 [.ref 2, .ref 26] D (.inl none) r := am_Yof (mi := am_m152) (lc := [.ref 2, .ref 26]) pg152 (Nat.le_of_ble_eq_true rfl) (am_rc1 (ci := 0) rfl rfl rfl rfl rfl) rfl (fun Q hQ => m152_2_26_w (Nat.le_refl _) h hQ)
theorem m202_1_25_w {d mc ms : Nat} {D : am_D} {Q : am_O → am_AH → Prop} (hd : 3 ≤ d) {r : am_D} (h : m202_1_25 D = r) (hQ : Q (.inl none) (am_mk r)) : am_X xs L 202 d mc ms 0 [.ref 1, .ref 25] [] (am_mk D) 0 0 Q := by
  unfold m202_1_25 at h
  refine x_ld (v := .ref 1) r202_0 rfl rfl rfl ?_
  refine y_gf (cd := 4) (v := .ref 2) r202_1 rfl rfl rfl ?_
  refine x_ld (v := .ref 25) r202_4 rfl rfl rfl ?_
  refine y_gf (cd := 28) (v := .ref 26) r202_5 rfl rfl rfl ?_
  obtain ⟨q1, h2, h⟩ := am_ltE h
  replace h2 := h2.symm
  refine x_call0 (as := [.ref 2, .ref 26]) (rest := []) r202_8 rfl rfl rfl (by decide) (Nat.le_of_ble_eq_true rfl) (m152_2_26_ok h2) (Nat.le_trans (by decide) hd) (Nat.zero_le _) (Nat.zero_le _) rfl ?_
  refine x_ld (v := .ref 25) r202_11 rfl rfl rfl ?_
  refine y_gf (cd := 33) (v := .ref 31) r202_12 rfl rfl rfl ?_
  refine x_ld (v := .ref 1) r202_15 rfl rfl rfl ?_
  refine y_gf (cd := 9) (v := .ref 7) r202_16 rfl rfl rfl ?_
  obtain ⟨D3, e4, h⟩ := am_ltE h
  refine x_call0 (as := [.ref 31, .ref 7]) (rest := []) r202_19 rfl rfl rfl (by decide) (Nat.le_of_ble_eq_true rfl) (am_rows_copy (n := 28) (m := 28) rfl rfl (by decide) (by decide) e4) (Nat.le_trans (by decide) hd) (Nat.zero_le _) (Nat.zero_le _) rfl ?_
  refine x_ld (v := .ref 25) r202_22 rfl rfl rfl ?_
  refine y_gf (cd := 34) (v := .ref 32) r202_23 rfl rfl rfl ?_
  refine x_ld (v := .ref 1) r202_26 rfl rfl rfl ?_
  refine y_gf (cd := 10) (v := .ref 8) r202_27 rfl rfl rfl ?_
  obtain ⟨D5, e6, h⟩ := am_ltE h
  refine x_call0 (as := [.ref 32, .ref 8]) (rest := []) r202_30 rfl rfl rfl (by decide) (Nat.le_of_ble_eq_true rfl) (am_rows_copy (n := 4) (m := 4) rfl rfl (by decide) (by decide) e6) (Nat.le_trans (by decide) hd) (Nat.zero_le _) (Nat.zero_le _) rfl ?_
  refine x_ld (v := .ref 25) r202_33 rfl rfl rfl ?_
  refine y_gf (cd := 35) (v := .ref 33) r202_34 rfl rfl rfl ?_
  refine x_ld (v := .ref 1) r202_37 rfl rfl rfl ?_
  refine y_gf (cd := 11) (v := .ref 9) r202_38 rfl rfl rfl ?_
  obtain ⟨D7, e8, h⟩ := am_ltE h
  refine x_call0 (as := [.ref 33, .ref 9]) (rest := []) r202_41 rfl rfl rfl (by decide) (Nat.le_of_ble_eq_true rfl) (am_rows_copy (n := 4) (m := 4) rfl rfl (by decide) (by decide) e8) (Nat.le_trans (by decide) hd) (Nat.zero_le _) (Nat.zero_le _) rfl ?_
  refine x_ld (v := .ref 25) r202_44 rfl rfl rfl ?_
  refine y_gf (cd := 36) (v := .ref 34) r202_45 rfl rfl rfl ?_
  refine x_ld (v := .ref 1) r202_48 rfl rfl rfl ?_
  refine y_gf (cd := 12) (v := .ref 10) r202_49 rfl rfl rfl ?_
  obtain ⟨D9, e10, h⟩ := am_ltE h
  refine x_call0 (as := [.ref 34, .ref 10]) (rest := []) r202_52 rfl rfl rfl (by decide) (Nat.le_of_ble_eq_true rfl) (am_rows_copy (n := 4) (m := 4) rfl rfl (by decide) (by decide) e10) (Nat.le_trans (by decide) hd) (Nat.zero_le _) (Nat.zero_le _) rfl ?_
  refine x_ld (v := .ref 25) r202_55 rfl rfl rfl ?_
  refine y_gf (cd := 37) (v := .ref 35) r202_56 rfl rfl rfl ?_
  refine x_ld (v := .ref 1) r202_59 rfl rfl rfl ?_
  refine y_gf (cd := 13) (v := .ref 11) r202_60 rfl rfl rfl ?_
  obtain ⟨D11, e12, h⟩ := am_ltE h
  refine x_call0 (as := [.ref 35, .ref 11]) (rest := []) r202_63 rfl rfl rfl (by decide) (Nat.le_of_ble_eq_true rfl) (am_rows_copy (n := 2) (m := 2) rfl rfl (by decide) (by decide) e12) (Nat.le_trans (by decide) hd) (Nat.zero_le _) (Nat.zero_le _) rfl ?_
  refine x_ld (v := .ref 1) r202_66 rfl rfl rfl ?_
  refine x_ld (v := .ref 25) r202_67 rfl rfl rfl ?_
  refine y_gf (cd := 0) (v := .int (D11.1 25 6)) r202_68 rfl rfl rfl ?_
  obtain ⟨D13, e14, h⟩ := am_ltE h
  refine y_pf0 r202_71 rfl e14 rfl ?_
  refine x_ld (v := .ref 1) r202_74 rfl rfl rfl ?_
  refine x_ld (v := .ref 25) r202_75 rfl rfl rfl ?_
  refine y_gf (cd := 0) (v := .int (D13.1 25 7)) r202_76 rfl rfl rfl ?_
  obtain ⟨D15, e16, h⟩ := am_ltE h
  refine y_pf0 r202_79 rfl e16 rfl ?_
  refine x_ld (v := .ref 1) r202_82 rfl rfl rfl ?_
  refine x_ld (v := .ref 25) r202_83 rfl rfl rfl ?_
  refine y_gf (cd := 0) (v := .int (D15.1 25 8)) r202_84 rfl rfl rfl ?_
  obtain ⟨D17, e18, h⟩ := am_ltE h
  refine y_pf0 r202_87 rfl e18 rfl ?_
  refine x_ld (v := .ref 1) r202_90 rfl rfl rfl ?_
  refine x_ld (v := .ref 25) r202_91 rfl rfl rfl ?_
  refine y_gf (cd := 0) (v := .int (D17.1 25 9)) r202_92 rfl rfl rfl ?_
  obtain ⟨D19, e20, h⟩ := am_ltE h
  refine y_pf0 r202_95 rfl e20 rfl ?_
  refine x_ld (v := .ref 1) r202_98 rfl rfl rfl ?_
  refine x_ld (v := .ref 25) r202_99 rfl rfl rfl ?_
  refine y_gf (cd := 0) (v := .int (D19.1 25 10)) r202_100 rfl rfl rfl ?_
  obtain ⟨D21, e22, h⟩ := am_ltE h
  refine y_pf0 r202_103 rfl e22 rfl ?_
  refine x_ld (v := .ref 1) r202_106 rfl rfl rfl ?_
  refine x_ld (v := .ref 25) r202_107 rfl rfl rfl ?_
  refine y_gf (cd := 0) (v := .int (D21.1 25 11)) r202_108 rfl rfl rfl ?_
  obtain ⟨D23, e24, h⟩ := am_ltE h
  refine y_pf0 r202_111 rfl e24 rfl ?_
  refine x_ld (v := .ref 1) r202_114 rfl rfl rfl ?_
  refine x_ld (v := .ref 25) r202_115 rfl rfl rfl ?_
  refine y_gf (cd := 0) (v := .int (D23.1 25 12)) r202_116 rfl rfl rfl ?_
  obtain ⟨D25, e26, h⟩ := am_ltE h
  refine y_pf0 r202_119 rfl e26 rfl ?_
  refine x_ld (v := .ref 1) r202_122 rfl rfl rfl ?_
  refine x_ld (v := .ref 25) r202_123 rfl rfl rfl ?_
  refine y_gf (cd := 0) (v := .int (D25.1 25 13)) r202_124 rfl rfl rfl ?_
  obtain ⟨D27, e28, h⟩ := am_ltE h
  refine y_pf0 r202_127 rfl e28 rfl ?_
  refine x_ld (v := .ref 1) r202_130 rfl rfl rfl ?_
  refine x_ld (v := .ref 25) r202_131 rfl rfl rfl ?_
  refine y_gf (cd := 0) (v := .int (D27.1 25 14)) r202_132 rfl rfl rfl ?_
  obtain ⟨D29, e30, h⟩ := am_ltE h
  refine y_pf0 r202_135 rfl e30 rfl ?_
  refine x_ld (v := .ref 1) r202_138 rfl rfl rfl ?_
  refine x_ld (v := .ref 25) r202_139 rfl rfl rfl ?_
  refine y_gf (cd := 0) (v := .int (D29.1 25 15)) r202_140 rfl rfl rfl ?_
  obtain ⟨D31, e32, h⟩ := am_ltE h
  refine y_pf0 r202_143 rfl e32 rfl ?_
  subst h
  exact x_ret (ret := none) (C := True) (v := none) r202_146 rt202 rfl rfl rfl rfl rfl rfl rfl rfl trivial hQ
theorem m202_1_25_ok {D : am_D} {r : am_D} (h : m202_1_25 D = r) : am_Y xs L 202 3 0 0 [.ref 1, .ref 25] D (.inl none) r := am_Yof (mi := am_m202) (lc := [.ref 1, .ref 25]) pg202 (Nat.le_of_ble_eq_true rfl) (am_rc1 (ci := 4) rfl rfl rfl rfl rfl) rfl (fun Q hQ => m202_1_25_w (Nat.le_refl _) h hQ)
theorem m152_2_37_w {d mc ms : Nat} {D : am_D} {Q : am_O → am_AH → Prop} (hd : 2 ≤ d) {r : am_D} (h : m152_2_37 D = r) (hQ : Q (.inl none) (am_mk r)) : am_X xs L 152 d mc ms 0 [.ref 2, .ref 37] [] (am_mk D) 0 0 Q := by
  unfold m152_2_37 at h
  refine x_ld (v := .ref 37) r152_0 rfl rfl rfl ?_
  refine y_gf (cd := 40) (v := .ref 38) r152_1 rfl rfl rfl ?_
  refine x_ld (v := .ref 2) r152_4 rfl rfl rfl ?_
  refine y_gf (cd := 5) (v := .ref 3) r152_5 rfl rfl rfl ?_
  obtain ⟨D1, e2, h⟩ := am_ltE h
  refine x_call0 (as := [.ref 38, .ref 3]) (rest := []) r152_8 rfl rfl rfl (by decide) (Nat.le_of_ble_eq_true rfl) (am_rows_copy (n := 28) (m := 28) rfl rfl (by decide) (by decide) e2) (Nat.le_trans (by decide) hd) (Nat.zero_le _) (Nat.zero_le _) rfl ?_
  refine x_ld (v := .ref 37) r152_11 rfl rfl rfl ?_
  refine y_gf (cd := 41) (v := .ref 39) r152_12 rfl rfl rfl ?_
  refine x_ld (v := .ref 2) r152_15 rfl rfl rfl ?_
  refine y_gf (cd := 6) (v := .ref 4) r152_16 rfl rfl rfl ?_
  obtain ⟨D3, e4, h⟩ := am_ltE h
  refine x_call0 (as := [.ref 39, .ref 4]) (rest := []) r152_19 rfl rfl rfl (by decide) (Nat.le_of_ble_eq_true rfl) (am_rows_copy (n := 28) (m := 28) rfl rfl (by decide) (by decide) e4) (Nat.le_trans (by decide) hd) (Nat.zero_le _) (Nat.zero_le _) rfl ?_
  refine x_ld (v := .ref 37) r152_22 rfl rfl rfl ?_
  refine y_gf (cd := 42) (v := .ref 40) r152_23 rfl rfl rfl ?_
  refine x_ld (v := .ref 2) r152_26 rfl rfl rfl ?_
  refine y_gf (cd := 7) (v := .ref 5) r152_27 rfl rfl rfl ?_
  obtain ⟨D5, e6, h⟩ := am_ltE h
  refine x_call0 (as := [.ref 40, .ref 5]) (rest := []) r152_30 rfl rfl rfl (by decide) (Nat.le_of_ble_eq_true rfl) (am_rows_copy (n := 28) (m := 28) rfl rfl (by decide) (by decide) e6) (Nat.le_trans (by decide) hd) (Nat.zero_le _) (Nat.zero_le _) rfl ?_
  refine x_ld (v := .ref 37) r152_33 rfl rfl rfl ?_
  refine y_gf (cd := 43) (v := .ref 41) r152_34 rfl rfl rfl ?_
  refine x_ld (v := .ref 2) r152_37 rfl rfl rfl ?_
  refine y_gf (cd := 8) (v := .ref 6) r152_38 rfl rfl rfl ?_
  obtain ⟨D7, e8, h⟩ := am_ltE h
  refine x_call0 (as := [.ref 41, .ref 6]) (rest := []) r152_41 rfl rfl rfl (by decide) (Nat.le_of_ble_eq_true rfl) (am_rows_copy (n := 28) (m := 28) rfl rfl (by decide) (by decide) e8) (Nat.le_trans (by decide) hd) (Nat.zero_le _) (Nat.zero_le _) rfl ?_
  refine x_ld (v := .ref 2) r152_44 rfl rfl rfl ?_
  refine x_ld (v := .ref 37) r152_45 rfl rfl rfl ?_
  refine y_gf (cd := 0) (v := .int (D7.1 37 4)) r152_46 rfl rfl rfl ?_
  obtain ⟨D9, e10, h⟩ := am_ltE h
  refine y_pf0 r152_49 rfl e10 rfl ?_
  refine x_ld (v := .ref 2) r152_52 rfl rfl rfl ?_
  refine x_ld (v := .ref 37) r152_53 rfl rfl rfl ?_
  refine y_gf (cd := 0) (v := .int (D9.1 37 5)) r152_54 rfl rfl rfl ?_
  obtain ⟨D11, e12, h⟩ := am_ltE h
  refine y_pf0 r152_57 rfl e12 rfl ?_
  refine x_ld (v := .ref 2) r152_60 rfl rfl rfl ?_
  refine x_ld (v := .ref 37) r152_61 rfl rfl rfl ?_
  refine y_gf (cd := 0) (v := .int (D11.1 37 6)) r152_62 rfl rfl rfl ?_
  obtain ⟨D13, e14, h⟩ := am_ltE h
  refine y_pf0 r152_65 rfl e14 rfl ?_
  subst h
  exact x_ret (ret := none) (C := True) (v := none) r152_68 rt152 rfl rfl rfl rfl rfl rfl rfl rfl trivial hQ
theorem m152_2_37_ok {D : am_D} {r : am_D} (h : m152_2_37 D = r) : am_Y xs L 152 2 0 0 [.ref 2, .ref 37] D (.inl none) r := am_Yof (mi := am_m152) (lc := [.ref 2, .ref 37]) pg152 (Nat.le_of_ble_eq_true rfl) (am_rc1 (ci := 0) rfl rfl rfl rfl rfl) rfl (fun Q hQ => m152_2_37_w (Nat.le_refl _) h hQ)
end XE
