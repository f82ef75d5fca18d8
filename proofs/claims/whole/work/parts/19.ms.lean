/-! methods as functions, with their walks (by wip/tools/decomp.py): 240 241 286 12 13 14 270 271 272 -/
section XE
variable {xs : Nat → Int32} {L : Nat}
theorem r240_0 : am_at 240 0 = some (.iconst (0), 1, []) := by decide +kernel
theorem r240_1 : am_at 240 1 = some (.istore_n 2, 1, [2]) := by decide +kernel
theorem r240_2 : am_at 240 2 = some (.iconst (0), 1, []) := by decide +kernel
theorem r240_3 : am_at 240 3 = some (.istore_n 3, 1, [3]) := by decide +kernel
theorem r240_4 : am_at 240 4 = some (.iload_n 3, 1, [3]) := by decide +kernel
theorem r240_5 : am_at 240 5 = some (.aload_n 0, 1, [0]) := by decide +kernel
theorem r240_6 : am_at 240 6 = some (.getfield 15, 3, [5, 1, 0, 255]) := by decide +kernel
theorem r240_9 : am_at 240 9 = some (.if_icmp .ge (27), 3, [36]) := by decide +kernel
theorem r240_12 : am_at 240 12 = some (.iload_n 1, 1, [1]) := by decide +kernel
theorem r240_13 : am_at 240 13 = some (.iload_n 2, 1, [2]) := by decide +kernel
theorem r240_14 : am_at 240 14 = some (.aload_n 0, 1, [0]) := by decide +kernel
theorem r240_15 : am_at 240 15 = some (.iload_n 3, 1, [3]) := by decide +kernel
theorem r240_16 : am_at 240 16 = some (.invokevirtual 29, 3, [234, 2, 1032, 0]) := by decide +kernel
theorem r240_19 : am_at 240 19 = some (.invokestatic 46, 3, [242, 3, 1033, 0]) := by decide +kernel
theorem r240_22 : am_at 240 22 = some (.istore_n 2, 1, [2]) := by decide +kernel
theorem r240_23 : am_at 240 23 = some (.iload_n 2, 1, [2]) := by decide +kernel
theorem r240_24 : am_at 240 24 = some (.iconst (-1), 1, []) := by decide +kernel
theorem r240_25 : am_at 240 25 = some (.if_icmp .ne (5), 3, [30]) := by decide +kernel
theorem r240_28 : am_at 240 28 = some (.iload_n 3, 1, [3]) := by decide +kernel
theorem r240_29 : am_at 240 29 = some (.ireturn, 1, []) := by decide +kernel
theorem r240_30 : am_at 240 30 = some (.iinc 3 (1), 3, [3]) := by decide +kernel
theorem r240_33 : am_at 240 33 = some (.goto (-29), 3, [4]) := by decide +kernel
theorem r240_36 : am_at 240 36 = some (.aload_n 0, 1, [0]) := by decide +kernel
theorem r240_37 : am_at 240 37 = some (.getfield 15, 3, [5, 1, 0, 255]) := by decide +kernel
theorem r240_40 : am_at 240 40 = some (.ireturn, 1, []) := by decide +kernel
theorem rt240 : am_rtt 240 = some (some .int) := by decide +kernel
set_option maxRecDepth 100000 in
theorem pg240 : am_pg[240]? = some am_m240 := rfl
theorem m240_L4_w {d : Nat} {N : Nat} {D : am_D} {v1 : Int32} {mc ms : Nat} {Q : am_O → am_AH → Prop} (hd : 5 ≤ d) : ∀ (n : Nat) (v2 : Int32) (v3 : Int32) {q : Nat × Int32} (h : m240_L4 N D v1  n v2 v3 = some q) (k0 : q.1 = 0 → am_X xs L 240 d mc ms 36 [.ref 91, am_dead, am_dead, am_dead] [] (am_mk D) 0 0 Q) (k1 : q.1 = 1 → am_X xs L 240 d mc ms 28 [.ref 91, am_dead, am_dead, .int q.2] [] (am_mk D) 0 0 Q), am_X xs L 240 d mc ms 4 [.ref 91, .int v1, .int v2, .int v3] [] (am_mk D) 0 0 Q := by
  intro n
  induction n with
  | zero =>
    intro v2 v3 q h k0 k1
    exact (nomatch (show none = some q from h))
  | succ n ih =>
    intro v2 v3 q h k0 k1
    rw [m240_L4] at h
    refine x_ld (v := .int v3) r240_4 rfl rfl rfl ?_
    refine x_ld (v := .ref 91) r240_5 rfl rfl rfl ?_
    refine y_gf (cd := 0) (v := .int (D.1 91 1)) r240_6 rfl rfl rfl ?_
    rcases am_ifE h with ⟨c1, h⟩ | ⟨c1, h⟩
    · refine x_icgeT r240_9 c1 ?_
      refine x_forget (lc0 := [.ref 91, am_dead, am_dead, am_dead]) ⟨Or.inl rfl, Or.inr ⟨rfl, rfl⟩, Or.inr ⟨rfl, rfl⟩, Or.inr ⟨rfl, rfl⟩, trivial⟩ ?_
      cases h
      exact k0 rfl
    · refine x_icgeF r240_9 c1 rfl ?_
      refine x_ld (v := .int v1) r240_12 rfl rfl rfl ?_
      refine x_ld (v := .int v2) r240_13 rfl rfl rfl ?_
      refine x_ld (v := .ref 91) r240_14 rfl rfl rfl ?_
      refine x_ld (v := .int v3) r240_15 rfl rfl rfl ?_
      refine x_call1 (as := [.ref 91, .int v3]) (rest := [.int v2, .int v1]) r240_16 rfl rfl rfl (by decide) (Nat.le_of_ble_eq_true rfl) (m234_ok rfl) (Nat.le_trans (by decide) hd) (Nat.zero_le _) (Nat.zero_le _) rfl ?_
      refine x_call1 (as := [.int v1, .int v2, .int (m234 D v3)]) (rest := []) r240_19 rfl rfl rfl (by decide) (Nat.le_of_ble_eq_true rfl) (m242_ok rfl) (Nat.le_trans (by decide) hd) (Nat.zero_le _) (Nat.zero_le _) rfl ?_
      obtain ⟨x2, e3, h⟩ := am_ltE h
      refine am_topI e3 ?_
      refine x_sto (lc' := [.ref 91, .int v1, .int x2, .int v3]) r240_22 rfl rfl rfl rfl ?_
      refine x_ld (v := .int x2) r240_23 rfl rfl rfl ?_
      refine x_ic (v := -1) r240_24 rfl rfl ?_
      rcases am_ifE h with ⟨c4, h⟩ | ⟨c4, h⟩
      · refine x_icneT r240_25 c4 rfl ?_
        refine x_forget (lc0 := [.ref 91, am_dead, am_dead, .int v3]) ⟨Or.inl rfl, Or.inr ⟨rfl, rfl⟩, Or.inr ⟨rfl, rfl⟩, Or.inl rfl, trivial⟩ ?_
        cases h
        exact k1 rfl
      · refine x_icneF r240_25 c4 ?_
        obtain ⟨x5, e6, h⟩ := am_ltE h
        refine x_sto (lc' := [.ref 91, .int v1, .int x2, .int x5]) r240_30 rfl rfl (by subst e6; rfl) rfl ?_
        refine x_goto r240_33 ?_
        exact x_forget (lc0 := [.ref 91, .int v1, .int x2, .int x5]) ⟨Or.inl rfl, Or.inl rfl, Or.inl rfl, Or.inl rfl, trivial⟩ (ih x2 x5 h k0 k1)
theorem m240_w {d mc ms : Nat} {N : Nat} {D : am_D} {v1 : Int32} {Q : am_O → am_AH → Prop} (hd : 5 ≤ d) {r : Int32} (h : m240 N D v1 = some r) (hQ : Q (.inl (some (.int r))) (am_mk D)) : am_X xs L 240 d mc ms 0 [.ref 91, .int v1, am_dead, am_dead] [] (am_mk D) 0 0 Q := by
  unfold m240 at h
  refine x_ic (v := 0) r240_0 rfl rfl ?_
  refine x_sto (lc' := [.ref 91, .int v1, .int (0 : Int32), am_dead]) r240_1 rfl rfl rfl rfl ?_
  refine x_ic (v := 0) r240_2 rfl rfl ?_
  refine x_sto (lc' := [.ref 91, .int v1, .int (0 : Int32), .int (0 : Int32)]) r240_3 rfl rfl rfl rfl ?_
  obtain ⟨q7, h8, h⟩ := Option.bind_eq_some_iff.mp h
  refine x_forget (lc0 := [.ref 91, .int v1, .int (0 : Int32), .int (0 : Int32)]) ⟨Or.inl rfl, Or.inl rfl, Or.inl rfl, Or.inl rfl, trivial⟩ (m240_L4_w hd N (0 : Int32) (0 : Int32) h8 (fun e9 => ?_) (fun e10 => ?_))
  · rw [if_pos e9] at h
    refine x_ld (v := .ref 91) r240_36 rfl rfl rfl ?_
    refine y_gf (cd := 0) (v := .int (D.1 91 1)) r240_37 rfl rfl rfl ?_
    cases h
    exact x_ret (ret := some .int) (C := True) (v := some (.int _)) r240_40 rt240 rfl rfl rfl rfl rfl rfl rfl rfl trivial hQ
  · rw [if_neg (by rw [e10]; decide)] at h
    refine x_ld (v := .int q7.2) r240_28 rfl rfl rfl ?_
    cases h
    exact x_ret (ret := some .int) (C := True) (v := some (.int _)) r240_29 rt240 rfl rfl rfl rfl rfl rfl rfl rfl trivial hQ
theorem m240_ok {N : Nat} {D : am_D} {v1 : Int32} {r : Int32} (h : m240 N D v1 = some r) : am_Y xs L 240 5 0 0 [.ref 91, .int v1] D (.inl (some (.int r))) D := am_Yof (mi := am_m240) (lc := [.ref 91, .int v1, am_dead, am_dead]) pg240 (Nat.le_of_ble_eq_true rfl) (am_rc1 (ci := 5) rfl rfl rfl rfl rfl) rfl (fun Q hQ => m240_w (Nat.le_refl _) h hQ)
theorem r241_0 : am_at 241 0 = some (.iconst (0), 1, []) := by decide +kernel
theorem r241_1 : am_at 241 1 = some (.istore_n 2, 1, [2]) := by decide +kernel
theorem r241_2 : am_at 241 2 = some (.iconst (0), 1, []) := by decide +kernel
theorem r241_3 : am_at 241 3 = some (.istore_n 3, 1, [3]) := by decide +kernel
theorem r241_4 : am_at 241 4 = some (.iload_n 3, 1, [3]) := by decide +kernel
theorem r241_5 : am_at 241 5 = some (.aload_n 0, 1, [0]) := by decide +kernel
theorem r241_6 : am_at 241 6 = some (.getfield 15, 3, [5, 1, 0, 255]) := by decide +kernel
theorem r241_9 : am_at 241 9 = some (.if_icmp .ge (20), 3, [29]) := by decide +kernel
theorem r241_12 : am_at 241 12 = some (.iload_n 1, 1, [1]) := by decide +kernel
theorem r241_13 : am_at 241 13 = some (.iload_n 2, 1, [2]) := by decide +kernel
theorem r241_14 : am_at 241 14 = some (.aload_n 0, 1, [0]) := by decide +kernel
theorem r241_15 : am_at 241 15 = some (.iload_n 3, 1, [3]) := by decide +kernel
theorem r241_16 : am_at 241 16 = some (.invokevirtual 29, 3, [234, 2, 1032, 0]) := by decide +kernel
theorem r241_19 : am_at 241 19 = some (.invokestatic 46, 3, [242, 3, 1033, 0]) := by decide +kernel
theorem r241_22 : am_at 241 22 = some (.istore_n 2, 1, [2]) := by decide +kernel
theorem r241_23 : am_at 241 23 = some (.iinc 3 (1), 3, [3]) := by decide +kernel
theorem r241_26 : am_at 241 26 = some (.goto (-22), 3, [4]) := by decide +kernel
theorem r241_29 : am_at 241 29 = some (.iload_n 2, 1, [2]) := by decide +kernel
theorem r241_30 : am_at 241 30 = some (.iconst (1), 1, []) := by decide +kernel
theorem r241_31 : am_at 241 31 = some (.if_icmp .eq (9), 3, [40]) := by decide +kernel
theorem r241_34 : am_at 241 34 = some (.iload_n 2, 1, [2]) := by decide +kernel
theorem r241_35 : am_at 241 35 = some (.bipush (6), 2, []) := by decide +kernel
theorem r241_37 : am_at 241 37 = some (.if_icmp .ne (7), 3, [44]) := by decide +kernel
theorem r241_40 : am_at 241 40 = some (.iconst (1), 1, []) := by decide +kernel
theorem r241_41 : am_at 241 41 = some (.goto (4), 3, [45]) := by decide +kernel
theorem r241_44 : am_at 241 44 = some (.iconst (0), 1, []) := by decide +kernel
theorem r241_45 : am_at 241 45 = some (.ireturn, 1, []) := by decide +kernel
theorem rt241 : am_rtt 241 = some (some .boolean) := by decide +kernel
set_option maxRecDepth 100000 in
theorem pg241 : am_pg[241]? = some am_m241 := rfl
theorem m241_L4_w {d : Nat} {N : Nat} {D : am_D} {v1 : Int32} {mc ms : Nat} {Q : am_O → am_AH → Prop} (hd : 5 ≤ d) : ∀ (n : Nat) (v2 : Int32) (v3 : Int32) {q : Int32} (h : m241_L4 N D v1  n v2 v3 = some q) (k0 : am_X xs L 241 d mc ms 29 [.ref 91, am_dead, .int q, am_dead] [] (am_mk D) 0 0 Q), am_X xs L 241 d mc ms 4 [.ref 91, .int v1, .int v2, .int v3] [] (am_mk D) 0 0 Q := by
  intro n
  induction n with
  | zero =>
    intro v2 v3 q h k0
    exact (nomatch (show none = some q from h))
  | succ n ih =>
    intro v2 v3 q h k0
    rw [m241_L4] at h
    refine x_ld (v := .int v3) r241_4 rfl rfl rfl ?_
    refine x_ld (v := .ref 91) r241_5 rfl rfl rfl ?_
    refine y_gf (cd := 0) (v := .int (D.1 91 1)) r241_6 rfl rfl rfl ?_
    rcases am_ifE h with ⟨c1, h⟩ | ⟨c1, h⟩
    · refine x_icgeT r241_9 c1 ?_
      refine x_forget (lc0 := [.ref 91, am_dead, .int v2, am_dead]) ⟨Or.inl rfl, Or.inr ⟨rfl, rfl⟩, Or.inl rfl, Or.inr ⟨rfl, rfl⟩, trivial⟩ ?_
      cases h
      exact k0
    · refine x_icgeF r241_9 c1 rfl ?_
      refine x_ld (v := .int v1) r241_12 rfl rfl rfl ?_
      refine x_ld (v := .int v2) r241_13 rfl rfl rfl ?_
      refine x_ld (v := .ref 91) r241_14 rfl rfl rfl ?_
      refine x_ld (v := .int v3) r241_15 rfl rfl rfl ?_
      refine x_call1 (as := [.ref 91, .int v3]) (rest := [.int v2, .int v1]) r241_16 rfl rfl rfl (by decide) (Nat.le_of_ble_eq_true rfl) (m234_ok rfl) (Nat.le_trans (by decide) hd) (Nat.zero_le _) (Nat.zero_le _) rfl ?_
      refine x_call1 (as := [.int v1, .int v2, .int (m234 D v3)]) (rest := []) r241_19 rfl rfl rfl (by decide) (Nat.le_of_ble_eq_true rfl) (m242_ok rfl) (Nat.le_trans (by decide) hd) (Nat.zero_le _) (Nat.zero_le _) rfl ?_
      obtain ⟨x2, e3, h⟩ := am_ltE h
      refine am_topI e3 ?_
      refine x_sto (lc' := [.ref 91, .int v1, .int x2, .int v3]) r241_22 rfl rfl rfl rfl ?_
      obtain ⟨x4, e5, h⟩ := am_ltE h
      refine x_sto (lc' := [.ref 91, .int v1, .int x2, .int x4]) r241_23 rfl rfl (by subst e5; rfl) rfl ?_
      refine x_goto r241_26 ?_
      exact x_forget (lc0 := [.ref 91, .int v1, .int x2, .int x4]) ⟨Or.inl rfl, Or.inl rfl, Or.inl rfl, Or.inl rfl, trivial⟩ (ih x2 x4 h k0)
theorem m241_w {d mc ms : Nat} {N : Nat} {D : am_D} {v1 : Int32} {Q : am_O → am_AH → Prop} (hd : 5 ≤ d) {r : Int32} (h : m241 N D v1 = some r) (hQ : Q (.inl (some (.int r))) (am_mk D)) : am_X xs L 241 d mc ms 0 [.ref 91, .int v1, am_dead, am_dead] [] (am_mk D) 0 0 Q := by
  unfold m241 at h
  refine x_ic (v := 0) r241_0 rfl rfl ?_
  refine x_sto (lc' := [.ref 91, .int v1, .int (0 : Int32), am_dead]) r241_1 rfl rfl rfl rfl ?_
  refine x_ic (v := 0) r241_2 rfl rfl ?_
  refine x_sto (lc' := [.ref 91, .int v1, .int (0 : Int32), .int (0 : Int32)]) r241_3 rfl rfl rfl rfl ?_
  obtain ⟨q6, h7, h⟩ := Option.bind_eq_some_iff.mp h
  refine x_forget (lc0 := [.ref 91, .int v1, .int (0 : Int32), .int (0 : Int32)]) ⟨Or.inl rfl, Or.inl rfl, Or.inl rfl, Or.inl rfl, trivial⟩ (m241_L4_w hd N (0 : Int32) (0 : Int32) h7 ?_)
  refine x_ld (v := .int q6) r241_29 rfl rfl rfl ?_
  refine x_ic (v := 1) r241_30 rfl rfl ?_
  rcases am_ifE h with ⟨c8, h⟩ | ⟨c8, h⟩
  · refine x_iceqT r241_31 c8 ?_
    refine x_ic (v := 1) r241_40 rfl rfl ?_
    refine x_goto r241_41 ?_
    cases h
    exact x_ret (ret := some .boolean) (C := narrow .boolean (.int (1 : Int32)) = .int (1 : Int32)) (v := some (.int (1 : Int32))) r241_45 rt241 rfl rfl rfl rfl rfl rfl rfl rfl (by decide) hQ
  · refine x_iceqF r241_31 c8 rfl ?_
    refine x_ld (v := .int q6) r241_34 rfl rfl rfl ?_
    refine x_bi (v := 6) r241_35 rfl rfl ?_
    rcases am_ifE h with ⟨c9, h⟩ | ⟨c9, h⟩
    · refine x_icneT r241_37 c9 rfl ?_
      refine x_ic (v := 1) r241_40 rfl rfl ?_
      refine x_goto r241_41 ?_
      cases h
      exact x_ret (ret := some .boolean) (C := narrow .boolean (.int (1 : Int32)) = .int (1 : Int32)) (v := some (.int (1 : Int32))) r241_45 rt241 rfl rfl rfl rfl rfl rfl rfl rfl (by decide) hQ
    · refine x_icneF r241_37 c9 ?_
      refine x_ic (v := 0) r241_44 rfl rfl ?_
      cases h
      exact x_ret (ret := some .boolean) (C := narrow .boolean (.int (0 : Int32)) = .int (0 : Int32)) (v := some (.int (0 : Int32))) r241_45 rt241 rfl rfl rfl rfl rfl rfl rfl rfl (by decide) hQ
theorem m241_ok {N : Nat} {D : am_D} {v1 : Int32} {r : Int32} (h : m241 N D v1 = some r) : am_Y xs L 241 5 0 0 [.ref 91, .int v1] D (.inl (some (.int r))) D := am_Yof (mi := am_m241) (lc := [.ref 91, .int v1, am_dead, am_dead]) pg241 (Nat.le_of_ble_eq_true rfl) (am_rc1 (ci := 5) rfl rfl rfl rfl rfl) rfl (fun Q hQ => m241_w (Nat.le_refl _) h hQ)
theorem r286_0 : am_at 286 0 = some (.aload_n 2, 1, [2]) := by decide +kernel
theorem r286_1 : am_at 286 1 = some (.iconst (0), 1, []) := by decide +kernel
theorem r286_2 : am_at 286 2 = some (.aload_n 0, 1, [0]) := by decide +kernel
theorem r286_3 : am_at 286 3 = some (.iload_n 1, 1, [1]) := by decide +kernel
theorem r286_4 : am_at 286 4 = some (.invokevirtual 99, 3, [29, 2, 1208, 0, 2, 13, 3, 12]) := by decide +kernel
theorem r286_7 : am_at 286 7 = some (.i2l, 1, []) := by decide +kernel
theorem r286_8 : am_at 286 8 = some (.lastore, 1, []) := by decide +kernel
theorem r286_9 : am_at 286 9 = some (.goto (6), 3, [15]) := by decide +kernel
theorem r286_13 : am_at 286 13 = some (.iconst (1), 1, []) := by decide +kernel
theorem r286_14 : am_at 286 14 = some (.ireturn, 1, []) := by decide +kernel
theorem r286_15 : am_at 286 15 = some (.iconst (0), 1, []) := by decide +kernel
theorem r286_16 : am_at 286 16 = some (.ireturn, 1, []) := by decide +kernel
theorem rt286 : am_rtt 286 = some (some .int) := by decide +kernel
set_option maxRecDepth 100000 in
theorem pg286 : am_pg[286]? = some am_m286 := rfl
theorem m286_w {d mc ms : Nat} {N : Nat} {D : am_D} {v1 : Int32} {Q : am_O → am_AH → Prop} (hd : 56 ≤ d) {r : Int32 × am_D} (h : m286 N D v1 = some r) (hE1 : ∀ x : Nat, 0 + 1 ≤ mc) (hE2 : ∀ x : Nat, 0 + 6 ≤ ms) (hQ : Q (.inl (some (.int r.1))) (am_mk r.2)) : am_X xs L 286 d mc ms 0 [.ref 0, .int v1, .ref 124, am_dead] [] (am_mk D) 0 0 Q := by
  unfold m286 at h
  refine x_ld (v := .ref 124) r286_0 rfl rfl rfl ?_
  refine x_ic (v := 0) r286_1 rfl rfl ?_
  refine x_ld (v := .ref 0) r286_2 rfl rfl rfl ?_
  refine x_ld (v := .int v1) r286_3 rfl rfl rfl ?_
  obtain ⟨q1, h2, h⟩ := Option.bind_eq_some_iff.mp h
  rcases am_chE h with ⟨x3, h4, h⟩ | ⟨E7, h4, h⟩
  · refine x_call1 (as := [.ref 0, .int v1]) (rest := [.int (0 : Int32), .ref 124]) r286_4 rfl rfl rfl (by decide) (Nat.le_of_ble_eq_true rfl) (m29_okv h2 h4) (Nat.le_trans (by decide) hd) (Nat.zero_le _) (Nat.zero_le _) rfl ?_
    refine x_ar r286_7 rfl trivial rfl ?_
    obtain ⟨D5, e6, h⟩ := am_ltE h
    refine y_las (n := 1) r286_8 rfl (by decide) (by decide) (e := 0) (by decide) e6 rfl ?_
    refine x_goto r286_9 ?_
    refine x_ic (v := 0) r286_15 rfl rfl ?_
    cases h
    exact x_ret (ret := some .int) (C := True) (v := some (.int _)) r286_16 rt286 rfl rfl rfl rfl rfl rfl rfl rfl trivial hQ
  · rcases am_ifE h with ⟨c8, h⟩ | ⟨c8, h⟩
    · rw [c8] at h4
      refine x_callH (as := [.ref 0, .int v1]) (rest := [.int (0 : Int32), .ref 124]) (p' := 13) (il := 3) r286_4 rfl rfl rfl (by decide) (Nat.le_of_ble_eq_true rfl) (m29_exv h2 h4) (Nat.le_trans (by decide) hd) (hE1 0) (hE2 0) rfl (Nat.le_of_ble_eq_true rfl) ?_
      refine x_ic (v := 1) r286_13 rfl rfl ?_
      cases h
      exact x_ret (ret := some .int) (C := True) (v := some (.int _)) r286_14 rt286 rfl rfl rfl rfl rfl rfl rfl rfl trivial hQ
    · cases h
theorem m286_ok {N : Nat} {D : am_D} {v1 : Int32} {r : Int32 × am_D} (h : m286 N D v1 = some r) : am_Y xs L 286 56 1 6 [.ref 0, .int v1, .ref 124] D (.inl (some (.int r.1))) r.2 := am_Yof (mi := am_m286) (lc := [.ref 0, .int v1, .ref 124, am_dead]) pg286 (Nat.le_of_ble_eq_true rfl) (am_rc0 rfl) rfl (fun Q hQ => m286_w (Nat.le_refl _) h (fun _ => Nat.le_refl _) (fun _ => Nat.le_refl _) hQ)
theorem r12_0 : am_at 12 0 = some (.iload_n 1, 1, [1]) := by decide +kernel
theorem r12_1 : am_at 12 1 = some (.invokestatic 128, 3, [43, 1, 637, 0]) := by decide +kernel
theorem r12_4 : am_at 12 4 = some (.ifCond .ne (13), 3, [17]) := by decide +kernel
theorem r12_7 : am_at 12 7 = some (.new 93, 3, [9, 2, 0, 183, 97, 455, 109, 24, 497]) := by decide +kernel
theorem r12_17 : am_at 12 17 = some (.aload_n 0, 1, [0]) := by decide +kernel
theorem r12_18 : am_at 12 18 = some (.getfield 29, 3, [7, 3, 3, 335]) := by decide +kernel
theorem r12_21 : am_at 12 21 = some (.iload_n 1, 1, [1]) := by decide +kernel
theorem r12_22 : am_at 12 22 = some (.invokevirtual 185, 3, [240, 2, 1028, 0]) := by decide +kernel
theorem r12_25 : am_at 12 25 = some (.ireturn, 1, []) := by decide +kernel
theorem rt12 : am_rtt 12 = some (some .int) := by decide +kernel
set_option maxRecDepth 100000 in
theorem pg12 : am_pg[12]? = some am_m12 := rfl
theorem m12_w {d mc ms : Nat} {N : Nat} {D : am_D} {v1 : Int32} {Q : am_O → am_AH → Prop} (hd : 6 ≤ d) {r : (Int32 ⊕ Nat)} (h : m12 N D v1 = some r) (hE : ∀ E, r = .inr E → 0 + 1 ≤ mc ∧ 0 + 6 ≤ ms) (hQ : Q (am_oI r) (am_mk D)) : am_X xs L 12 d mc ms 0 [.ref 0, .int v1] [] (am_mk D) 0 0 Q := by
  unfold m12 at h
  refine x_ld (v := .int v1) r12_0 rfl rfl rfl ?_
  refine x_call1 (as := [.int v1]) (rest := []) r12_1 rfl rfl rfl (by decide) (Nat.le_of_ble_eq_true rfl) (m43_ok rfl) (Nat.le_trans (by decide) hd) (Nat.zero_le _) (Nat.zero_le _) rfl ?_
  rcases am_ifE h with ⟨c1, h⟩ | ⟨c1, h⟩
  · refine x_ifneT r12_4 c1 rfl ?_
    cases h
    exact x_thr r12_7 (hE _ rfl).1 (hE _ rfl).2 (Nat.le_of_ble_eq_true rfl) hQ
  · refine x_ifneF r12_4 c1 ?_
    refine x_ld (v := .ref 0) r12_17 rfl rfl rfl ?_
    refine y_gf (cd := 93) (v := .ref 91) r12_18 rfl rfl rfl ?_
    refine x_ld (v := .int v1) r12_21 rfl rfl rfl ?_
    obtain ⟨q2, h3, h⟩ := Option.bind_eq_some_iff.mp h
    refine x_call1 (as := [.ref 91, .int v1]) (rest := []) r12_22 rfl rfl rfl (by decide) (Nat.le_of_ble_eq_true rfl) (m240_ok h3) (Nat.le_trans (by decide) hd) (Nat.zero_le _) (Nat.zero_le _) rfl ?_
    cases h
    exact x_ret (ret := some .int) (C := True) (v := some (.int _)) r12_25 rt12 rfl rfl rfl rfl rfl rfl rfl rfl trivial hQ
theorem m12_okv {N : Nat} {D : am_D} {v1 : Int32} {r : (Int32 ⊕ Nat)} {v : Int32} (h : m12 N D v1 = some r) (hv : am_inl r = some v) : am_Y xs L 12 6 0 0 [.ref 0, .int v1] D (.inl (some (.int v))) D := am_Yof (mi := am_m12) (lc := [.ref 0, .int v1]) pg12 (Nat.le_of_ble_eq_true rfl) (am_rc1 (ci := 7) rfl rfl rfl rfl rfl) rfl (fun Q hQ => m12_w (Nat.le_refl _) h (fun E e => by rw [e] at hv; cases hv) (by rw [am_inlE hv]; exact hQ))
theorem m12_exv {N : Nat} {D : am_D} {v1 : Int32} {r : (Int32 ⊕ Nat)} {E : Nat} (h : m12 N D v1 = some r) (hv : r = .inr E) : am_Y xs L 12 6 1 6 [.ref 0, .int v1] D (.inr E) D := am_Yof (mi := am_m12) (lc := [.ref 0, .int v1]) pg12 (Nat.le_of_ble_eq_true rfl) (am_rc1 (ci := 7) rfl rfl rfl rfl rfl) rfl (fun Q hQ => m12_w (Nat.le_refl _) h (fun E e => ⟨Nat.le_refl _, Nat.le_refl _⟩) (by rw [hv]; exact hQ))
theorem r13_0 : am_at 13 0 = some (.aload_n 0, 1, [0]) := by decide +kernel
theorem r13_1 : am_at 13 1 = some (.getfield 29, 3, [7, 3, 3, 335]) := by decide +kernel
theorem r13_4 : am_at 13 4 = some (.iconst (0), 1, []) := by decide +kernel
theorem r13_5 : am_at 13 5 = some (.invokevirtual 188, 3, [241, 2, 1061, 0]) := by decide +kernel
theorem r13_8 : am_at 13 8 = some (.ifCond .ne (13), 3, [21]) := by decide +kernel
theorem r13_11 : am_at 13 11 = some (.new 93, 3, [9, 2, 0, 191, 97, 455, 109, 25, 497]) := by decide +kernel
theorem r13_21 : am_at 13 21 = some (.aload_n 0, 1, [0]) := by decide +kernel
theorem r13_22 : am_at 13 22 = some (.getfield 22, 3, [7, 2, 3, 334]) := by decide +kernel
theorem r13_25 : am_at 13 25 = some (.aload_n 0, 1, [0]) := by decide +kernel
theorem r13_26 : am_at 13 26 = some (.getfield 10, 3, [7, 0, 3, 332]) := by decide +kernel
theorem r13_29 : am_at 13 29 = some (.invokevirtual 81, 3, [168, 2, 820, 0]) := by decide +kernel
theorem r13_32 : am_at 13 32 = some (.iconst (0), 1, []) := by decide +kernel
theorem r13_33 : am_at 13 33 = some (.istore_n 1, 1, [1]) := by decide +kernel
theorem r13_34 : am_at 13 34 = some (.iconst (0), 1, []) := by decide +kernel
theorem r13_35 : am_at 13 35 = some (.istore_n 2, 1, [2]) := by decide +kernel
theorem r13_36 : am_at 13 36 = some (.iload_n 1, 1, [1]) := by decide +kernel
theorem r13_37 : am_at 13 37 = some (.bipush (60), 2, []) := by decide +kernel
theorem r13_39 : am_at 13 39 = some (.if_icmp .ge (42), 3, [81]) := by decide +kernel
theorem r13_42 : am_at 13 42 = some (.iload_n 2, 1, [2]) := by decide +kernel
theorem r13_43 : am_at 13 43 = some (.aload_n 0, 1, [0]) := by decide +kernel
theorem r13_44 : am_at 13 44 = some (.getfield 29, 3, [7, 3, 3, 335]) := by decide +kernel
theorem r13_47 : am_at 13 47 = some (.getfield 177, 3, [5, 1, 0, 256]) := by decide +kernel
theorem r13_50 : am_at 13 50 = some (.if_icmp .ge (31), 3, [81]) := by decide +kernel
theorem r13_53 : am_at 13 53 = some (.aload_n 0, 1, [0]) := by decide +kernel
theorem r13_54 : am_at 13 54 = some (.iload_n 2, 1, [2]) := by decide +kernel
theorem r13_55 : am_at 13 55 = some (.invokevirtual 193, 3, [37, 2, 1066, 0]) := by decide +kernel
theorem r13_58 : am_at 13 58 = some (.ifCond .eq (23), 3, [81]) := by decide +kernel
theorem r13_61 : am_at 13 61 = some (.aload_n 0, 1, [0]) := by decide +kernel
theorem r13_62 : am_at 13 62 = some (.iload_n 2, 1, [2]) := by decide +kernel
theorem r13_63 : am_at 13 63 = some (.invokevirtual 196, 3, [38, 2, 1087, 0]) := by decide +kernel
theorem r13_66 : am_at 13 66 = some (.iinc 1 (1), 3, [1]) := by decide +kernel
theorem r13_69 : am_at 13 69 = some (.aload_n 0, 1, [0]) := by decide +kernel
theorem r13_70 : am_at 13 70 = some (.getfield 29, 3, [7, 3, 3, 335]) := by decide +kernel
theorem r13_73 : am_at 13 73 = some (.iload_n 2, 1, [2]) := by decide +kernel
theorem r13_74 : am_at 13 74 = some (.invokevirtual 199, 3, [239, 2, 1095, 0]) := by decide +kernel
theorem r13_77 : am_at 13 77 = some (.istore_n 2, 1, [2]) := by decide +kernel
theorem r13_78 : am_at 13 78 = some (.goto (-42), 3, [36]) := by decide +kernel
theorem r13_81 : am_at 13 81 = some (.aload_n 0, 1, [0]) := by decide +kernel
theorem r13_82 : am_at 13 82 = some (.getfield 29, 3, [7, 3, 3, 335]) := by decide +kernel
theorem r13_85 : am_at 13 85 = some (.invokevirtual 180, 3, [233, 1, 361, 0]) := by decide +kernel
theorem r13_88 : am_at 13 88 = some (.iload_n 1, 1, [1]) := by decide +kernel
theorem r13_89 : am_at 13 89 = some (.ireturn, 1, []) := by decide +kernel
theorem rt13 : am_rtt 13 = some (some .int) := by decide +kernel
set_option maxRecDepth 100000 in
theorem pg13 : am_pg[13]? = some am_m13 := rfl
theorem m13_L36_w {d : Nat} {N : Nat} {mc ms : Nat} {Q : am_O → am_AH → Prop} (hd : 8 ≤ d) : ∀ (n : Nat) (D : am_D) (v1 : Int32) (v2 : Int32) {q : Int32 × am_D} (h : m13_L36 N  n D v1 v2 = some q) (k0 : am_X xs L 13 d mc ms 81 [.ref 0, .int q.1, am_dead] [] (am_mk q.2) 0 0 Q), am_X xs L 13 d mc ms 36 [.ref 0, .int v1, .int v2] [] (am_mk D) 0 0 Q := by
  intro n
  induction n with
  | zero =>
    intro D v1 v2 q h k0
    exact (nomatch (show none = some q from h))
  | succ n ih =>
    intro D v1 v2 q h k0
    rw [m13_L36] at h
    refine x_ld (v := .int v1) r13_36 rfl rfl rfl ?_
    refine x_bi (v := 60) r13_37 rfl rfl ?_
    rcases am_ifE h with ⟨c6, h⟩ | ⟨c6, h⟩
    · refine x_icgeT r13_39 c6 ?_
      refine x_forget (lc0 := [.ref 0, .int v1, am_dead]) ⟨Or.inl rfl, Or.inl rfl, Or.inr ⟨rfl, rfl⟩, trivial⟩ ?_
      cases h
      exact k0
    · refine x_icgeF r13_39 c6 rfl ?_
      refine x_ld (v := .int v2) r13_42 rfl rfl rfl ?_
      refine x_ld (v := .ref 0) r13_43 rfl rfl rfl ?_
      refine y_gf (cd := 93) (v := .ref 91) r13_44 rfl rfl rfl ?_
      refine y_gf (cd := 0) (v := .int (D.1 91 1)) r13_47 rfl rfl rfl ?_
      rcases am_ifE h with ⟨c7, h⟩ | ⟨c7, h⟩
      · refine x_icgeT r13_50 c7 ?_
        refine x_forget (lc0 := [.ref 0, .int v1, am_dead]) ⟨Or.inl rfl, Or.inl rfl, Or.inr ⟨rfl, rfl⟩, trivial⟩ ?_
        cases h
        exact k0
      · refine x_icgeF r13_50 c7 rfl ?_
        refine x_ld (v := .ref 0) r13_53 rfl rfl rfl ?_
        refine x_ld (v := .int v2) r13_54 rfl rfl rfl ?_
        obtain ⟨q8, h9, h⟩ := Option.bind_eq_some_iff.mp h
        refine x_call1 (as := [.ref 0, .int v2]) (rest := []) r13_55 rfl rfl rfl (by decide) (Nat.le_of_ble_eq_true rfl) (m37_ok h9) (Nat.le_trans (by decide) hd) (Nat.zero_le _) (Nat.zero_le _) rfl ?_
        rcases am_ifE h with ⟨c10, h⟩ | ⟨c10, h⟩
        · refine x_ifeqT r13_58 c10 ?_
          refine x_forget (lc0 := [.ref 0, .int v1, am_dead]) ⟨Or.inl rfl, Or.inl rfl, Or.inr ⟨rfl, rfl⟩, trivial⟩ ?_
          cases h
          exact k0
        · refine x_ifeqF r13_58 c10 rfl ?_
          refine x_ld (v := .ref 0) r13_61 rfl rfl rfl ?_
          refine x_ld (v := .int v2) r13_62 rfl rfl rfl ?_
          obtain ⟨q11, h12, h⟩ := Option.bind_eq_some_iff.mp h
          refine x_call0 (as := [.ref 0, .int v2]) (rest := []) r13_63 rfl rfl rfl (by decide) (Nat.le_of_ble_eq_true rfl) (m38_ok h12) (Nat.le_trans (by decide) hd) (Nat.zero_le _) (Nat.zero_le _) rfl ?_
          obtain ⟨x13, e14, h⟩ := am_ltE h
          refine x_sto (lc' := [.ref 0, .int x13, .int v2]) r13_66 rfl rfl (by subst e14; rfl) rfl ?_
          refine x_ld (v := .ref 0) r13_69 rfl rfl rfl ?_
          refine y_gf (cd := 93) (v := .ref 91) r13_70 rfl rfl rfl ?_
          refine x_ld (v := .int v2) r13_73 rfl rfl rfl ?_
          obtain ⟨q15, h16, h⟩ := Option.bind_eq_some_iff.mp h
          refine x_call1 (as := [.ref 91, .int v2]) (rest := []) r13_74 rfl rfl rfl (by decide) (Nat.le_of_ble_eq_true rfl) (m239_ok h16) (Nat.le_trans (by decide) hd) (Nat.zero_le _) (Nat.zero_le _) rfl ?_
          refine x_sto (lc' := [.ref 0, .int x13, .int q15]) r13_77 rfl rfl rfl rfl ?_
          refine x_goto r13_78 ?_
          exact x_forget (lc0 := [.ref 0, .int x13, .int q15]) ⟨Or.inl rfl, Or.inl rfl, Or.inl rfl, trivial⟩ (ih q11 x13 q15 h k0)
theorem m13_w {d mc ms : Nat} {N : Nat} {D : am_D} {Q : am_O → am_AH → Prop} (hd : 8 ≤ d) {r : (Int32 ⊕ Nat) × am_D} (h : m13 N D = some r) (hE : ∀ E, r.1 = .inr E → 0 + 1 ≤ mc ∧ 0 + 6 ≤ ms) (hQ : Q (am_oI r.1) (am_mk r.2)) : am_X xs L 13 d mc ms 0 [.ref 0, am_dead, am_dead] [] (am_mk D) 0 0 Q := by
  unfold m13 at h
  refine x_ld (v := .ref 0) r13_0 rfl rfl rfl ?_
  refine y_gf (cd := 93) (v := .ref 91) r13_1 rfl rfl rfl ?_
  refine x_ic (v := 0) r13_4 rfl rfl ?_
  obtain ⟨q1, h2, h⟩ := Option.bind_eq_some_iff.mp h
  refine x_call1 (as := [.ref 91, .int (0 : Int32)]) (rest := []) r13_5 rfl rfl rfl (by decide) (Nat.le_of_ble_eq_true rfl) (m241_ok h2) (Nat.le_trans (by decide) hd) (Nat.zero_le _) (Nat.zero_le _) rfl ?_
  rcases am_ifE h with ⟨c3, h⟩ | ⟨c3, h⟩
  · refine x_ifneT r13_8 c3 rfl ?_
    cases h
    exact x_thr r13_11 (hE _ rfl).1 (hE _ rfl).2 (Nat.le_of_ble_eq_true rfl) hQ
  · refine x_ifneF r13_8 c3 ?_
    refine x_ld (v := .ref 0) r13_21 rfl rfl rfl ?_
    refine y_gf (cd := 25) (v := .ref 23) r13_22 rfl rfl rfl ?_
    refine x_ld (v := .ref 0) r13_25 rfl rfl rfl ?_
    refine y_gf (cd := 3) (v := .ref 1) r13_26 rfl rfl rfl ?_
    obtain ⟨q4, h5, h⟩ := Option.bind_eq_some_iff.mp h
    refine x_call0 (as := [.ref 23, .ref 1]) (rest := []) r13_29 rfl rfl rfl (by decide) (Nat.le_of_ble_eq_true rfl) (m168_ok h5) (Nat.le_trans (by decide) hd) (Nat.zero_le _) (Nat.zero_le _) rfl ?_
    refine x_ic (v := 0) r13_32 rfl rfl ?_
    refine x_sto (lc' := [.ref 0, .int (0 : Int32), am_dead]) r13_33 rfl rfl rfl rfl ?_
    refine x_ic (v := 0) r13_34 rfl rfl ?_
    refine x_sto (lc' := [.ref 0, .int (0 : Int32), .int (0 : Int32)]) r13_35 rfl rfl rfl rfl ?_
    obtain ⟨q17, h18, h⟩ := Option.bind_eq_some_iff.mp h
    refine x_forget (lc0 := [.ref 0, .int (0 : Int32), .int (0 : Int32)]) ⟨Or.inl rfl, Or.inl rfl, Or.inl rfl, trivial⟩ (m13_L36_w hd N q4 (0 : Int32) (0 : Int32) h18 ?_)
    refine x_ld (v := .ref 0) r13_81 rfl rfl rfl ?_
    refine y_gf (cd := 93) (v := .ref 91) r13_82 rfl rfl rfl ?_
    obtain ⟨q19, h20, h⟩ := am_ltE h
    replace h20 := h20.symm
    refine x_call0 (as := [.ref 91]) (rest := []) r13_85 rfl rfl rfl (by decide) (Nat.le_of_ble_eq_true rfl) (m233_ok h20) (Nat.le_trans (by decide) hd) (Nat.zero_le _) (Nat.zero_le _) rfl ?_
    refine x_ld (v := .int q17.1) r13_88 rfl rfl rfl ?_
    cases h
    exact x_ret (ret := some .int) (C := True) (v := some (.int _)) r13_89 rt13 rfl rfl rfl rfl rfl rfl rfl rfl trivial hQ
theorem m13_okv {N : Nat} {D : am_D} {r : (Int32 ⊕ Nat) × am_D} {v : Int32} (h : m13 N D = some r) (hv : am_inl r.1 = some v) : am_Y xs L 13 8 0 0 [.ref 0] D (.inl (some (.int v))) r.2 := am_Yof (mi := am_m13) (lc := [.ref 0, am_dead, am_dead]) pg13 (Nat.le_of_ble_eq_true rfl) (am_rc1 (ci := 7) rfl rfl rfl rfl rfl) rfl (fun Q hQ => m13_w (Nat.le_refl _) h (fun E e => by rw [e] at hv; cases hv) (by rw [am_inlE hv]; exact hQ))
theorem m13_exv {N : Nat} {D : am_D} {r : (Int32 ⊕ Nat) × am_D} {E : Nat} (h : m13 N D = some r) (hv : r.1 = .inr E) : am_Y xs L 13 8 1 6 [.ref 0] D (.inr E) r.2 := am_Yof (mi := am_m13) (lc := [.ref 0, am_dead, am_dead]) pg13 (Nat.le_of_ble_eq_true rfl) (am_rc1 (ci := 7) rfl rfl rfl rfl rfl) rfl (fun Q hQ => m13_w (Nat.le_refl _) h (fun E e => ⟨Nat.le_refl _, Nat.le_refl _⟩) (by rw [hv]; exact hQ))
theorem r14_0 : am_at 14 0 = some (.aload_n 0, 1, [0]) := by decide +kernel
theorem r14_1 : am_at 14 1 = some (.getfield 29, 3, [7, 3, 3, 335]) := by decide +kernel
theorem r14_4 : am_at 14 4 = some (.iconst (1), 1, []) := by decide +kernel
theorem r14_5 : am_at 14 5 = some (.invokevirtual 188, 3, [241, 2, 1061, 0]) := by decide +kernel
theorem r14_8 : am_at 14 8 = some (.ifCond .ne (13), 3, [21]) := by decide +kernel
theorem r14_11 : am_at 14 11 = some (.new 93, 3, [9, 2, 0, 202, 97, 455, 109, 26, 497]) := by decide +kernel
theorem r14_21 : am_at 14 21 = some (.aload_n 0, 1, [0]) := by decide +kernel
theorem r14_22 : am_at 14 22 = some (.getfield 22, 3, [7, 2, 3, 334]) := by decide +kernel
theorem r14_25 : am_at 14 25 = some (.aload_n 0, 1, [0]) := by decide +kernel
theorem r14_26 : am_at 14 26 = some (.getfield 10, 3, [7, 0, 3, 332]) := by decide +kernel
theorem r14_29 : am_at 14 29 = some (.invokevirtual 81, 3, [168, 2, 820, 0]) := by decide +kernel
theorem r14_32 : am_at 14 32 = some (.aload_n 0, 1, [0]) := by decide +kernel
theorem r14_33 : am_at 14 33 = some (.invokevirtual 204, 3, [39, 1, 1107, 0]) := by decide +kernel
theorem r14_36 : am_at 14 36 = some (.istore_n 1, 1, [1]) := by decide +kernel
theorem r14_37 : am_at 14 37 = some (.aload_n 0, 1, [0]) := by decide +kernel
theorem r14_38 : am_at 14 38 = some (.getfield 29, 3, [7, 3, 3, 335]) := by decide +kernel
theorem r14_41 : am_at 14 41 = some (.invokevirtual 180, 3, [233, 1, 361, 0]) := by decide +kernel
theorem r14_44 : am_at 14 44 = some (.iload_n 1, 1, [1]) := by decide +kernel
theorem r14_45 : am_at 14 45 = some (.ireturn, 1, []) := by decide +kernel
theorem rt14 : am_rtt 14 = some (some .int) := by decide +kernel
set_option maxRecDepth 100000 in
theorem pg14 : am_pg[14]? = some am_m14 := rfl
theorem m14_w {d mc ms : Nat} {N : Nat} {D : am_D} {Q : am_O → am_AH → Prop} (hd : 6 ≤ d) {r : (Int32 ⊕ Nat) × am_D} (h : m14 N D = some r) (hE : ∀ E, r.1 = .inr E → 0 + 1 ≤ mc ∧ 0 + 6 ≤ ms) (hQ : Q (am_oI r.1) (am_mk r.2)) : am_X xs L 14 d mc ms 0 [.ref 0, am_dead] [] (am_mk D) 0 0 Q := by
  unfold m14 at h
  refine x_ld (v := .ref 0) r14_0 rfl rfl rfl ?_
  refine y_gf (cd := 93) (v := .ref 91) r14_1 rfl rfl rfl ?_
  refine x_ic (v := 1) r14_4 rfl rfl ?_
  obtain ⟨q1, h2, h⟩ := Option.bind_eq_some_iff.mp h
  refine x_call1 (as := [.ref 91, .int (1 : Int32)]) (rest := []) r14_5 rfl rfl rfl (by decide) (Nat.le_of_ble_eq_true rfl) (m241_ok h2) (Nat.le_trans (by decide) hd) (Nat.zero_le _) (Nat.zero_le _) rfl ?_
  rcases am_ifE h with ⟨c3, h⟩ | ⟨c3, h⟩
  · refine x_ifneT r14_8 c3 rfl ?_
    cases h
    exact x_thr r14_11 (hE _ rfl).1 (hE _ rfl).2 (Nat.le_of_ble_eq_true rfl) hQ
  · refine x_ifneF r14_8 c3 ?_
    refine x_ld (v := .ref 0) r14_21 rfl rfl rfl ?_
    refine y_gf (cd := 25) (v := .ref 23) r14_22 rfl rfl rfl ?_
    refine x_ld (v := .ref 0) r14_25 rfl rfl rfl ?_
    refine y_gf (cd := 3) (v := .ref 1) r14_26 rfl rfl rfl ?_
    obtain ⟨q4, h5, h⟩ := Option.bind_eq_some_iff.mp h
    refine x_call0 (as := [.ref 23, .ref 1]) (rest := []) r14_29 rfl rfl rfl (by decide) (Nat.le_of_ble_eq_true rfl) (m168_ok h5) (Nat.le_trans (by decide) hd) (Nat.zero_le _) (Nat.zero_le _) rfl ?_
    refine x_ld (v := .ref 0) r14_32 rfl rfl rfl ?_
    obtain ⟨q6, h7, h⟩ := Option.bind_eq_some_iff.mp h
    refine x_call1 (as := [.ref 0]) (rest := []) r14_33 rfl rfl rfl (by decide) (Nat.le_of_ble_eq_true rfl) (m39_ok h7) (Nat.le_trans (by decide) hd) (Nat.zero_le _) (Nat.zero_le _) rfl ?_
    refine x_sto (lc' := [.ref 0, .int q6.1]) r14_36 rfl rfl rfl rfl ?_
    refine x_ld (v := .ref 0) r14_37 rfl rfl rfl ?_
    refine y_gf (cd := 93) (v := .ref 91) r14_38 rfl rfl rfl ?_
    obtain ⟨q8, h9, h⟩ := am_ltE h
    replace h9 := h9.symm
    refine x_call0 (as := [.ref 91]) (rest := []) r14_41 rfl rfl rfl (by decide) (Nat.le_of_ble_eq_true rfl) (m233_ok h9) (Nat.le_trans (by decide) hd) (Nat.zero_le _) (Nat.zero_le _) rfl ?_
    refine x_ld (v := .int q6.1) r14_44 rfl rfl rfl ?_
    cases h
    exact x_ret (ret := some .int) (C := True) (v := some (.int _)) r14_45 rt14 rfl rfl rfl rfl rfl rfl rfl rfl trivial hQ
theorem m14_okv {N : Nat} {D : am_D} {r : (Int32 ⊕ Nat) × am_D} {v : Int32} (h : m14 N D = some r) (hv : am_inl r.1 = some v) : am_Y xs L 14 6 0 0 [.ref 0] D (.inl (some (.int v))) r.2 := am_Yof (mi := am_m14) (lc := [.ref 0, am_dead]) pg14 (Nat.le_of_ble_eq_true rfl) (am_rc1 (ci := 7) rfl rfl rfl rfl rfl) rfl (fun Q hQ => m14_w (Nat.le_refl _) h (fun E e => by rw [e] at hv; cases hv) (by rw [am_inlE hv]; exact hQ))
theorem m14_exv {N : Nat} {D : am_D} {r : (Int32 ⊕ Nat) × am_D} {E : Nat} (h : m14 N D = some r) (hv : r.1 = .inr E) : am_Y xs L 14 6 1 6 [.ref 0] D (.inr E) r.2 := am_Yof (mi := am_m14) (lc := [.ref 0, am_dead]) pg14 (Nat.le_of_ble_eq_true rfl) (am_rc1 (ci := 7) rfl rfl rfl rfl rfl) rfl (fun Q hQ => m14_w (Nat.le_refl _) h (fun E e => ⟨Nat.le_refl _, Nat.le_refl _⟩) (by rw [hv]; exact hQ))
theorem r270_0 : am_at 270 0 = some (.aload_n 2, 1, [2]) := by decide +kernel
theorem r270_1 : am_at 270 1 = some (.iconst (0), 1, []) := by decide +kernel
theorem r270_2 : am_at 270 2 = some (.aload_n 0, 1, [0]) := by decide +kernel
theorem r270_3 : am_at 270 3 = some (.iload_n 1, 1, [1]) := by decide +kernel
theorem r270_4 : am_at 270 4 = some (.invokevirtual 49, 3, [12, 2, 1023, 0, 2, 13, 3, 12]) := by decide +kernel
theorem r270_7 : am_at 270 7 = some (.i2l, 1, []) := by decide +kernel
theorem r270_8 : am_at 270 8 = some (.lastore, 1, []) := by decide +kernel
theorem r270_9 : am_at 270 9 = some (.goto (6), 3, [15]) := by decide +kernel
theorem r270_13 : am_at 270 13 = some (.iconst (1), 1, []) := by decide +kernel
theorem r270_14 : am_at 270 14 = some (.ireturn, 1, []) := by decide +kernel
theorem r270_15 : am_at 270 15 = some (.iconst (0), 1, []) := by decide +kernel
theorem r270_16 : am_at 270 16 = some (.ireturn, 1, []) := by decide +kernel
theorem rt270 : am_rtt 270 = some (some .int) := by decide +kernel
set_option maxRecDepth 100000 in
theorem pg270 : am_pg[270]? = some am_m270 := rfl
theorem m270_w {d mc ms : Nat} {N : Nat} {D : am_D} {v1 : Int32} {Q : am_O → am_AH → Prop} (hd : 7 ≤ d) {r : Int32 × am_D} (h : m270 N D v1 = some r) (hE1 : ∀ x : Nat, 0 + 1 ≤ mc) (hE2 : ∀ x : Nat, 0 + 6 ≤ ms) (hQ : Q (.inl (some (.int r.1))) (am_mk r.2)) : am_X xs L 270 d mc ms 0 [.ref 0, .int v1, .ref 124, am_dead] [] (am_mk D) 0 0 Q := by
  unfold m270 at h
  refine x_ld (v := .ref 124) r270_0 rfl rfl rfl ?_
  refine x_ic (v := 0) r270_1 rfl rfl ?_
  refine x_ld (v := .ref 0) r270_2 rfl rfl rfl ?_
  refine x_ld (v := .int v1) r270_3 rfl rfl rfl ?_
  obtain ⟨q1, h2, h⟩ := Option.bind_eq_some_iff.mp h
  rcases am_chE h with ⟨x3, h4, h⟩ | ⟨E7, h4, h⟩
  · refine x_call1 (as := [.ref 0, .int v1]) (rest := [.int (0 : Int32), .ref 124]) r270_4 rfl rfl rfl (by decide) (Nat.le_of_ble_eq_true rfl) (m12_okv h2 h4) (Nat.le_trans (by decide) hd) (Nat.zero_le _) (Nat.zero_le _) rfl ?_
    refine x_ar r270_7 rfl trivial rfl ?_
    obtain ⟨D5, e6, h⟩ := am_ltE h
    refine y_las (n := 1) r270_8 rfl (by decide) (by decide) (e := 0) (by decide) e6 rfl ?_
    refine x_goto r270_9 ?_
    refine x_ic (v := 0) r270_15 rfl rfl ?_
    cases h
    exact x_ret (ret := some .int) (C := True) (v := some (.int _)) r270_16 rt270 rfl rfl rfl rfl rfl rfl rfl rfl trivial hQ
  · rcases am_ifE h with ⟨c8, h⟩ | ⟨c8, h⟩
    · rw [c8] at h4
      refine x_callH (as := [.ref 0, .int v1]) (rest := [.int (0 : Int32), .ref 124]) (p' := 13) (il := 3) r270_4 rfl rfl rfl (by decide) (Nat.le_of_ble_eq_true rfl) (m12_exv h2 h4) (Nat.le_trans (by decide) hd) (hE1 0) (hE2 0) rfl (Nat.le_of_ble_eq_true rfl) ?_
      refine x_ic (v := 1) r270_13 rfl rfl ?_
      cases h
      exact x_ret (ret := some .int) (C := True) (v := some (.int _)) r270_14 rt270 rfl rfl rfl rfl rfl rfl rfl rfl trivial hQ
    · cases h
theorem m270_ok {N : Nat} {D : am_D} {v1 : Int32} {r : Int32 × am_D} (h : m270 N D v1 = some r) : am_Y xs L 270 7 1 6 [.ref 0, .int v1, .ref 124] D (.inl (some (.int r.1))) r.2 := am_Yof (mi := am_m270) (lc := [.ref 0, .int v1, .ref 124, am_dead]) pg270 (Nat.le_of_ble_eq_true rfl) (am_rc0 rfl) rfl (fun Q hQ => m270_w (Nat.le_refl _) h (fun _ => Nat.le_refl _) (fun _ => Nat.le_refl _) hQ)
theorem r271_0 : am_at 271 0 = some (.aload_n 1, 1, [1]) := by decide +kernel
theorem r271_1 : am_at 271 1 = some (.iconst (0), 1, []) := by decide +kernel
theorem r271_2 : am_at 271 2 = some (.aload_n 0, 1, [0]) := by decide +kernel
theorem r271_3 : am_at 271 3 = some (.invokevirtual 52, 3, [13, 1, 1057, 0, 2, 12, 2, 11]) := by decide +kernel
theorem r271_6 : am_at 271 6 = some (.i2l, 1, []) := by decide +kernel
theorem r271_7 : am_at 271 7 = some (.lastore, 1, []) := by decide +kernel
theorem r271_8 : am_at 271 8 = some (.goto (6), 3, [14]) := by decide +kernel
theorem r271_12 : am_at 271 12 = some (.iconst (1), 1, []) := by decide +kernel
theorem r271_13 : am_at 271 13 = some (.ireturn, 1, []) := by decide +kernel
theorem r271_14 : am_at 271 14 = some (.iconst (0), 1, []) := by decide +kernel
theorem r271_15 : am_at 271 15 = some (.ireturn, 1, []) := by decide +kernel
theorem rt271 : am_rtt 271 = some (some .int) := by decide +kernel
set_option maxRecDepth 100000 in
theorem pg271 : am_pg[271]? = some am_m271 := rfl
theorem m271_w {d mc ms : Nat} {N : Nat} {D : am_D} {Q : am_O → am_AH → Prop} (hd : 9 ≤ d) {r : Int32 × am_D} (h : m271 N D = some r) (hE1 : ∀ x : Nat, 0 + 1 ≤ mc) (hE2 : ∀ x : Nat, 0 + 6 ≤ ms) (hQ : Q (.inl (some (.int r.1))) (am_mk r.2)) : am_X xs L 271 d mc ms 0 [.ref 0, .ref 124, am_dead] [] (am_mk D) 0 0 Q := by
  unfold m271 at h
  refine x_ld (v := .ref 124) r271_0 rfl rfl rfl ?_
  refine x_ic (v := 0) r271_1 rfl rfl ?_
  refine x_ld (v := .ref 0) r271_2 rfl rfl rfl ?_
  obtain ⟨q1, h2, h⟩ := Option.bind_eq_some_iff.mp h
  rcases am_chE h with ⟨x3, h4, h⟩ | ⟨E7, h4, h⟩
  · refine x_call1 (as := [.ref 0]) (rest := [.int (0 : Int32), .ref 124]) r271_3 rfl rfl rfl (by decide) (Nat.le_of_ble_eq_true rfl) (m13_okv h2 h4) (Nat.le_trans (by decide) hd) (Nat.zero_le _) (Nat.zero_le _) rfl ?_
    refine x_ar r271_6 rfl trivial rfl ?_
    obtain ⟨D5, e6, h⟩ := am_ltE h
    refine y_las (n := 1) r271_7 rfl (by decide) (by decide) (e := 0) (by decide) e6 rfl ?_
    refine x_goto r271_8 ?_
    refine x_ic (v := 0) r271_14 rfl rfl ?_
    cases h
    exact x_ret (ret := some .int) (C := True) (v := some (.int _)) r271_15 rt271 rfl rfl rfl rfl rfl rfl rfl rfl trivial hQ
  · rcases am_ifE h with ⟨c8, h⟩ | ⟨c8, h⟩
    · rw [c8] at h4
      refine x_callH (as := [.ref 0]) (rest := [.int (0 : Int32), .ref 124]) (p' := 12) (il := 2) r271_3 rfl rfl rfl (by decide) (Nat.le_of_ble_eq_true rfl) (m13_exv h2 h4) (Nat.le_trans (by decide) hd) (hE1 0) (hE2 0) rfl (Nat.le_of_ble_eq_true rfl) ?_
      refine x_ic (v := 1) r271_12 rfl rfl ?_
      cases h
      exact x_ret (ret := some .int) (C := True) (v := some (.int _)) r271_13 rt271 rfl rfl rfl rfl rfl rfl rfl rfl trivial hQ
    · cases h
theorem m271_ok {N : Nat} {D : am_D} {r : Int32 × am_D} (h : m271 N D = some r) : am_Y xs L 271 9 1 6 [.ref 0, .ref 124] D (.inl (some (.int r.1))) r.2 := am_Yof (mi := am_m271) (lc := [.ref 0, .ref 124, am_dead]) pg271 (Nat.le_of_ble_eq_true rfl) (am_rc0 rfl) rfl (fun Q hQ => m271_w (Nat.le_refl _) h (fun _ => Nat.le_refl _) (fun _ => Nat.le_refl _) hQ)
theorem r272_0 : am_at 272 0 = some (.aload_n 1, 1, [1]) := by decide +kernel
theorem r272_1 : am_at 272 1 = some (.iconst (0), 1, []) := by decide +kernel
theorem r272_2 : am_at 272 2 = some (.aload_n 0, 1, [0]) := by decide +kernel
theorem r272_3 : am_at 272 3 = some (.invokevirtual 55, 3, [14, 1, 1102, 0, 2, 12, 2, 11]) := by decide +kernel
theorem r272_6 : am_at 272 6 = some (.i2l, 1, []) := by decide +kernel
theorem r272_7 : am_at 272 7 = some (.lastore, 1, []) := by decide +kernel
theorem r272_8 : am_at 272 8 = some (.goto (6), 3, [14]) := by decide +kernel
theorem r272_12 : am_at 272 12 = some (.iconst (1), 1, []) := by decide +kernel
theorem r272_13 : am_at 272 13 = some (.ireturn, 1, []) := by decide +kernel
theorem r272_14 : am_at 272 14 = some (.iconst (0), 1, []) := by decide +kernel
theorem r272_15 : am_at 272 15 = some (.ireturn, 1, []) := by decide +kernel
theorem rt272 : am_rtt 272 = some (some .int) := by decide +kernel
set_option maxRecDepth 100000 in
theorem pg272 : am_pg[272]? = some am_m272 := rfl
theorem m272_w {d mc ms : Nat} {N : Nat} {D : am_D} {Q : am_O → am_AH → Prop} (hd : 7 ≤ d) {r : Int32 × am_D} (h : m272 N D = some r) (hE1 : ∀ x : Nat, 0 + 1 ≤ mc) (hE2 : ∀ x : Nat, 0 + 6 ≤ ms) (hQ : Q (.inl (some (.int r.1))) (am_mk r.2)) : am_X xs L 272 d mc ms 0 [.ref 0, .ref 124, am_dead] [] (am_mk D) 0 0 Q := by
  unfold m272 at h
  refine x_ld (v := .ref 124) r272_0 rfl rfl rfl ?_
  refine x_ic (v := 0) r272_1 rfl rfl ?_
  refine x_ld (v := .ref 0) r272_2 rfl rfl rfl ?_
  obtain ⟨q1, h2, h⟩ := Option.bind_eq_some_iff.mp h
  rcases am_chE h with ⟨x3, h4, h⟩ | ⟨E7, h4, h⟩
  · refine x_call1 (as := [.ref 0]) (rest := [.int (0 : Int32), .ref 124]) r272_3 rfl rfl rfl (by decide) (Nat.le_of_ble_eq_true rfl) (m14_okv h2 h4) (Nat.le_trans (by decide) hd) (Nat.zero_le _) (Nat.zero_le _) rfl ?_
    refine x_ar r272_6 rfl trivial rfl ?_
    obtain ⟨D5, e6, h⟩ := am_ltE h
    refine y_las (n := 1) r272_7 rfl (by decide) (by decide) (e := 0) (by decide) e6 rfl ?_
    refine x_goto r272_8 ?_
    refine x_ic (v := 0) r272_14 rfl rfl ?_
    cases h
    exact x_ret (ret := some .int) (C := True) (v := some (.int _)) r272_15 rt272 rfl rfl rfl rfl rfl rfl rfl rfl trivial hQ
  · rcases am_ifE h with ⟨c8, h⟩ | ⟨c8, h⟩
    · rw [c8] at h4
      refine x_callH (as := [.ref 0]) (rest := [.int (0 : Int32), .ref 124]) (p' := 12) (il := 2) r272_3 rfl rfl rfl (by decide) (Nat.le_of_ble_eq_true rfl) (m14_exv h2 h4) (Nat.le_trans (by decide) hd) (hE1 0) (hE2 0) rfl (Nat.le_of_ble_eq_true rfl) ?_
      refine x_ic (v := 1) r272_12 rfl rfl ?_
      cases h
      exact x_ret (ret := some .int) (C := True) (v := some (.int _)) r272_13 rt272 rfl rfl rfl rfl rfl rfl rfl rfl trivial hQ
    · cases h
theorem m272_ok {N : Nat} {D : am_D} {r : Int32 × am_D} (h : m272 N D = some r) : am_Y xs L 272 7 1 6 [.ref 0, .ref 124] D (.inl (some (.int r.1))) r.2 := am_Yof (mi := am_m272) (lc := [.ref 0, .ref 124, am_dead]) pg272 (Nat.le_of_ble_eq_true rfl) (am_rc0 rfl) rfl (fun Q hQ => m272_w (Nat.le_refl _) h (fun _ => Nat.le_refl _) (fun _ => Nat.le_refl _) hQ)
end XE
