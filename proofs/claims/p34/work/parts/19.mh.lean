/-! walks (by wip/p34/tools/decomp.py): 27 28 172 291 294 29 -/
section XE
variable {xs : Nat → Int32} {L : Nat}
theorem r27_0 : am_at 27 0 = some (.iload_n 1, 1, [1]) := by decide +kernel
theorem r27_1 : am_at 27 1 = some (.invokestatic 58, 3, [40, 1, 516, 0]) := by decide +kernel
theorem r27_4 : am_at 27 4 = some (.ifCond .eq (17), 3, [21]) := by decide +kernel
theorem r27_7 : am_at 27 7 = some (.iload_n 2, 1, [2]) := by decide +kernel
theorem r27_8 : am_at 27 8 = some (.invokestatic 58, 3, [40, 1, 516, 0]) := by decide +kernel
theorem r27_11 : am_at 27 11 = some (.ifCond .eq (10), 3, [21]) := by decide +kernel
theorem r27_14 : am_at 27 14 = some (.iload_n 3, 1, [3]) := by decide +kernel
theorem r27_15 : am_at 27 15 = some (.invokestatic 62, 3, [41, 1, 460, 0]) := by decide +kernel
theorem r27_18 : am_at 27 18 = some (.ifCond .ne (13), 3, [31]) := by decide +kernel
theorem r27_21 : am_at 27 21 = some (.new 65, 3, [9, 1, 0, 67, 69, 463, 34, 11, 473]) := by decide +kernel
theorem r27_31 : am_at 27 31 = some (.aload_n 0, 1, [0]) := by decide +kernel
theorem r27_32 : am_at 27 32 = some (.iload_n 1, 1, [1]) := by decide +kernel
theorem r27_33 : am_at 27 33 = some (.iconst (1), 1, []) := by decide +kernel
theorem r27_34 : am_at 27 34 = some (.invokevirtual 372, 3, [24, 3, 929, 0]) := by decide +kernel
theorem r27_37 : am_at 27 37 = some (.istore 4, 2, [4]) := by decide +kernel
theorem r27_39 : am_at 27 39 = some (.iload 4, 2, [4]) := by decide +kernel
theorem r27_41 : am_at 27 41 = some (.ifCond .ne (7), 3, [48]) := by decide +kernel
theorem r27_44 : am_at 27 44 = some (.dconst 0, 1, []) := by decide +kernel
theorem r27_45 : am_at 27 45 = some (.goto (15), 3, [60]) := by decide +kernel
theorem r27_48 : am_at 27 48 = some (.aload_n 0, 1, [0]) := by decide +kernel
theorem r27_49 : am_at 27 49 = some (.iload_n 1, 1, [1]) := by decide +kernel
theorem r27_50 : am_at 27 50 = some (.iload_n 2, 1, [2]) := by decide +kernel
theorem r27_51 : am_at 27 51 = some (.iload_n 3, 1, [3]) := by decide +kernel
theorem r27_52 : am_at 27 52 = some (.invokevirtual 375, 3, [25, 4, 930, 0]) := by decide +kernel
theorem r27_55 : am_at 27 55 = some (.i2d, 1, []) := by decide +kernel
theorem r27_56 : am_at 27 56 = some (.iload 4, 2, [4]) := by decide +kernel
theorem r27_58 : am_at 27 58 = some (.i2d, 1, []) := by decide +kernel
theorem r27_59 : am_at 27 59 = some (.ddiv, 1, []) := by decide +kernel
theorem r27_60 : am_at 27 60 = some (.dreturn, 1, []) := by decide +kernel
theorem rt27 : am_rtt 27 = some (some .double) := by decide +kernel
set_option maxRecDepth 100000 in
theorem pg27 : am_pg[27]? = some am_m27 := rfl
theorem m27_w {d mc ms : Nat} {N : Nat} {D : am_D} {v1 : Int32} {v2 : Int32} {v3 : Int32} {Q : am_O → am_AH → Prop} (hd : 6 ≤ d) {r : (UInt64 ⊕ Nat) × am_D} (h : m27 N D v1 v2 v3 = some r) (hE : ∀ E, r.1 = .inr E → 0 + 1 ≤ mc ∧ 0 + 6 ≤ ms) (hQ : Q (am_oD r.1) (am_mk r.2)) : am_X xs L 27 d mc ms 0 [.ref 0, .int v1, .int v2, .int v3, am_dead] [] (am_mk D) 0 0 Q := by
  unfold m27 at h
  refine x_ld (v := .int v1) r27_0 rfl rfl rfl ?_
  refine x_call1 (as := [.int v1]) (rest := []) r27_1 rfl rfl rfl (by decide) (Nat.le_of_ble_eq_true rfl) (m40_ok rfl) (Nat.le_trans (by decide) hd) (Nat.zero_le _) (Nat.zero_le _) rfl ?_
  rcases am_ifE h with ⟨c1, h⟩ | ⟨c1, h⟩
  · refine x_ifeqT r27_4 c1 ?_
    cases h
    exact x_thr r27_21 (hE _ rfl).1 (hE _ rfl).2 (Nat.le_of_ble_eq_true rfl) hQ
  · refine x_ifeqF r27_4 c1 rfl ?_
    refine x_ld (v := .int v2) r27_7 rfl rfl rfl ?_
    refine x_call1 (as := [.int v2]) (rest := []) r27_8 rfl rfl rfl (by decide) (Nat.le_of_ble_eq_true rfl) (m40_ok rfl) (Nat.le_trans (by decide) hd) (Nat.zero_le _) (Nat.zero_le _) rfl ?_
    rcases am_ifE h with ⟨c2, h⟩ | ⟨c2, h⟩
    · refine x_ifeqT r27_11 c2 ?_
      cases h
      exact x_thr r27_21 (hE _ rfl).1 (hE _ rfl).2 (Nat.le_of_ble_eq_true rfl) hQ
    · refine x_ifeqF r27_11 c2 rfl ?_
      refine x_ld (v := .int v3) r27_14 rfl rfl rfl ?_
      refine x_call1 (as := [.int v3]) (rest := []) r27_15 rfl rfl rfl (by decide) (Nat.le_of_ble_eq_true rfl) (m41_ok rfl) (Nat.le_trans (by decide) hd) (Nat.zero_le _) (Nat.zero_le _) rfl ?_
      rcases am_ifE h with ⟨c3, h⟩ | ⟨c3, h⟩
      · refine x_ifneT r27_18 c3 rfl ?_
        cases h
        exact x_thr r27_21 (hE _ rfl).1 (hE _ rfl).2 (Nat.le_of_ble_eq_true rfl) hQ
      · refine x_ifneF r27_18 c3 ?_
        refine x_ld (v := .ref 0) r27_31 rfl rfl rfl ?_
        refine x_ld (v := .int v1) r27_32 rfl rfl rfl ?_
        refine x_ic (v := 1) r27_33 rfl rfl ?_
        obtain ⟨q4, h5, h⟩ := Option.bind_eq_some_iff.mp h
        obtain ⟨x6, h7, h⟩ := Option.bind_eq_some_iff.mp h
        refine x_call1 (as := [.ref 0, .int v1, .int (1 : Int32)]) (rest := []) r27_34 rfl rfl rfl (by decide) (Nat.le_of_ble_eq_true rfl) (m24_okv h5 h7) (Nat.le_trans (by decide) hd) (Nat.zero_le _) (Nat.zero_le _) rfl ?_
        refine x_sto (lc' := [.ref 0, .int v1, .int v2, .int v3, .int x6]) r27_37 rfl rfl rfl rfl ?_
        refine x_ld (v := .int x6) r27_39 rfl rfl rfl ?_
        obtain ⟨q8, h10, h⟩ := Option.bind_eq_some_iff.mp h
        have kj9 : am_X xs L 27 d mc ms 60 [.ref 0, .int v1, .int v2, .int v3, .int x6] [.double q8.1] (am_mk q8.2) 0 0 Q := by
          cases h
          exact x_ret (ret := some .double) (C := True) (v := some (.double _)) r27_60 rt27 rfl rfl rfl rfl rfl rfl rfl rfl trivial hQ
        rcases am_ifE h10 with ⟨c11, h10⟩ | ⟨c11, h10⟩
        · refine x_ifneT r27_41 c11 rfl ?_
          refine x_ar r27_44 rfl trivial rfl ?_
          refine x_goto r27_45 ?_
          cases h10
          exact kj9
        · refine x_ifneF r27_41 c11 ?_
          refine x_ld (v := .ref 0) r27_48 rfl rfl rfl ?_
          refine x_ld (v := .int v1) r27_49 rfl rfl rfl ?_
          refine x_ld (v := .int v2) r27_50 rfl rfl rfl ?_
          refine x_ld (v := .int v3) r27_51 rfl rfl rfl ?_
          obtain ⟨q12, h13, h10⟩ := Option.bind_eq_some_iff.mp h10
          obtain ⟨x14, h15, h10⟩ := Option.bind_eq_some_iff.mp h10
          refine x_call1 (as := [.ref 0, .int v1, .int v2, .int v3]) (rest := []) r27_52 rfl rfl rfl (by decide) (Nat.le_of_ble_eq_true rfl) (m25_okv h13 h15) (Nat.le_trans (by decide) hd) (Nat.zero_le _) (Nat.zero_le _) rfl ?_
          refine x_ar r27_55 rfl trivial rfl ?_
          refine x_ld (v := .int x6) r27_56 rfl rfl rfl ?_
          refine x_ar r27_58 rfl trivial rfl ?_
          obtain ⟨g16, h10⟩ := am_gdE h10
          refine x_ar r27_59 rfl g16 rfl ?_
          cases h10
          exact kj9
theorem m27_okv {N : Nat} {D : am_D} {v1 : Int32} {v2 : Int32} {v3 : Int32} {r : (UInt64 ⊕ Nat) × am_D} {v : UInt64} (h : m27 N D v1 v2 v3 = some r) (hv : am_inl r.1 = some v) : am_Y xs L 27 6 0 0 [.ref 0, .int v1, .int v2, .int v3] D (.inl (some (.double v))) r.2 := am_Yof (mi := am_m27) (lc := [.ref 0, .int v1, .int v2, .int v3, am_dead]) pg27 (Nat.le_of_ble_eq_true rfl) (am_rc1 (ci := 7) rfl rfl rfl rfl rfl) rfl (fun Q hQ => m27_w (Nat.le_refl _) h (fun E e => by rw [e] at hv; cases hv) (by rw [am_inlE hv]; exact hQ))
theorem m27_exv {N : Nat} {D : am_D} {v1 : Int32} {v2 : Int32} {v3 : Int32} {r : (UInt64 ⊕ Nat) × am_D} {E : Nat} (h : m27 N D v1 v2 v3 = some r) (hv : r.1 = .inr E) : am_Y xs L 27 6 1 6 [.ref 0, .int v1, .int v2, .int v3] D (.inr E) r.2 := am_Yof (mi := am_m27) (lc := [.ref 0, .int v1, .int v2, .int v3, am_dead]) pg27 (Nat.le_of_ble_eq_true rfl) (am_rc1 (ci := 7) rfl rfl rfl rfl rfl) rfl (fun Q hQ => m27_w (Nat.le_refl _) h (fun E e => ⟨Nat.le_refl _, Nat.le_refl _⟩) (by rw [hv]; exact hQ))
theorem r28_0 : am_at 28 0 = some (.iload_n 1, 1, [1]) := by decide +kernel
theorem r28_1 : am_at 28 1 = some (.invokestatic 58, 3, [40, 1, 516, 0]) := by decide +kernel
theorem r28_4 : am_at 28 4 = some (.ifCond .eq (10), 3, [14]) := by decide +kernel
theorem r28_7 : am_at 28 7 = some (.iload_n 2, 1, [2]) := by decide +kernel
theorem r28_8 : am_at 28 8 = some (.invokestatic 62, 3, [41, 1, 460, 0]) := by decide +kernel
theorem r28_11 : am_at 28 11 = some (.ifCond .ne (13), 3, [24]) := by decide +kernel
theorem r28_14 : am_at 28 14 = some (.new 65, 3, [9, 1, 0, 67, 69, 463, 34, 11, 473]) := by decide +kernel
theorem r28_24 : am_at 28 24 = some (.iload_n 3, 1, [3]) := by decide +kernel
theorem r28_25 : am_at 28 25 = some (.invokestatic 128, 3, [43, 1, 651, 0]) := by decide +kernel
theorem r28_28 : am_at 28 28 = some (.ifCond .eq (14), 3, [42]) := by decide +kernel
theorem r28_31 : am_at 28 31 = some (.iload 4, 2, [4]) := by decide +kernel
theorem r28_33 : am_at 28 33 = some (.ifCond .lt (9), 3, [42]) := by decide +kernel
theorem r28_36 : am_at 28 36 = some (.iload 4, 2, [4]) := by decide +kernel
theorem r28_38 : am_at 28 38 = some (.iconst (2), 1, []) := by decide +kernel
theorem r28_39 : am_at 28 39 = some (.if_icmp .le (14), 3, [53]) := by decide +kernel
theorem r28_42 : am_at 28 42 = some (.new 93, 3, [9, 2, 1, 378, 97, 427, 36, 15, 437]) := by decide +kernel
theorem r28_53 : am_at 28 53 = some (.aload_n 0, 1, [0]) := by decide +kernel
theorem r28_54 : am_at 28 54 = some (.getfield 10, 3, [7, 0, 3, 257]) := by decide +kernel
theorem r28_57 : am_at 28 57 = some (.getfield 98, 3, [4, 6, 0, 101]) := by decide +kernel
theorem r28_60 : am_at 28 60 = some (.iconst (1), 1, []) := by decide +kernel
theorem r28_61 : am_at 28 61 = some (.if_icmp .ne (30), 3, [91]) := by decide +kernel
theorem r28_64 : am_at 28 64 = some (.aload_n 0, 1, [0]) := by decide +kernel
theorem r28_65 : am_at 28 65 = some (.getfield 10, 3, [7, 0, 3, 257]) := by decide +kernel
theorem r28_68 : am_at 28 68 = some (.iload_n 2, 1, [2]) := by decide +kernel
theorem r28_69 : am_at 28 69 = some (.invokevirtual 242, 3, [203, 2, 484, 0]) := by decide +kernel
theorem r28_72 : am_at 28 72 = some (.iload_n 1, 1, [1]) := by decide +kernel
theorem r28_73 : am_at 28 73 = some (.if_icmp .ne (18), 3, [91]) := by decide +kernel
theorem r28_76 : am_at 28 76 = some (.aload_n 0, 1, [0]) := by decide +kernel
theorem r28_77 : am_at 28 77 = some (.getfield 10, 3, [7, 0, 3, 257]) := by decide +kernel
theorem r28_80 : am_at 28 80 = some (.getfield 210, 3, [4, 0, 3, 89]) := by decide +kernel
theorem r28_83 : am_at 28 83 = some (.iload_n 2, 1, [2]) := by decide +kernel
theorem r28_84 : am_at 28 84 = some (.iload_n 3, 1, [3]) := by decide +kernel
theorem r28_85 : am_at 28 85 = some (.invokevirtual 380, 3, [158, 3, 655, 0]) := by decide +kernel
theorem r28_88 : am_at 28 88 = some (.ifCond .ne (5), 3, [93]) := by decide +kernel
theorem r28_91 : am_at 28 91 = some (.iconst (-1), 1, []) := by decide +kernel
theorem r28_92 : am_at 28 92 = some (.ireturn, 1, []) := by decide +kernel
theorem r28_93 : am_at 28 93 = some (.iload 4, 2, [4]) := by decide +kernel
theorem r28_95 : am_at 28 95 = some (.lookupswitch (49) #[(0, 25), (1, 36)], 25, [144, 0, 120, 1, 131]) := by decide +kernel
theorem r28_120 : am_at 28 120 = some (.aload_n 0, 1, [0]) := by decide +kernel
theorem r28_121 : am_at 28 121 = some (.getfield 10, 3, [7, 0, 3, 257]) := by decide +kernel
theorem r28_124 : am_at 28 124 = some (.iload_n 1, 1, [1]) := by decide +kernel
theorem r28_125 : am_at 28 125 = some (.iload_n 2, 1, [2]) := by decide +kernel
theorem r28_126 : am_at 28 126 = some (.iload_n 3, 1, [3]) := by decide +kernel
theorem r28_127 : am_at 28 127 = some (.invokevirtual 383, 3, [222, 4, 659, 0]) := by decide +kernel
theorem r28_130 : am_at 28 130 = some (.ireturn, 1, []) := by decide +kernel
theorem r28_131 : am_at 28 131 = some (.aload_n 0, 1, [0]) := by decide +kernel
theorem r28_132 : am_at 28 132 = some (.getfield 10, 3, [7, 0, 3, 257]) := by decide +kernel
theorem r28_135 : am_at 28 135 = some (.getfield 210, 3, [4, 0, 3, 89]) := by decide +kernel
theorem r28_138 : am_at 28 138 = some (.iload_n 2, 1, [2]) := by decide +kernel
theorem r28_139 : am_at 28 139 = some (.iload_n 3, 1, [3]) := by decide +kernel
theorem r28_140 : am_at 28 140 = some (.invokevirtual 386, 3, [161, 3, 684, 0]) := by decide +kernel
theorem r28_143 : am_at 28 143 = some (.ireturn, 1, []) := by decide +kernel
theorem r28_144 : am_at 28 144 = some (.aload_n 0, 1, [0]) := by decide +kernel
theorem r28_145 : am_at 28 145 = some (.getfield 10, 3, [7, 0, 3, 257]) := by decide +kernel
theorem r28_148 : am_at 28 148 = some (.iload_n 1, 1, [1]) := by decide +kernel
theorem r28_149 : am_at 28 149 = some (.invokestatic 389, 3, [185, 1, 685, 0]) := by decide +kernel
theorem r28_152 : am_at 28 152 = some (.iload_n 2, 1, [2]) := by decide +kernel
theorem r28_153 : am_at 28 153 = some (.iload_n 3, 1, [3]) := by decide +kernel
theorem r28_154 : am_at 28 154 = some (.invokevirtual 394, 3, [209, 4, 686, 0]) := by decide +kernel
theorem r28_157 : am_at 28 157 = some (.ireturn, 1, []) := by decide +kernel
theorem rt28 : am_rtt 28 = some (some .int) := by decide +kernel
set_option maxRecDepth 100000 in
theorem pg28 : am_pg[28]? = some am_m28 := rfl
theorem m28_w {d mc ms : Nat} {N : Nat} {D : am_D} {v1 : Int32} {v2 : Int32} {v3 : Int32} {v4 : Int32} {Q : am_O → am_AH → Prop} (hd : 6 ≤ d) {r : (Int32 ⊕ Nat)} (h : m28 N D v1 v2 v3 v4 = some r) (hE : ∀ E, r = .inr E → 0 + 1 ≤ mc ∧ 0 + 6 ≤ ms) (hQ : Q (am_oI r) (am_mk D)) : am_X xs L 28 d mc ms 0 [.ref 0, .int v1, .int v2, .int v3, .int v4] [] (am_mk D) 0 0 Q := by
  unfold m28 at h
  refine x_ld (v := .int v1) r28_0 rfl rfl rfl ?_
  refine x_call1 (as := [.int v1]) (rest := []) r28_1 rfl rfl rfl (by decide) (Nat.le_of_ble_eq_true rfl) (m40_ok rfl) (Nat.le_trans (by decide) hd) (Nat.zero_le _) (Nat.zero_le _) rfl ?_
  rcases am_ifE h with ⟨c1, h⟩ | ⟨c1, h⟩
  · refine x_ifeqT r28_4 c1 ?_
    cases h
    exact x_thr r28_14 (hE _ rfl).1 (hE _ rfl).2 (Nat.le_of_ble_eq_true rfl) hQ
  · refine x_ifeqF r28_4 c1 rfl ?_
    refine x_ld (v := .int v2) r28_7 rfl rfl rfl ?_
    refine x_call1 (as := [.int v2]) (rest := []) r28_8 rfl rfl rfl (by decide) (Nat.le_of_ble_eq_true rfl) (m41_ok rfl) (Nat.le_trans (by decide) hd) (Nat.zero_le _) (Nat.zero_le _) rfl ?_
    rcases am_ifE h with ⟨c2, h⟩ | ⟨c2, h⟩
    · refine x_ifneT r28_11 c2 rfl ?_
      cases h
      exact x_thr r28_14 (hE _ rfl).1 (hE _ rfl).2 (Nat.le_of_ble_eq_true rfl) hQ
    · refine x_ifneF r28_11 c2 ?_
      refine x_ld (v := .int v3) r28_24 rfl rfl rfl ?_
      refine x_call1 (as := [.int v3]) (rest := []) r28_25 rfl rfl rfl (by decide) (Nat.le_of_ble_eq_true rfl) (m43_ok rfl) (Nat.le_trans (by decide) hd) (Nat.zero_le _) (Nat.zero_le _) rfl ?_
      rcases am_ifE h with ⟨c3, h⟩ | ⟨c3, h⟩
      · refine x_ifeqT r28_28 c3 ?_
        cases h
        exact x_thr r28_42 (hE _ rfl).1 (hE _ rfl).2 (Nat.le_of_ble_eq_true rfl) hQ
      · refine x_ifeqF r28_28 c3 rfl ?_
        refine x_ld (v := .int v4) r28_31 rfl rfl rfl ?_
        rcases am_ifE h with ⟨c4, h⟩ | ⟨c4, h⟩
        · refine x_ifltT r28_33 c4 ?_
          cases h
          exact x_thr r28_42 (hE _ rfl).1 (hE _ rfl).2 (Nat.le_of_ble_eq_true rfl) hQ
        · refine x_ifltF r28_33 c4 rfl ?_
          refine x_ld (v := .int v4) r28_36 rfl rfl rfl ?_
          refine x_ic (v := 2) r28_38 rfl rfl ?_
          rcases am_ifE h with ⟨c5, h⟩ | ⟨c5, h⟩
          · refine x_icleT r28_39 c5 ?_
            refine x_ld (v := .ref 0) r28_53 rfl rfl rfl ?_
            refine y_gf (cd := 3) (v := .ref 1) r28_54 rfl rfl rfl ?_
            refine y_gf (cd := 0) (v := .int (D.1 1 6)) r28_57 rfl rfl rfl ?_
            refine x_ic (v := 1) r28_60 rfl rfl ?_
            rcases am_ifE h with ⟨c6, h⟩ | ⟨c6, h⟩
            · refine x_icneT r28_61 c6 rfl ?_
              refine x_ld (v := .ref 0) r28_64 rfl rfl rfl ?_
              refine y_gf (cd := 3) (v := .ref 1) r28_65 rfl rfl rfl ?_
              refine x_ld (v := .int v2) r28_68 rfl rfl rfl ?_
              refine x_call1 (as := [.ref 1, .int v2]) (rest := []) r28_69 rfl rfl rfl (by decide) (Nat.le_of_ble_eq_true rfl) (m203_ok rfl) (Nat.le_trans (by decide) hd) (Nat.zero_le _) (Nat.zero_le _) rfl ?_
              refine x_ld (v := .int v1) r28_72 rfl rfl rfl ?_
              rcases am_ifE h with ⟨c7, h⟩ | ⟨c7, h⟩
              · refine x_icneT r28_73 c7 rfl ?_
                refine x_ld (v := .ref 0) r28_76 rfl rfl rfl ?_
                refine y_gf (cd := 3) (v := .ref 1) r28_77 rfl rfl rfl ?_
                refine y_gf (cd := 4) (v := .ref 2) r28_80 rfl rfl rfl ?_
                refine x_ld (v := .int v2) r28_83 rfl rfl rfl ?_
                refine x_ld (v := .int v3) r28_84 rfl rfl rfl ?_
                refine x_call1 (as := [.ref 2, .int v2, .int v3]) (rest := []) r28_85 rfl rfl rfl (by decide) (Nat.le_of_ble_eq_true rfl) (m158_ok rfl) (Nat.le_trans (by decide) hd) (Nat.zero_le _) (Nat.zero_le _) rfl ?_
                rcases am_ifE h with ⟨c8, h⟩ | ⟨c8, h⟩
                · refine x_ifneT r28_88 c8 rfl ?_
                  refine x_ic (v := -1) r28_91 rfl rfl ?_
                  cases h
                  exact x_ret (ret := some .int) (C := True) (v := some (.int _)) r28_92 rt28 rfl rfl rfl rfl rfl rfl rfl rfl trivial hQ
                · refine x_ifneF r28_88 c8 ?_
                  refine x_ld (v := .int v4) r28_93 rfl rfl rfl ?_
                  rcases am_ifE h with ⟨c9, h⟩ | ⟨c9, h⟩
                  · refine x_lsw (p' := 120) r28_95 (am_swT c9) ?_
                    refine x_ld (v := .ref 0) r28_120 rfl rfl rfl ?_
                    refine y_gf (cd := 3) (v := .ref 1) r28_121 rfl rfl rfl ?_
                    refine x_ld (v := .int v1) r28_124 rfl rfl rfl ?_
                    refine x_ld (v := .int v2) r28_125 rfl rfl rfl ?_
                    refine x_ld (v := .int v3) r28_126 rfl rfl rfl ?_
                    obtain ⟨q10, h11, h⟩ := Option.bind_eq_some_iff.mp h
                    refine x_call1 (as := [.ref 1, .int v1, .int v2, .int v3]) (rest := []) r28_127 rfl rfl rfl (by decide) (Nat.le_of_ble_eq_true rfl) (m222_ok h11) (Nat.le_trans (by decide) hd) (Nat.zero_le _) (Nat.zero_le _) rfl ?_
                    cases h
                    exact x_ret (ret := some .int) (C := True) (v := some (.int _)) r28_130 rt28 rfl rfl rfl rfl rfl rfl rfl rfl trivial hQ
                  · rcases am_ifE h with ⟨c12, h⟩ | ⟨c12, h⟩
                    · refine x_lsw (p' := 131) r28_95 (am_swF c9 (am_swT c12)) ?_
                      refine x_ld (v := .ref 0) r28_131 rfl rfl rfl ?_
                      refine y_gf (cd := 3) (v := .ref 1) r28_132 rfl rfl rfl ?_
                      refine y_gf (cd := 4) (v := .ref 2) r28_135 rfl rfl rfl ?_
                      refine x_ld (v := .int v2) r28_138 rfl rfl rfl ?_
                      refine x_ld (v := .int v3) r28_139 rfl rfl rfl ?_
                      refine x_call1 (as := [.ref 2, .int v2, .int v3]) (rest := []) r28_140 rfl rfl rfl (by decide) (Nat.le_of_ble_eq_true rfl) (m161_ok rfl) (Nat.le_trans (by decide) hd) (Nat.zero_le _) (Nat.zero_le _) rfl ?_
                      cases h
                      exact x_ret (ret := some .int) (C := True) (v := some (.int _)) r28_143 rt28 rfl rfl rfl rfl rfl rfl rfl rfl trivial hQ
                    · refine x_lsw (p' := 144) r28_95 (am_swF c9 (am_swF c12 (rfl))) ?_
                      refine x_ld (v := .ref 0) r28_144 rfl rfl rfl ?_
                      refine y_gf (cd := 3) (v := .ref 1) r28_145 rfl rfl rfl ?_
                      refine x_ld (v := .int v1) r28_148 rfl rfl rfl ?_
                      refine x_call1 (as := [.int v1]) (rest := [.ref 1]) r28_149 rfl rfl rfl (by decide) (Nat.le_of_ble_eq_true rfl) (m185_ok rfl) (Nat.le_trans (by decide) hd) (Nat.zero_le _) (Nat.zero_le _) rfl ?_
                      refine x_ld (v := .int v2) r28_152 rfl rfl rfl ?_
                      refine x_ld (v := .int v3) r28_153 rfl rfl rfl ?_
                      obtain ⟨q13, h14, h⟩ := Option.bind_eq_some_iff.mp h
                      refine x_call1 (as := [.ref 1, .int (m185 v1), .int v2, .int v3]) (rest := []) r28_154 rfl rfl rfl (by decide) (Nat.le_of_ble_eq_true rfl) (m209_ok h14) (Nat.le_trans (by decide) hd) (Nat.zero_le _) (Nat.zero_le _) rfl ?_
                      cases h
                      exact x_ret (ret := some .int) (C := True) (v := some (.int _)) r28_157 rt28 rfl rfl rfl rfl rfl rfl rfl rfl trivial hQ
              · refine x_icneF r28_73 c7 ?_
                refine x_ic (v := -1) r28_91 rfl rfl ?_
                cases h
                exact x_ret (ret := some .int) (C := True) (v := some (.int _)) r28_92 rt28 rfl rfl rfl rfl rfl rfl rfl rfl trivial hQ
            · refine x_icneF r28_61 c6 ?_
              refine x_ic (v := -1) r28_91 rfl rfl ?_
              cases h
              exact x_ret (ret := some .int) (C := True) (v := some (.int _)) r28_92 rt28 rfl rfl rfl rfl rfl rfl rfl rfl trivial hQ
          · refine x_icleF r28_39 c5 rfl ?_
            cases h
            exact x_thr r28_42 (hE _ rfl).1 (hE _ rfl).2 (Nat.le_of_ble_eq_true rfl) hQ
theorem m28_okv {N : Nat} {D : am_D} {v1 : Int32} {v2 : Int32} {v3 : Int32} {v4 : Int32} {r : (Int32 ⊕ Nat)} {v : Int32} (h : m28 N D v1 v2 v3 v4 = some r) (hv : am_inl r = some v) : am_Y xs L 28 6 0 0 [.ref 0, .int v1, .int v2, .int v3, .int v4] D (.inl (some (.int v))) D := am_Yof (mi := am_m28) (lc := [.ref 0, .int v1, .int v2, .int v3, .int v4]) pg28 (Nat.le_of_ble_eq_true rfl) (am_rc1 (ci := 7) rfl rfl rfl rfl rfl) rfl (fun Q hQ => m28_w (Nat.le_refl _) h (fun E e => by rw [e] at hv; cases hv) (by rw [am_inlE hv]; exact hQ))
theorem m28_exv {N : Nat} {D : am_D} {v1 : Int32} {v2 : Int32} {v3 : Int32} {v4 : Int32} {r : (Int32 ⊕ Nat)} {E : Nat} (h : m28 N D v1 v2 v3 v4 = some r) (hv : r = .inr E) : am_Y xs L 28 6 1 6 [.ref 0, .int v1, .int v2, .int v3, .int v4] D (.inr E) D := am_Yof (mi := am_m28) (lc := [.ref 0, .int v1, .int v2, .int v3, .int v4]) pg28 (Nat.le_of_ble_eq_true rfl) (am_rc1 (ci := 7) rfl rfl rfl rfl rfl) rfl (fun Q hQ => m28_w (Nat.le_refl _) h (fun E e => ⟨Nat.le_refl _, Nat.le_refl _⟩) (by rw [hv]; exact hQ))
theorem r172_0 : am_at 172 0 = some (.aload_n 0, 1, [0]) := by decide +kernel
theorem r172_1 : am_at 172 1 = some (.iconst (0), 1, []) := by decide +kernel
theorem r172_2 : am_at 172 2 = some (.putfield 24, 3, [2, 4, 0, 223]) := by decide +kernel
theorem r172_5 : am_at 172 5 = some (.iconst (0), 1, []) := by decide +kernel
theorem r172_6 : am_at 172 6 = some (.istore_n 2, 1, [2]) := by decide +kernel
theorem r172_7 : am_at 172 7 = some (.iload_n 2, 1, [2]) := by decide +kernel
theorem r172_8 : am_at 172 8 = some (.bipush (28), 2, []) := by decide +kernel
theorem r172_10 : am_at 172 10 = some (.if_icmp .ge (67), 3, [77]) := by decide +kernel
theorem r172_13 : am_at 172 13 = some (.aload_n 0, 1, [0]) := by decide +kernel
theorem r172_14 : am_at 172 14 = some (.getfield 24, 3, [2, 4, 0, 223]) := by decide +kernel
theorem r172_17 : am_at 172 17 = some (.bipush (9), 2, []) := by decide +kernel
theorem r172_19 : am_at 172 19 = some (.if_icmp .ge (58), 3, [77]) := by decide +kernel
theorem r172_22 : am_at 172 22 = some (.aload_n 1, 1, [1]) := by decide +kernel
theorem r172_23 : am_at 172 23 = some (.iload_n 2, 1, [2]) := by decide +kernel
theorem r172_24 : am_at 172 24 = some (.invokevirtual 28, 3, [203, 2, 804, 0]) := by decide +kernel
theorem r172_27 : am_at 172 27 = some (.istore_n 3, 1, [3]) := by decide +kernel
theorem r172_28 : am_at 172 28 = some (.iload_n 3, 1, [3]) := by decide +kernel
theorem r172_29 : am_at 172 29 = some (.ifCond .lt (42), 3, [71]) := by decide +kernel
theorem r172_32 : am_at 172 32 = some (.iload_n 3, 1, [3]) := by decide +kernel
theorem r172_33 : am_at 172 33 = some (.iconst (4), 1, []) := by decide +kernel
theorem r172_34 : am_at 172 34 = some (.if_icmp .ge (37), 3, [71]) := by decide +kernel
theorem r172_37 : am_at 172 37 = some (.aload_n 0, 1, [0]) := by decide +kernel
theorem r172_38 : am_at 172 38 = some (.getfield 9, 3, [2, 0, 3, 219]) := by decide +kernel
theorem r172_41 : am_at 172 41 = some (.aload_n 0, 1, [0]) := by decide +kernel
theorem r172_42 : am_at 172 42 = some (.getfield 24, 3, [2, 4, 0, 223]) := by decide +kernel
theorem r172_45 : am_at 172 45 = some (.iload_n 2, 1, [2]) := by decide +kernel
theorem r172_46 : am_at 172 46 = some (.invokestatic 34, 3, [181, 3, 805, 0]) := by decide +kernel
theorem r172_49 : am_at 172 49 = some (.aload_n 0, 1, [0]) := by decide +kernel
theorem r172_50 : am_at 172 50 = some (.getfield 15, 3, [2, 1, 3, 220]) := by decide +kernel
theorem r172_53 : am_at 172 53 = some (.aload_n 0, 1, [0]) := by decide +kernel
theorem r172_54 : am_at 172 54 = some (.getfield 24, 3, [2, 4, 0, 223]) := by decide +kernel
theorem r172_57 : am_at 172 57 = some (.iload_n 3, 1, [3]) := by decide +kernel
theorem r172_58 : am_at 172 58 = some (.invokestatic 34, 3, [181, 3, 805, 0]) := by decide +kernel
theorem r172_61 : am_at 172 61 = some (.aload_n 0, 1, [0]) := by decide +kernel
theorem r172_62 : am_at 172 62 = some (.dup, 1, []) := by decide +kernel
theorem r172_63 : am_at 172 63 = some (.getfield 24, 3, [2, 4, 0, 223]) := by decide +kernel
theorem r172_66 : am_at 172 66 = some (.iconst (1), 1, []) := by decide +kernel
theorem r172_67 : am_at 172 67 = some (.iadd, 1, []) := by decide +kernel
theorem r172_68 : am_at 172 68 = some (.putfield 24, 3, [2, 4, 0, 223]) := by decide +kernel
theorem r172_71 : am_at 172 71 = some (.iinc 2 (1), 3, [2]) := by decide +kernel
theorem r172_74 : am_at 172 74 = some (.goto (-67), 3, [7]) := by decide +kernel
theorem r172_77 : am_at 172 77 = some (.iconst (0), 1, []) := by decide +kernel
theorem r172_78 : am_at 172 78 = some (.istore_n 2, 1, [2]) := by decide +kernel
theorem r172_79 : am_at 172 79 = some (.iload_n 2, 1, [2]) := by decide +kernel
theorem r172_80 : am_at 172 80 = some (.iconst (1), 1, []) := by decide +kernel
theorem r172_81 : am_at 172 81 = some (.if_icmp .gt (41), 3, [122]) := by decide +kernel
theorem r172_84 : am_at 172 84 = some (.aload_n 0, 1, [0]) := by decide +kernel
theorem r172_85 : am_at 172 85 = some (.getfield 18, 3, [2, 2, 3, 221]) := by decide +kernel
theorem r172_88 : am_at 172 88 = some (.iload_n 2, 1, [2]) := by decide +kernel
theorem r172_89 : am_at 172 89 = some (.aload_n 1, 1, [1]) := by decide +kernel
theorem r172_90 : am_at 172 90 = some (.getfield 40, 3, [4, 0, 3, 88]) := by decide +kernel
theorem r172_93 : am_at 172 93 = some (.iload_n 2, 1, [2]) := by decide +kernel
theorem r172_94 : am_at 172 94 = some (.invokevirtual 44, 3, [156, 2, 806, 0]) := by decide +kernel
theorem r172_97 : am_at 172 97 = some (.invokestatic 34, 3, [181, 3, 805, 0]) := by decide +kernel
theorem r172_100 : am_at 172 100 = some (.aload_n 0, 1, [0]) := by decide +kernel
theorem r172_101 : am_at 172 101 = some (.getfield 21, 3, [2, 3, 3, 222]) := by decide +kernel
theorem r172_104 : am_at 172 104 = some (.iload_n 2, 1, [2]) := by decide +kernel
theorem r172_105 : am_at 172 105 = some (.aload_n 1, 1, [1]) := by decide +kernel
theorem r172_106 : am_at 172 106 = some (.getfield 40, 3, [4, 0, 3, 88]) := by decide +kernel
theorem r172_109 : am_at 172 109 = some (.iload_n 2, 1, [2]) := by decide +kernel
theorem r172_110 : am_at 172 110 = some (.invokevirtual 49, 3, [157, 2, 807, 0]) := by decide +kernel
theorem r172_113 : am_at 172 113 = some (.invokestatic 34, 3, [181, 3, 805, 0]) := by decide +kernel
theorem r172_116 : am_at 172 116 = some (.iinc 2 (1), 3, [2]) := by decide +kernel
theorem r172_119 : am_at 172 119 = some (.goto (-40), 3, [79]) := by decide +kernel
theorem r172_122 : am_at 172 122 = some (.aload_n 0, 1, [0]) := by decide +kernel
theorem r172_123 : am_at 172 123 = some (.iconst (-1), 1, []) := by decide +kernel
theorem r172_124 : am_at 172 124 = some (.putfield 52, 3, [2, 6, 0, 226]) := by decide +kernel
theorem r172_127 : am_at 172 127 = some (.aload_n 0, 1, [0]) := by decide +kernel
theorem r172_128 : am_at 172 128 = some (.iconst (-1), 1, []) := by decide +kernel
theorem r172_129 : am_at 172 129 = some (.putfield 55, 3, [2, 7, 0, 228]) := by decide +kernel
theorem r172_132 : am_at 172 132 = some (.aload_n 0, 1, [0]) := by decide +kernel
theorem r172_133 : am_at 172 133 = some (.iconst (0), 1, []) := by decide +kernel
theorem r172_134 : am_at 172 134 = some (.aload_n 1, 1, [1]) := by decide +kernel
theorem r172_135 : am_at 172 135 = some (.getfield 58, 3, [4, 7, 0, 103]) := by decide +kernel
theorem r172_138 : am_at 172 138 = some (.aload_n 1, 1, [1]) := by decide +kernel
theorem r172_139 : am_at 172 139 = some (.getfield 61, 3, [4, 11, 0, 112]) := by decide +kernel
theorem r172_142 : am_at 172 142 = some (.iconst (1), 1, []) := by decide +kernel
theorem r172_143 : am_at 172 143 = some (.aload_n 0, 1, [0]) := by decide +kernel
theorem r172_144 : am_at 172 144 = some (.getfield 24, 3, [2, 4, 0, 223]) := by decide +kernel
theorem r172_147 : am_at 172 147 = some (.ishl, 1, []) := by decide +kernel
theorem r172_148 : am_at 172 148 = some (.iconst (1), 1, []) := by decide +kernel
theorem r172_149 : am_at 172 149 = some (.isub, 1, []) := by decide +kernel
theorem r172_150 : am_at 172 150 = some (.invokevirtual 64, 3, [173, 5, 808, 0]) := by decide +kernel
theorem r172_153 : am_at 172 153 = some (.istore_n 2, 1, [2]) := by decide +kernel
theorem r172_154 : am_at 172 154 = some (.aload_n 0, 1, [0]) := by decide +kernel
theorem r172_155 : am_at 172 155 = some (.aload_n 1, 1, [1]) := by decide +kernel
theorem r172_156 : am_at 172 156 = some (.getfield 58, 3, [4, 7, 0, 103]) := by decide +kernel
theorem r172_159 : am_at 172 159 = some (.invokestatic 68, 3, [187, 1, 832, 0]) := by decide +kernel
theorem r172_162 : am_at 172 162 = some (.ifCond .ne (7), 3, [169]) := by decide +kernel
theorem r172_165 : am_at 172 165 = some (.iload_n 2, 1, [2]) := by decide +kernel
theorem r172_166 : am_at 172 166 = some (.goto (5), 3, [171]) := by decide +kernel
theorem r172_169 : am_at 172 169 = some (.iload_n 2, 1, [2]) := by decide +kernel
theorem r172_170 : am_at 172 170 = some (.ineg, 1, []) := by decide +kernel
theorem r172_171 : am_at 172 171 = some (.putfield 73, 3, [2, 5, 0, 224]) := by decide +kernel
theorem r172_174 : am_at 172 174 = some (.return_, 1, []) := by decide +kernel
theorem rt172 : am_rtt 172 = some (none) := by decide +kernel
set_option maxRecDepth 100000 in
theorem pg172 : am_pg[172]? = some am_m172 := rfl
theorem m172_L7_w {d : Nat} {N : Nat} {mc ms : Nat} {Q : am_O → am_AH → Prop} (hd : 54 ≤ d) : ∀ (n : Nat) (D : am_D) (v2 : Int32) {q : am_D} (h : m172_L7 N  n D v2 = some q) (k0 : am_X xs L 172 d mc ms 77 [.ref 99, .ref 1, am_dead, am_dead] [] (am_mk q) 0 0 Q), am_X xs L 172 d mc ms 7 [.ref 99, .ref 1, .int v2, am_dead] [] (am_mk D) 0 0 Q := by
  intro n
  induction n with
  | zero =>
    intro D v2 q h k0
    exact (nomatch (show none = some q from h))
  | succ n ih =>
    intro D v2 q h k0
    rw [m172_L7] at h
    refine x_ld (v := .int v2) r172_7 rfl rfl rfl ?_
    refine x_bi (v := 28) r172_8 rfl rfl ?_
    rcases am_ifE h with ⟨c3, h⟩ | ⟨c3, h⟩
    · refine x_icgeT r172_10 c3 ?_
      refine x_forget (lc0 := [.ref 99, .ref 1, am_dead, am_dead]) ⟨Or.inl rfl, Or.inl rfl, Or.inr ⟨rfl, rfl⟩, Or.inl rfl, trivial⟩ ?_
      cases h
      exact k0
    · refine x_icgeF r172_10 c3 rfl ?_
      refine x_ld (v := .ref 99) r172_13 rfl rfl rfl ?_
      refine y_gf (cd := 0) (v := .int (D.1 99 4)) r172_14 rfl rfl rfl ?_
      refine x_bi (v := 9) r172_17 rfl rfl ?_
      rcases am_ifE h with ⟨c4, h⟩ | ⟨c4, h⟩
      · refine x_icgeT r172_19 c4 ?_
        refine x_forget (lc0 := [.ref 99, .ref 1, am_dead, am_dead]) ⟨Or.inl rfl, Or.inl rfl, Or.inr ⟨rfl, rfl⟩, Or.inl rfl, trivial⟩ ?_
        cases h
        exact k0
      · refine x_icgeF r172_19 c4 rfl ?_
        refine x_ld (v := .ref 1) r172_22 rfl rfl rfl ?_
        refine x_ld (v := .int v2) r172_23 rfl rfl rfl ?_
        refine x_call1 (as := [.ref 1, .int v2]) (rest := []) r172_24 rfl rfl rfl (by decide) (Nat.le_of_ble_eq_true rfl) (m203_ok rfl) (Nat.le_trans (by decide) hd) (Nat.zero_le _) (Nat.zero_le _) rfl ?_
        obtain ⟨x5, e6, h⟩ := am_ltE h
        refine am_topI e6 ?_
        refine x_sto (lc' := [.ref 99, .ref 1, .int v2, .int x5]) r172_27 rfl rfl rfl rfl ?_
        refine x_ld (v := .int x5) r172_28 rfl rfl rfl ?_
        obtain ⟨q7, h9, h⟩ := am_ltE h
        replace h9 := h9.symm
        have kj8 : am_X xs L 172 d mc ms 71 [.ref 99, .ref 1, .int v2, .int x5] [] (am_mk q7) 0 0 Q := by
          obtain ⟨x18, e19, h⟩ := am_ltE h
          refine x_sto (lc' := [.ref 99, .ref 1, .int x18, .int x5]) r172_71 rfl rfl (by subst e19; rfl) rfl ?_
          refine x_goto r172_74 ?_
          exact x_forget (lc0 := [.ref 99, .ref 1, .int x18, am_dead]) ⟨Or.inl rfl, Or.inl rfl, Or.inl rfl, Or.inr ⟨rfl, rfl⟩, trivial⟩ (ih q7 x18 h k0)
        rcases am_ifE h9 with ⟨c10, h9⟩ | ⟨c10, h9⟩
        · refine x_ifltT r172_29 c10 ?_
          subst h9
          exact kj8
        · refine x_ifltF r172_29 c10 rfl ?_
          refine x_ld (v := .int x5) r172_32 rfl rfl rfl ?_
          refine x_ic (v := 4) r172_33 rfl rfl ?_
          rcases am_ifE h9 with ⟨c11, h9⟩ | ⟨c11, h9⟩
          · refine x_icgeT r172_34 c11 ?_
            subst h9
            exact kj8
          · refine x_icgeF r172_34 c11 rfl ?_
            refine x_ld (v := .ref 99) r172_37 rfl rfl rfl ?_
            refine y_gf (cd := 102) (v := .ref 100) r172_38 rfl rfl rfl ?_
            refine x_ld (v := .ref 99) r172_41 rfl rfl rfl ?_
            refine y_gf (cd := 0) (v := .int (D.1 99 4)) r172_42 rfl rfl rfl ?_
            refine x_ld (v := .int v2) r172_45 rfl rfl rfl ?_
            obtain ⟨D12, e13, h9⟩ := am_ltE h9
            refine x_call0 (as := [.ref 100, .int (D.1 99 4), .int v2]) (rest := []) r172_46 rfl rfl rfl (by decide) (Nat.le_of_ble_eq_true rfl) (am_rows_put (n := 9) rfl (by decide) e13) (Nat.le_trans (by decide) hd) (Nat.zero_le _) (Nat.zero_le _) rfl ?_
            refine x_ld (v := .ref 99) r172_49 rfl rfl rfl ?_
            refine y_gf (cd := 103) (v := .ref 101) r172_50 rfl rfl rfl ?_
            refine x_ld (v := .ref 99) r172_53 rfl rfl rfl ?_
            refine y_gf (cd := 0) (v := .int (D12.1 99 4)) r172_54 rfl rfl rfl ?_
            refine x_ld (v := .int x5) r172_57 rfl rfl rfl ?_
            obtain ⟨D14, e15, h9⟩ := am_ltE h9
            refine x_call0 (as := [.ref 101, .int (D12.1 99 4), .int x5]) (rest := []) r172_58 rfl rfl rfl (by decide) (Nat.le_of_ble_eq_true rfl) (am_rows_put (n := 9) rfl (by decide) e15) (Nat.le_trans (by decide) hd) (Nat.zero_le _) (Nat.zero_le _) rfl ?_
            refine x_ld (v := .ref 99) r172_61 rfl rfl rfl ?_
            refine x_ar r172_62 rfl trivial rfl ?_
            refine y_gf (cd := 0) (v := .int (D14.1 99 4)) r172_63 rfl rfl rfl ?_
            refine x_ic (v := 1) r172_66 rfl rfl ?_
            refine x_ar r172_67 rfl trivial rfl ?_
            obtain ⟨D16, e17, h9⟩ := am_ltE h9
            refine y_pf0 r172_68 rfl e17 rfl ?_
            subst h9
            exact kj8
theorem m172_L79_w {d : Nat} {N : Nat} {mc ms : Nat} {Q : am_O → am_AH → Prop} (hd : 54 ≤ d) : ∀ (n : Nat) (D : am_D) (v2 : Int32) {q : am_D} (h : m172_L79 N  n D v2 = some q) (k0 : am_X xs L 172 d mc ms 122 [.ref 99, .ref 1, am_dead, am_dead] [] (am_mk q) 0 0 Q), am_X xs L 172 d mc ms 79 [.ref 99, .ref 1, .int v2, am_dead] [] (am_mk D) 0 0 Q := by
  intro n
  induction n with
  | zero =>
    intro D v2 q h k0
    exact (nomatch (show none = some q from h))
  | succ n ih =>
    intro D v2 q h k0
    rw [m172_L79] at h
    refine x_ld (v := .int v2) r172_79 rfl rfl rfl ?_
    refine x_ic (v := 1) r172_80 rfl rfl ?_
    rcases am_ifE h with ⟨c22, h⟩ | ⟨c22, h⟩
    · refine x_icgtT r172_81 c22 ?_
      refine x_forget (lc0 := [.ref 99, .ref 1, am_dead, am_dead]) ⟨Or.inl rfl, Or.inl rfl, Or.inr ⟨rfl, rfl⟩, Or.inl rfl, trivial⟩ ?_
      cases h
      exact k0
    · refine x_icgtF r172_81 c22 rfl ?_
      refine x_ld (v := .ref 99) r172_84 rfl rfl rfl ?_
      refine y_gf (cd := 104) (v := .ref 102) r172_85 rfl rfl rfl ?_
      refine x_ld (v := .int v2) r172_88 rfl rfl rfl ?_
      refine x_ld (v := .ref 1) r172_89 rfl rfl rfl ?_
      refine y_gf (cd := 4) (v := .ref 2) r172_90 rfl rfl rfl ?_
      refine x_ld (v := .int v2) r172_93 rfl rfl rfl ?_
      refine x_call1 (as := [.ref 2, .int v2]) (rest := [.int v2, .ref 102]) r172_94 rfl rfl rfl (by decide) (Nat.le_of_ble_eq_true rfl) (m156_ok rfl) (Nat.le_trans (by decide) hd) (Nat.zero_le _) (Nat.zero_le _) rfl ?_
      obtain ⟨D23, e24, h⟩ := am_ltE h
      refine x_call0 (as := [.ref 102, .int v2, .int (m156 D v2)]) (rest := []) r172_97 rfl rfl rfl (by decide) (Nat.le_of_ble_eq_true rfl) (am_rows_put (n := 20) rfl (by decide) e24) (Nat.le_trans (by decide) hd) (Nat.zero_le _) (Nat.zero_le _) rfl ?_
      refine x_ld (v := .ref 99) r172_100 rfl rfl rfl ?_
      refine y_gf (cd := 105) (v := .ref 103) r172_101 rfl rfl rfl ?_
      refine x_ld (v := .int v2) r172_104 rfl rfl rfl ?_
      refine x_ld (v := .ref 1) r172_105 rfl rfl rfl ?_
      refine y_gf (cd := 4) (v := .ref 2) r172_106 rfl rfl rfl ?_
      refine x_ld (v := .int v2) r172_109 rfl rfl rfl ?_
      refine x_call1 (as := [.ref 2, .int v2]) (rest := [.int v2, .ref 103]) r172_110 rfl rfl rfl (by decide) (Nat.le_of_ble_eq_true rfl) (m157_ok rfl) (Nat.le_trans (by decide) hd) (Nat.zero_le _) (Nat.zero_le _) rfl ?_
      obtain ⟨D25, e26, h⟩ := am_ltE h
      refine x_call0 (as := [.ref 103, .int v2, .int (m157 D23 v2)]) (rest := []) r172_113 rfl rfl rfl (by decide) (Nat.le_of_ble_eq_true rfl) (am_rows_put (n := 20) rfl (by decide) e26) (Nat.le_trans (by decide) hd) (Nat.zero_le _) (Nat.zero_le _) rfl ?_
      obtain ⟨x27, e28, h⟩ := am_ltE h
      refine x_sto (lc' := [.ref 99, .ref 1, .int x27, am_dead]) r172_116 rfl rfl (by subst e28; rfl) rfl ?_
      refine x_goto r172_119 ?_
      exact x_forget (lc0 := [.ref 99, .ref 1, .int x27, am_dead]) ⟨Or.inl rfl, Or.inl rfl, Or.inl rfl, Or.inl rfl, trivial⟩ (ih D25 x27 h k0)
theorem m172_w {d mc ms : Nat} {N : Nat} {D : am_D} {Q : am_O → am_AH → Prop} (hd : 54 ≤ d) {r : am_D} (h : m172 N D = some r) (hQ : Q (.inl none) (am_mk r)) : am_X xs L 172 d mc ms 0 [.ref 99, .ref 1, am_dead, am_dead] [] (am_mk D) 0 0 Q := by
  unfold m172 at h
  refine x_ld (v := .ref 99) r172_0 rfl rfl rfl ?_
  refine x_ic (v := 0) r172_1 rfl rfl ?_
  obtain ⟨D1, e2, h⟩ := am_ltE h
  refine y_pf0 r172_2 rfl e2 rfl ?_
  refine x_ic (v := 0) r172_5 rfl rfl ?_
  refine x_sto (lc' := [.ref 99, .ref 1, .int (0 : Int32), am_dead]) r172_6 rfl rfl rfl rfl ?_
  obtain ⟨q20, h21, h⟩ := Option.bind_eq_some_iff.mp h
  refine x_forget (lc0 := [.ref 99, .ref 1, .int (0 : Int32), am_dead]) ⟨Or.inl rfl, Or.inl rfl, Or.inl rfl, Or.inl rfl, trivial⟩ (m172_L7_w hd N D1 (0 : Int32) h21 ?_)
  refine x_ic (v := 0) r172_77 rfl rfl ?_
  refine x_sto (lc' := [.ref 99, .ref 1, .int (0 : Int32), am_dead]) r172_78 rfl rfl rfl rfl ?_
  obtain ⟨q29, h30, h⟩ := Option.bind_eq_some_iff.mp h
  refine x_forget (lc0 := [.ref 99, .ref 1, .int (0 : Int32), am_dead]) ⟨Or.inl rfl, Or.inl rfl, Or.inl rfl, Or.inl rfl, trivial⟩ (m172_L79_w hd N q20 (0 : Int32) h30 ?_)
  refine x_ld (v := .ref 99) r172_122 rfl rfl rfl ?_
  refine x_ic (v := -1) r172_123 rfl rfl ?_
  obtain ⟨D31, e32, h⟩ := am_ltE h
  refine y_pf0 r172_124 rfl e32 rfl ?_
  refine x_ld (v := .ref 99) r172_127 rfl rfl rfl ?_
  refine x_ic (v := -1) r172_128 rfl rfl ?_
  obtain ⟨D33, e34, h⟩ := am_ltE h
  refine y_pf0 r172_129 rfl e34 rfl ?_
  refine x_ld (v := .ref 99) r172_132 rfl rfl rfl ?_
  refine x_ic (v := 0) r172_133 rfl rfl ?_
  refine x_ld (v := .ref 1) r172_134 rfl rfl rfl ?_
  refine y_gf (cd := 0) (v := .int (D33.1 1 7)) r172_135 rfl rfl rfl ?_
  refine x_ld (v := .ref 1) r172_138 rfl rfl rfl ?_
  refine y_gf (cd := 0) (v := .int (D33.1 1 11)) r172_139 rfl rfl rfl ?_
  refine x_ic (v := 1) r172_142 rfl rfl ?_
  refine x_ld (v := .ref 99) r172_143 rfl rfl rfl ?_
  refine y_gf (cd := 0) (v := .int (D33.1 99 4)) r172_144 rfl rfl rfl ?_
  refine x_ar r172_147 rfl trivial rfl ?_
  refine x_ic (v := 1) r172_148 rfl rfl ?_
  refine x_ar r172_149 rfl trivial rfl ?_
  obtain ⟨q35, h36, h⟩ := Option.bind_eq_some_iff.mp h
  refine x_call1 (as := [.ref 99, .int (0 : Int32), .int (D33.1 1 7), .int (D33.1 1 11), .int (((1 : Int32) <<< ((D33.1 99 4) &&& 31)) - (1 : Int32))]) (rest := []) r172_150 rfl rfl rfl (by decide) (Nat.le_of_ble_eq_true rfl) (m173_ok h36) (Nat.le_trans (by decide) hd) (Nat.zero_le _) (Nat.zero_le _) rfl ?_
  refine x_sto (lc' := [.ref 99, .ref 1, .int q35.1, am_dead]) r172_153 rfl rfl rfl rfl ?_
  refine x_ld (v := .ref 99) r172_154 rfl rfl rfl ?_
  refine x_ld (v := .ref 1) r172_155 rfl rfl rfl ?_
  refine y_gf (cd := 0) (v := .int (q35.2.1 1 7)) r172_156 rfl rfl rfl ?_
  refine x_call1 (as := [.int (q35.2.1 1 7)]) (rest := [.ref 99]) r172_159 rfl rfl rfl (by decide) (Nat.le_of_ble_eq_true rfl) (m187_ok rfl) (Nat.le_trans (by decide) hd) (Nat.zero_le _) (Nat.zero_le _) rfl ?_
  rcases am_ifE h with ⟨c37, h⟩ | ⟨c37, h⟩
  · refine x_ifneT r172_162 c37 rfl ?_
    refine x_ld (v := .int q35.1) r172_165 rfl rfl rfl ?_
    refine x_goto r172_166 ?_
    obtain ⟨D38, e39, h⟩ := am_ltE h
    refine y_pf0 r172_171 rfl e39 rfl ?_
    cases h
    exact x_ret (ret := none) (C := True) (v := none) r172_174 rt172 rfl rfl rfl rfl rfl rfl rfl rfl trivial hQ
  · refine x_ifneF r172_162 c37 ?_
    refine x_ld (v := .int q35.1) r172_169 rfl rfl rfl ?_
    refine x_ar r172_170 rfl trivial rfl ?_
    obtain ⟨D40, e41, h⟩ := am_ltE h
    refine y_pf0 r172_171 rfl e41 rfl ?_
    cases h
    exact x_ret (ret := none) (C := True) (v := none) r172_174 rt172 rfl rfl rfl rfl rfl rfl rfl rfl trivial hQ
theorem m172_ok {N : Nat} {D : am_D} {r : am_D} (h : m172 N D = some r) : am_Y xs L 172 54 0 0 [.ref 99, .ref 1] D (.inl none) r := am_Yof (mi := am_m172) (lc := [.ref 99, .ref 1, am_dead, am_dead]) pg172 (Nat.le_of_ble_eq_true rfl) (am_rc1 (ci := 2) rfl rfl rfl rfl rfl) rfl (fun Q hQ => m172_w (Nat.le_refl _) h hQ)
theorem r291_0 : am_at 291 0 = some (.iconst (0), 1, []) := by decide +kernel
theorem r291_1 : am_at 291 1 = some (.istore_n 3, 1, [3]) := by decide +kernel
theorem r291_2 : am_at 291 2 = some (.iload_n 3, 1, [3]) := by decide +kernel
theorem r291_3 : am_at 291 3 = some (.bipush (56), 2, []) := by decide +kernel
theorem r291_5 : am_at 291 5 = some (.if_icmp .ge (38), 3, [43]) := by decide +kernel
theorem r291_8 : am_at 291 8 = some (.iload_n 2, 1, [2]) := by decide +kernel
theorem r291_9 : am_at 291 9 = some (.iload_n 3, 1, [3]) := by decide +kernel
theorem r291_10 : am_at 291 10 = some (.iadd, 1, []) := by decide +kernel
theorem r291_11 : am_at 291 11 = some (.bipush (56), 2, []) := by decide +kernel
theorem r291_13 : am_at 291 13 = some (.irem, 1, []) := by decide +kernel
theorem r291_14 : am_at 291 14 = some (.istore 4, 2, [4]) := by decide +kernel
theorem r291_16 : am_at 291 16 = some (.aload_n 0, 1, [0]) := by decide +kernel
theorem r291_17 : am_at 291 17 = some (.iload_n 1, 1, [1]) := by decide +kernel
theorem r291_18 : am_at 291 18 = some (.iload 4, 2, [4]) := by decide +kernel
theorem r291_20 : am_at 291 20 = some (.iconst (2), 1, []) := by decide +kernel
theorem r291_21 : am_at 291 21 = some (.idiv, 1, []) := by decide +kernel
theorem r291_22 : am_at 291 22 = some (.iload 4, 2, [4]) := by decide +kernel
theorem r291_24 : am_at 291 24 = some (.iconst (2), 1, []) := by decide +kernel
theorem r291_25 : am_at 291 25 = some (.irem, 1, []) := by decide +kernel
theorem r291_26 : am_at 291 26 = some (.iconst (1), 1, []) := by decide +kernel
theorem r291_27 : am_at 291 27 = some (.invokevirtual 29, 3, [28, 5, 647, 0]) := by decide +kernel
theorem r291_30 : am_at 291 30 = some (.iconst (-1), 1, []) := by decide +kernel
theorem r291_31 : am_at 291 31 = some (.if_icmp .eq (6), 3, [37]) := by decide +kernel
theorem r291_34 : am_at 291 34 = some (.iload 4, 2, [4]) := by decide +kernel
theorem r291_36 : am_at 291 36 = some (.ireturn, 1, []) := by decide +kernel
theorem r291_37 : am_at 291 37 = some (.iinc 3 (1), 3, [3]) := by decide +kernel
theorem r291_40 : am_at 291 40 = some (.goto (-38), 3, [2]) := by decide +kernel
theorem r291_43 : am_at 291 43 = some (.iconst (-1), 1, []) := by decide +kernel
theorem r291_44 : am_at 291 44 = some (.ireturn, 1, []) := by decide +kernel
theorem rt291 : am_rtt 291 = some (some .int) := by decide +kernel
set_option maxRecDepth 100000 in
theorem pg291 : am_pg[291]? = some am_m291 := rfl
theorem m291_L2_w {d : Nat} {N : Nat} {D : am_D} {v1 : Int32} {v2 : Int32} {mc ms : Nat} {Q : am_O → am_AH → Prop} (hd : 7 ≤ d) : ∀ (n : Nat) (v3 : Int32) {q : Nat × Int32} (h : m291_L2 N D v1 v2  n v3 = some q) (k0 : q.1 = 0 → am_X xs L 291 d mc ms 43 [.ref 0, am_dead, am_dead, am_dead, am_dead] [] (am_mk D) 0 0 Q) (k1 : q.1 = 1 → am_X xs L 291 d mc ms 34 [.ref 0, am_dead, am_dead, am_dead, .int q.2] [] (am_mk D) 0 0 Q), am_X xs L 291 d mc ms 2 [.ref 0, .int v1, .int v2, .int v3, am_dead] [] (am_mk D) 0 0 Q := by
  intro n
  induction n with
  | zero =>
    intro v3 q h k0 k1
    exact (nomatch (show none = some q from h))
  | succ n ih =>
    intro v3 q h k0 k1
    rw [m291_L2] at h
    refine x_ld (v := .int v3) r291_2 rfl rfl rfl ?_
    refine x_bi (v := 56) r291_3 rfl rfl ?_
    rcases am_ifE h with ⟨c1, h⟩ | ⟨c1, h⟩
    · refine x_icgeT r291_5 c1 ?_
      refine x_forget (lc0 := [.ref 0, am_dead, am_dead, am_dead, am_dead]) ⟨Or.inl rfl, Or.inr ⟨rfl, rfl⟩, Or.inr ⟨rfl, rfl⟩, Or.inr ⟨rfl, rfl⟩, Or.inl rfl, trivial⟩ ?_
      cases h
      exact k0 rfl
    · refine x_icgeF r291_5 c1 rfl ?_
      refine x_ld (v := .int v2) r291_8 rfl rfl rfl ?_
      refine x_ld (v := .int v3) r291_9 rfl rfl rfl ?_
      refine x_ar r291_10 rfl trivial rfl ?_
      refine x_bi (v := 56) r291_11 rfl rfl ?_
      refine x_ar r291_13 rfl (by decide) rfl ?_
      obtain ⟨x2, e3, h⟩ := am_ltE h
      refine am_topI e3 ?_
      refine x_sto (lc' := [.ref 0, .int v1, .int v2, .int v3, .int x2]) r291_14 rfl rfl rfl rfl ?_
      refine x_ld (v := .ref 0) r291_16 rfl rfl rfl ?_
      refine x_ld (v := .int v1) r291_17 rfl rfl rfl ?_
      refine x_ld (v := .int x2) r291_18 rfl rfl rfl ?_
      refine x_ic (v := 2) r291_20 rfl rfl ?_
      refine x_ar r291_21 rfl (by decide) rfl ?_
      refine x_ld (v := .int x2) r291_22 rfl rfl rfl ?_
      refine x_ic (v := 2) r291_24 rfl rfl ?_
      refine x_ar r291_25 rfl (by decide) rfl ?_
      refine x_ic (v := 1) r291_26 rfl rfl ?_
      obtain ⟨q4, h5, h⟩ := Option.bind_eq_some_iff.mp h
      obtain ⟨x6, h7, h⟩ := Option.bind_eq_some_iff.mp h
      refine x_call1 (as := [.ref 0, .int v1, .int (x2 / (2 : Int32)), .int (x2 - x2 / (2 : Int32) * (2 : Int32)), .int (1 : Int32)]) (rest := []) r291_27 rfl rfl rfl (by decide) (Nat.le_of_ble_eq_true rfl) (m28_okv h5 h7) (Nat.le_trans (by decide) hd) (Nat.zero_le _) (Nat.zero_le _) rfl ?_
      refine x_ic (v := -1) r291_30 rfl rfl ?_
      rcases am_ifE h with ⟨c8, h⟩ | ⟨c8, h⟩
      · refine x_iceqT r291_31 c8 ?_
        obtain ⟨x9, e10, h⟩ := am_ltE h
        refine x_sto (lc' := [.ref 0, .int v1, .int v2, .int x9, .int x2]) r291_37 rfl rfl (by subst e10; rfl) rfl ?_
        refine x_goto r291_40 ?_
        exact x_forget (lc0 := [.ref 0, .int v1, .int v2, .int x9, am_dead]) ⟨Or.inl rfl, Or.inl rfl, Or.inl rfl, Or.inl rfl, Or.inr ⟨rfl, rfl⟩, trivial⟩ (ih x9 h k0 k1)
      · refine x_iceqF r291_31 c8 rfl ?_
        refine x_forget (lc0 := [.ref 0, am_dead, am_dead, am_dead, .int x2]) ⟨Or.inl rfl, Or.inr ⟨rfl, rfl⟩, Or.inr ⟨rfl, rfl⟩, Or.inr ⟨rfl, rfl⟩, Or.inl rfl, trivial⟩ ?_
        cases h
        exact k1 rfl
theorem m291_w {d mc ms : Nat} {N : Nat} {D : am_D} {v1 : Int32} {v2 : Int32} {Q : am_O → am_AH → Prop} (hd : 7 ≤ d) {r : Int32} (h : m291 N D v1 v2 = some r) (hQ : Q (.inl (some (.int r))) (am_mk D)) : am_X xs L 291 d mc ms 0 [.ref 0, .int v1, .int v2, am_dead, am_dead] [] (am_mk D) 0 0 Q := by
  unfold m291 at h
  refine x_ic (v := 0) r291_0 rfl rfl ?_
  refine x_sto (lc' := [.ref 0, .int v1, .int v2, .int (0 : Int32), am_dead]) r291_1 rfl rfl rfl rfl ?_
  obtain ⟨q11, h12, h⟩ := Option.bind_eq_some_iff.mp h
  refine x_forget (lc0 := [.ref 0, .int v1, .int v2, .int (0 : Int32), am_dead]) ⟨Or.inl rfl, Or.inl rfl, Or.inl rfl, Or.inl rfl, Or.inl rfl, trivial⟩ (m291_L2_w hd N (0 : Int32) h12 (fun e13 => ?_) (fun e14 => ?_))
  · rw [if_pos e13] at h
    refine x_ic (v := -1) r291_43 rfl rfl ?_
    cases h
    exact x_ret (ret := some .int) (C := True) (v := some (.int _)) r291_44 rt291 rfl rfl rfl rfl rfl rfl rfl rfl trivial hQ
  · rw [if_neg (by rw [e14]; decide)] at h
    refine x_ld (v := .int q11.2) r291_34 rfl rfl rfl ?_
    cases h
    exact x_ret (ret := some .int) (C := True) (v := some (.int _)) r291_36 rt291 rfl rfl rfl rfl rfl rfl rfl rfl trivial hQ
theorem m291_ok {N : Nat} {D : am_D} {v1 : Int32} {v2 : Int32} {r : Int32} (h : m291 N D v1 v2 = some r) : am_Y xs L 291 7 0 0 [.ref 0, .int v1, .int v2] D (.inl (some (.int r))) D := am_Yof (mi := am_m291) (lc := [.ref 0, .int v1, .int v2, am_dead, am_dead]) pg291 (Nat.le_of_ble_eq_true rfl) (am_rc0 rfl) rfl (fun Q hQ => m291_w (Nat.le_refl _) h hQ)
theorem r294_0 : am_at 294 0 = some (.aload_n 0, 1, [0]) := by decide +kernel
theorem r294_1 : am_at 294 1 = some (.iload_n 1, 1, [1]) := by decide +kernel
theorem r294_2 : am_at 294 2 = some (.iconst (0), 1, []) := by decide +kernel
theorem r294_3 : am_at 294 3 = some (.invokevirtual 84, 3, [24, 3, 851, 0]) := by decide +kernel
theorem r294_6 : am_at 294 6 = some (.istore_n 3, 1, [3]) := by decide +kernel
theorem r294_7 : am_at 294 7 = some (.iload_n 3, 1, [3]) := by decide +kernel
theorem r294_8 : am_at 294 8 = some (.aload_n 0, 1, [0]) := by decide +kernel
theorem r294_9 : am_at 294 9 = some (.iload_n 1, 1, [1]) := by decide +kernel
theorem r294_10 : am_at 294 10 = some (.iconst (1), 1, []) := by decide +kernel
theorem r294_11 : am_at 294 11 = some (.invokevirtual 84, 3, [24, 3, 851, 0]) := by decide +kernel
theorem r294_14 : am_at 294 14 = some (.if_icmp .ne (50), 3, [64]) := by decide +kernel
theorem r294_17 : am_at 294 17 = some (.iload_n 3, 1, [3]) := by decide +kernel
theorem r294_18 : am_at 294 18 = some (.ifCond .lt (46), 3, [64]) := by decide +kernel
theorem r294_21 : am_at 294 21 = some (.iload_n 3, 1, [3]) := by decide +kernel
theorem r294_22 : am_at 294 22 = some (.ldc 87, 2, [3, 902, 399072960]) := by decide +kernel
theorem r294_24 : am_at 294 24 = some (.if_icmp .gt (40), 3, [64]) := by decide +kernel
theorem r294_27 : am_at 294 27 = some (.aload_n 0, 1, [0]) := by decide +kernel
theorem r294_28 : am_at 294 28 = some (.iconst (0), 1, []) := by decide +kernel
theorem r294_29 : am_at 294 29 = some (.invokevirtual 13, 3, [22, 2, 385, 0]) := by decide +kernel
theorem r294_32 : am_at 294 32 = some (.iconst (1), 1, []) := by decide +kernel
theorem r294_33 : am_at 294 33 = some (.if_icmp .ne (8), 3, [41]) := by decide +kernel
theorem r294_36 : am_at 294 36 = some (.iload_n 3, 1, [3]) := by decide +kernel
theorem r294_37 : am_at 294 37 = some (.iconst (1), 1, []) := by decide +kernel
theorem r294_38 : am_at 294 38 = some (.if_icmp .lt (26), 3, [64]) := by decide +kernel
theorem r294_41 : am_at 294 41 = some (.iload_n 3, 1, [3]) := by decide +kernel
theorem r294_42 : am_at 294 42 = some (.ifCond .eq (18), 3, [60]) := by decide +kernel
theorem r294_45 : am_at 294 45 = some (.aload_n 0, 1, [0]) := by decide +kernel
theorem r294_46 : am_at 294 46 = some (.iload_n 1, 1, [1]) := by decide +kernel
theorem r294_47 : am_at 294 47 = some (.iload_n 1, 1, [1]) := by decide +kernel
theorem r294_48 : am_at 294 48 = some (.invokevirtual 88, 3, [26, 3, 903, 0]) := by decide +kernel
theorem r294_51 : am_at 294 51 = some (.aload_n 0, 1, [0]) := by decide +kernel
theorem r294_52 : am_at 294 52 = some (.iload_n 1, 1, [1]) := by decide +kernel
theorem r294_53 : am_at 294 53 = some (.iconst (0), 1, []) := by decide +kernel
theorem r294_54 : am_at 294 54 = some (.invokevirtual 26, 3, [21, 3, 512, 0]) := by decide +kernel
theorem r294_57 : am_at 294 57 = some (.if_icmp .ne (7), 3, [64]) := by decide +kernel
theorem r294_60 : am_at 294 60 = some (.iconst (1), 1, []) := by decide +kernel
theorem r294_61 : am_at 294 61 = some (.goto (4), 3, [65]) := by decide +kernel
theorem r294_64 : am_at 294 64 = some (.iconst (0), 1, []) := by decide +kernel
theorem r294_65 : am_at 294 65 = some (.istore 4, 2, [4]) := by decide +kernel
theorem r294_67 : am_at 294 67 = some (.iconst (0), 1, []) := by decide +kernel
theorem r294_68 : am_at 294 68 = some (.istore 5, 2, [5]) := by decide +kernel
theorem r294_70 : am_at 294 70 = some (.iload 5, 2, [5]) := by decide +kernel
theorem r294_72 : am_at 294 72 = some (.iconst (5), 1, []) := by decide +kernel
theorem r294_73 : am_at 294 73 = some (.if_icmp .ge (208), 3, [281]) := by decide +kernel
theorem r294_76 : am_at 294 76 = some (.iload_n 2, 1, [2]) := by decide +kernel
theorem r294_77 : am_at 294 77 = some (.iconst (5), 1, []) := by decide +kernel
theorem r294_78 : am_at 294 78 = some (.iload 5, 2, [5]) := by decide +kernel
theorem r294_80 : am_at 294 80 = some (.imul, 1, []) := by decide +kernel
theorem r294_81 : am_at 294 81 = some (.iadd, 1, []) := by decide +kernel
theorem r294_82 : am_at 294 82 = some (.bipush (28), 2, []) := by decide +kernel
theorem r294_84 : am_at 294 84 = some (.irem, 1, []) := by decide +kernel
theorem r294_85 : am_at 294 85 = some (.istore 6, 2, [6]) := by decide +kernel
theorem r294_87 : am_at 294 87 = some (.aload_n 0, 1, [0]) := by decide +kernel
theorem r294_88 : am_at 294 88 = some (.iload 6, 2, [6]) := by decide +kernel
theorem r294_90 : am_at 294 90 = some (.iconst (3), 1, []) := by decide +kernel
theorem r294_91 : am_at 294 91 = some (.invokevirtual 19, 3, [18, 3, 456, 0]) := by decide +kernel
theorem r294_94 : am_at 294 94 = some (.istore 7, 2, [7]) := by decide +kernel
theorem r294_96 : am_at 294 96 = some (.iconst (0), 1, []) := by decide +kernel
theorem r294_97 : am_at 294 97 = some (.istore 8, 2, [8]) := by decide +kernel
theorem r294_99 : am_at 294 99 = some (.iconst (0), 1, []) := by decide +kernel
theorem r294_100 : am_at 294 100 = some (.istore 9, 2, [9]) := by decide +kernel
theorem r294_102 : am_at 294 102 = some (.iload 9, 2, [9]) := by decide +kernel
theorem r294_104 : am_at 294 104 = some (.iconst (4), 1, []) := by decide +kernel
theorem r294_105 : am_at 294 105 = some (.if_icmp .ge (109), 3, [214]) := by decide +kernel
theorem r294_108 : am_at 294 108 = some (.aload_n 0, 1, [0]) := by decide +kernel
theorem r294_109 : am_at 294 109 = some (.iload_n 1, 1, [1]) := by decide +kernel
theorem r294_110 : am_at 294 110 = some (.iload 9, 2, [9]) := by decide +kernel
theorem r294_112 : am_at 294 112 = some (.iload 6, 2, [6]) := by decide +kernel
theorem r294_114 : am_at 294 114 = some (.invokevirtual 91, 3, [25, 4, 916, 0]) := by decide +kernel
theorem r294_117 : am_at 294 117 = some (.istore 10, 2, [10]) := by decide +kernel
theorem r294_119 : am_at 294 119 = some (.iload 8, 2, [8]) := by decide +kernel
theorem r294_121 : am_at 294 121 = some (.iload 9, 2, [9]) := by decide +kernel
theorem r294_123 : am_at 294 123 = some (.iload_n 1, 1, [1]) := by decide +kernel
theorem r294_124 : am_at 294 124 = some (.if_icmp .ne (7), 3, [131]) := by decide +kernel
theorem r294_127 : am_at 294 127 = some (.iconst (0), 1, []) := by decide +kernel
theorem r294_128 : am_at 294 128 = some (.goto (5), 3, [133]) := by decide +kernel
theorem r294_131 : am_at 294 131 = some (.iload 10, 2, [10]) := by decide +kernel
theorem r294_133 : am_at 294 133 = some (.iadd, 1, []) := by decide +kernel
theorem r294_134 : am_at 294 134 = some (.istore 8, 2, [8]) := by decide +kernel
theorem r294_136 : am_at 294 136 = some (.iload 4, 2, [4]) := by decide +kernel
theorem r294_138 : am_at 294 138 = some (.ifCond .eq (67), 3, [205]) := by decide +kernel
theorem r294_141 : am_at 294 141 = some (.iload 10, 2, [10]) := by decide +kernel
theorem r294_143 : am_at 294 143 = some (.ifCond .lt (62), 3, [205]) := by decide +kernel
theorem r294_146 : am_at 294 146 = some (.iload 10, 2, [10]) := by decide +kernel
theorem r294_148 : am_at 294 148 = some (.iload_n 3, 1, [3]) := by decide +kernel
theorem r294_149 : am_at 294 149 = some (.if_icmp .gt (56), 3, [205]) := by decide +kernel
theorem r294_152 : am_at 294 152 = some (.iload 9, 2, [9]) := by decide +kernel
theorem r294_154 : am_at 294 154 = some (.iload_n 1, 1, [1]) := by decide +kernel
theorem r294_155 : am_at 294 155 = some (.if_icmp .ne (19), 3, [174]) := by decide +kernel
theorem r294_158 : am_at 294 158 = some (.iload 10, 2, [10]) := by decide +kernel
theorem r294_160 : am_at 294 160 = some (.iload 7, 2, [7]) := by decide +kernel
theorem r294_162 : am_at 294 162 = some (.iload_n 1, 1, [1]) := by decide +kernel
theorem r294_163 : am_at 294 163 = some (.if_icmp .ne (7), 3, [170]) := by decide +kernel
theorem r294_166 : am_at 294 166 = some (.iload_n 3, 1, [3]) := by decide +kernel
theorem r294_167 : am_at 294 167 = some (.goto (4), 3, [171]) := by decide +kernel
theorem r294_170 : am_at 294 170 = some (.iconst (0), 1, []) := by decide +kernel
theorem r294_171 : am_at 294 171 = some (.if_icmp .ne (34), 3, [205]) := by decide +kernel
theorem r294_174 : am_at 294 174 = some (.aload_n 0, 1, [0]) := by decide +kernel
theorem r294_175 : am_at 294 175 = some (.iload_n 1, 1, [1]) := by decide +kernel
theorem r294_176 : am_at 294 176 = some (.iload 9, 2, [9]) := by decide +kernel
theorem r294_178 : am_at 294 178 = some (.iload 6, 2, [6]) := by decide +kernel
theorem r294_180 : am_at 294 180 = some (.invokevirtual 94, 3, [27, 4, 925, 0]) := by decide +kernel
theorem r294_183 : am_at 294 183 = some (.iload_n 3, 1, [3]) := by decide +kernel
theorem r294_184 : am_at 294 184 = some (.ifCond .ne (7), 3, [191]) := by decide +kernel
theorem r294_187 : am_at 294 187 = some (.dconst 0, 1, []) := by decide +kernel
theorem r294_188 : am_at 294 188 = some (.goto (9), 3, [197]) := by decide +kernel
theorem r294_191 : am_at 294 191 = some (.iload 10, 2, [10]) := by decide +kernel
theorem r294_193 : am_at 294 193 = some (.i2d, 1, []) := by decide +kernel
theorem r294_194 : am_at 294 194 = some (.iload_n 3, 1, [3]) := by decide +kernel
theorem r294_195 : am_at 294 195 = some (.i2d, 1, []) := by decide +kernel
theorem r294_196 : am_at 294 196 = some (.ddiv, 1, []) := by decide +kernel
theorem r294_197 : am_at 294 197 = some (.dcmp .l, 1, []) := by decide +kernel
theorem r294_198 : am_at 294 198 = some (.ifCond .ne (7), 3, [205]) := by decide +kernel
theorem r294_201 : am_at 294 201 = some (.iconst (1), 1, []) := by decide +kernel
theorem r294_202 : am_at 294 202 = some (.goto (4), 3, [206]) := by decide +kernel
theorem r294_205 : am_at 294 205 = some (.iconst (0), 1, []) := by decide +kernel
theorem r294_206 : am_at 294 206 = some (.istore 4, 2, [4]) := by decide +kernel
theorem r294_208 : am_at 294 208 = some (.iinc 9 (1), 3, [9]) := by decide +kernel
theorem r294_211 : am_at 294 211 = some (.goto (-109), 3, [102]) := by decide +kernel
theorem r294_214 : am_at 294 214 = some (.iload 4, 2, [4]) := by decide +kernel
theorem r294_216 : am_at 294 216 = some (.ifCond .eq (56), 3, [272]) := by decide +kernel
theorem r294_219 : am_at 294 219 = some (.iload 8, 2, [8]) := by decide +kernel
theorem r294_221 : am_at 294 221 = some (.iload 7, 2, [7]) := by decide +kernel
theorem r294_223 : am_at 294 223 = some (.iconst (4), 1, []) := by decide +kernel
theorem r294_224 : am_at 294 224 = some (.if_icmp .ge (13), 3, [237]) := by decide +kernel
theorem r294_227 : am_at 294 227 = some (.iload 7, 2, [7]) := by decide +kernel
theorem r294_229 : am_at 294 229 = some (.iload_n 1, 1, [1]) := by decide +kernel
theorem r294_230 : am_at 294 230 = some (.if_icmp .eq (7), 3, [237]) := by decide +kernel
theorem r294_233 : am_at 294 233 = some (.iload_n 3, 1, [3]) := by decide +kernel
theorem r294_234 : am_at 294 234 = some (.goto (4), 3, [238]) := by decide +kernel
theorem r294_237 : am_at 294 237 = some (.iconst (0), 1, []) := by decide +kernel
theorem r294_238 : am_at 294 238 = some (.if_icmp .ne (34), 3, [272]) := by decide +kernel
theorem r294_241 : am_at 294 241 = some (.aload_n 0, 1, [0]) := by decide +kernel
theorem r294_242 : am_at 294 242 = some (.iconst (0), 1, []) := by decide +kernel
theorem r294_243 : am_at 294 243 = some (.invokevirtual 13, 3, [22, 2, 385, 0]) := by decide +kernel
theorem r294_246 : am_at 294 246 = some (.iconst (1), 1, []) := by decide +kernel
theorem r294_247 : am_at 294 247 = some (.if_icmp .ne (21), 3, [268]) := by decide +kernel
theorem r294_250 : am_at 294 250 = some (.iload 7, 2, [7]) := by decide +kernel
theorem r294_252 : am_at 294 252 = some (.iconst (3), 1, []) := by decide +kernel
theorem r294_253 : am_at 294 253 = some (.if_icmp .gt (15), 3, [268]) := by decide +kernel
theorem r294_256 : am_at 294 256 = some (.aload_n 0, 1, [0]) := by decide +kernel
theorem r294_257 : am_at 294 257 = some (.iload_n 1, 1, [1]) := by decide +kernel
theorem r294_258 : am_at 294 258 = some (.iload 7, 2, [7]) := by decide +kernel
theorem r294_260 : am_at 294 260 = some (.iload 6, 2, [6]) := by decide +kernel
theorem r294_262 : am_at 294 262 = some (.invokevirtual 91, 3, [25, 4, 916, 0]) := by decide +kernel
theorem r294_265 : am_at 294 265 = some (.ifCond .le (7), 3, [272]) := by decide +kernel
theorem r294_268 : am_at 294 268 = some (.iconst (1), 1, []) := by decide +kernel
theorem r294_269 : am_at 294 269 = some (.goto (4), 3, [273]) := by decide +kernel
theorem r294_272 : am_at 294 272 = some (.iconst (0), 1, []) := by decide +kernel
theorem r294_273 : am_at 294 273 = some (.istore 4, 2, [4]) := by decide +kernel
theorem r294_275 : am_at 294 275 = some (.iinc 5 (1), 3, [5]) := by decide +kernel
theorem r294_278 : am_at 294 278 = some (.goto (-208), 3, [70]) := by decide +kernel
theorem r294_281 : am_at 294 281 = some (.iload_n 1, 1, [1]) := by decide +kernel
theorem r294_282 : am_at 294 282 = some (.iconst (1), 1, []) := by decide +kernel
theorem r294_283 : am_at 294 283 = some (.iadd, 1, []) := by decide +kernel
theorem r294_284 : am_at 294 284 = some (.iconst (4), 1, []) := by decide +kernel
theorem r294_285 : am_at 294 285 = some (.irem, 1, []) := by decide +kernel
theorem r294_286 : am_at 294 286 = some (.istore 5, 2, [5]) := by decide +kernel
theorem r294_288 : am_at 294 288 = some (.iload 4, 2, [4]) := by decide +kernel
theorem r294_290 : am_at 294 290 = some (.ifCond .eq (34), 3, [324]) := by decide +kernel
theorem r294_293 : am_at 294 293 = some (.aload_n 0, 1, [0]) := by decide +kernel
theorem r294_294 : am_at 294 294 = some (.iload_n 1, 1, [1]) := by decide +kernel
theorem r294_295 : am_at 294 295 = some (.iload 5, 2, [5]) := by decide +kernel
theorem r294_297 : am_at 294 297 = some (.invokevirtual 88, 3, [26, 3, 903, 0]) := by decide +kernel
theorem r294_300 : am_at 294 300 = some (.aload_n 0, 1, [0]) := by decide +kernel
theorem r294_301 : am_at 294 301 = some (.iload 5, 2, [5]) := by decide +kernel
theorem r294_303 : am_at 294 303 = some (.iconst (0), 1, []) := by decide +kernel
theorem r294_304 : am_at 294 304 = some (.invokevirtual 26, 3, [21, 3, 512, 0]) := by decide +kernel
theorem r294_307 : am_at 294 307 = some (.if_icmp .gt (17), 3, [324]) := by decide +kernel
theorem r294_310 : am_at 294 310 = some (.aload_n 0, 1, [0]) := by decide +kernel
theorem r294_311 : am_at 294 311 = some (.iload_n 1, 1, [1]) := by decide +kernel
theorem r294_312 : am_at 294 312 = some (.iload 5, 2, [5]) := by decide +kernel
theorem r294_314 : am_at 294 314 = some (.invokevirtual 88, 3, [26, 3, 903, 0]) := by decide +kernel
theorem r294_317 : am_at 294 317 = some (.ifCond .lt (7), 3, [324]) := by decide +kernel
theorem r294_320 : am_at 294 320 = some (.iconst (1), 1, []) := by decide +kernel
theorem r294_321 : am_at 294 321 = some (.goto (4), 3, [325]) := by decide +kernel
theorem r294_324 : am_at 294 324 = some (.iconst (0), 1, []) := by decide +kernel
theorem r294_325 : am_at 294 325 = some (.ireturn, 1, []) := by decide +kernel
theorem rt294 : am_rtt 294 = some (some .boolean) := by decide +kernel
set_option maxRecDepth 100000 in
theorem pg294 : am_pg[294]? = some am_m294 := rfl
theorem m294_L102_w {d : Nat} {N : Nat} {v1 : Int32} {v2 : Int32} {v3 : Int32} {v5 : Int32} {v6 : Int32} {v7 : Int32} {mc ms : Nat} {Q : am_O → am_AH → Prop} (hd : 16 ≤ d) : ∀ (n : Nat) (D : am_D) (v4 : Int32) (v8 : Int32) (v9 : Int32) {q : Int32 × Int32 × am_D} (h : m294_L102 N v1 v2 v3 v5 v6 v7  n D v4 v8 v9 = some q) (k0 : am_X xs L 294 d mc ms 214 [.ref 0, .int v1, .int v2, .int v3, .int q.1, .int v5, .int v6, .int v7, .int q.2.1, am_dead, am_dead] [] (am_mk q.2.2) 0 0 Q), am_X xs L 294 d mc ms 102 [.ref 0, .int v1, .int v2, .int v3, .int v4, .int v5, .int v6, .int v7, .int v8, .int v9, am_dead] [] (am_mk D) 0 0 Q := by
  intro n
  induction n with
  | zero =>
    intro D v4 v8 v9 q h k0
    exact (nomatch (show none = some q from h))
  | succ n ih =>
    intro D v4 v8 v9 q h k0
    rw [m294_L102] at h
    refine x_ld (v := .int v9) r294_102 rfl rfl rfl ?_
    refine x_ic (v := 4) r294_104 rfl rfl ?_
    rcases am_ifE h with ⟨c48, h⟩ | ⟨c48, h⟩
    · refine x_icgeT r294_105 c48 ?_
      refine x_forget (lc0 := [.ref 0, .int v1, .int v2, .int v3, .int v4, .int v5, .int v6, .int v7, .int v8, am_dead, am_dead]) ⟨Or.inl rfl, Or.inl rfl, Or.inl rfl, Or.inl rfl, Or.inl rfl, Or.inl rfl, Or.inl rfl, Or.inl rfl, Or.inl rfl, Or.inr ⟨rfl, rfl⟩, Or.inl rfl, trivial⟩ ?_
      cases h
      exact k0
    · refine x_icgeF r294_105 c48 rfl ?_
      refine x_ld (v := .ref 0) r294_108 rfl rfl rfl ?_
      refine x_ld (v := .int v1) r294_109 rfl rfl rfl ?_
      refine x_ld (v := .int v9) r294_110 rfl rfl rfl ?_
      refine x_ld (v := .int v6) r294_112 rfl rfl rfl ?_
      obtain ⟨q49, h50, h⟩ := Option.bind_eq_some_iff.mp h
      obtain ⟨x51, h52, h⟩ := Option.bind_eq_some_iff.mp h
      refine x_call1 (as := [.ref 0, .int v1, .int v9, .int v6]) (rest := []) r294_114 rfl rfl rfl (by decide) (Nat.le_of_ble_eq_true rfl) (m25_okv h50 h52) (Nat.le_trans (by decide) hd) (Nat.zero_le _) (Nat.zero_le _) rfl ?_
      refine x_sto (lc' := [.ref 0, .int v1, .int v2, .int v3, .int v4, .int v5, .int v6, .int v7, .int v8, .int v9, .int x51]) r294_117 rfl rfl rfl rfl ?_
      refine x_ld (v := .int v8) r294_119 rfl rfl rfl ?_
      refine x_ld (v := .int v9) r294_121 rfl rfl rfl ?_
      refine x_ld (v := .int v1) r294_123 rfl rfl rfl ?_
      obtain ⟨q53, h55, h⟩ := am_ltE h
      replace h55 := h55.symm
      have kj54 : am_X xs L 294 d mc ms 133 [.ref 0, .int v1, .int v2, .int v3, .int v4, .int v5, .int v6, .int v7, .int v8, .int v9, .int x51] [.int q53, .int v8] (am_mk q49.2) 0 0 Q := by
        refine x_ar r294_133 rfl trivial rfl ?_
        obtain ⟨x57, e58, h⟩ := am_ltE h
        refine am_topI e58 ?_
        refine x_sto (lc' := [.ref 0, .int v1, .int v2, .int v3, .int v4, .int v5, .int v6, .int v7, .int x57, .int v9, .int x51]) r294_134 rfl rfl rfl rfl ?_
        refine x_ld (v := .int v4) r294_136 rfl rfl rfl ?_
        obtain ⟨q59, h61, h⟩ := Option.bind_eq_some_iff.mp h
        have kj60 : am_X xs L 294 d mc ms 206 [.ref 0, .int v1, .int v2, .int v3, .int v4, .int v5, .int v6, .int v7, .int x57, .int v9, .int x51] [.int q59.1] (am_mk q59.2) 0 0 Q := by
          refine x_sto (lc' := [.ref 0, .int v1, .int v2, .int v3, .int q59.1, .int v5, .int v6, .int v7, .int x57, .int v9, .int x51]) r294_206 rfl rfl rfl rfl ?_
          obtain ⟨x91, e92, h⟩ := am_ltE h
          refine x_sto (lc' := [.ref 0, .int v1, .int v2, .int v3, .int q59.1, .int v5, .int v6, .int v7, .int x57, .int x91, .int x51]) r294_208 rfl rfl (by subst e92; rfl) rfl ?_
          refine x_goto r294_211 ?_
          exact x_forget (lc0 := [.ref 0, .int v1, .int v2, .int v3, .int q59.1, .int v5, .int v6, .int v7, .int x57, .int x91, am_dead]) ⟨Or.inl rfl, Or.inl rfl, Or.inl rfl, Or.inl rfl, Or.inl rfl, Or.inl rfl, Or.inl rfl, Or.inl rfl, Or.inl rfl, Or.inl rfl, Or.inr ⟨rfl, rfl⟩, trivial⟩ (ih q59.2 q59.1 x57 x91 h k0)
        rcases am_ifE h61 with ⟨c62, h61⟩ | ⟨c62, h61⟩
        · refine x_ifeqT r294_138 c62 ?_
          refine x_ic (v := 0) r294_205 rfl rfl ?_
          cases h61
          exact kj60
        · refine x_ifeqF r294_138 c62 rfl ?_
          refine x_ld (v := .int x51) r294_141 rfl rfl rfl ?_
          rcases am_ifE h61 with ⟨c63, h61⟩ | ⟨c63, h61⟩
          · refine x_ifltT r294_143 c63 ?_
            refine x_ic (v := 0) r294_205 rfl rfl ?_
            cases h61
            exact kj60
          · refine x_ifltF r294_143 c63 rfl ?_
            refine x_ld (v := .int x51) r294_146 rfl rfl rfl ?_
            refine x_ld (v := .int v3) r294_148 rfl rfl rfl ?_
            rcases am_ifE h61 with ⟨c64, h61⟩ | ⟨c64, h61⟩
            · refine x_icgtT r294_149 c64 ?_
              refine x_ic (v := 0) r294_205 rfl rfl ?_
              cases h61
              exact kj60
            · refine x_icgtF r294_149 c64 rfl ?_
              refine x_ld (v := .int v9) r294_152 rfl rfl rfl ?_
              refine x_ld (v := .int v1) r294_154 rfl rfl rfl ?_
              rcases am_ifE h61 with ⟨c65, h61⟩ | ⟨c65, h61⟩
              · refine x_icneT r294_155 c65 rfl ?_
                refine x_ld (v := .int x51) r294_158 rfl rfl rfl ?_
                refine x_ld (v := .int v7) r294_160 rfl rfl rfl ?_
                refine x_ld (v := .int v1) r294_162 rfl rfl rfl ?_
                obtain ⟨q66, h68, h61⟩ := am_ltE h61
                replace h68 := h68.symm
                have kj67 : am_X xs L 294 d mc ms 171 [.ref 0, .int v1, .int v2, .int v3, .int v4, .int v5, .int v6, .int v7, .int x57, .int v9, .int x51] [.int q66, .int x51] (am_mk q49.2) 0 0 Q := by
                  rcases am_ifE h61 with ⟨c70, h61⟩ | ⟨c70, h61⟩
                  · refine x_icneT r294_171 c70 rfl ?_
                    refine x_ld (v := .ref 0) r294_174 rfl rfl rfl ?_
                    refine x_ld (v := .int v1) r294_175 rfl rfl rfl ?_
                    refine x_ld (v := .int v9) r294_176 rfl rfl rfl ?_
                    refine x_ld (v := .int v6) r294_178 rfl rfl rfl ?_
                    obtain ⟨q71, h72, h61⟩ := Option.bind_eq_some_iff.mp h61
                    obtain ⟨x73, h74, h61⟩ := Option.bind_eq_some_iff.mp h61
                    refine x_call1 (as := [.ref 0, .int v1, .int v9, .int v6]) (rest := []) r294_180 rfl rfl rfl (by decide) (Nat.le_of_ble_eq_true rfl) (m27_okv h72 h74) (Nat.le_trans (by decide) hd) (Nat.zero_le _) (Nat.zero_le _) rfl ?_
                    refine x_ld (v := .int v3) r294_183 rfl rfl rfl ?_
                    obtain ⟨q75, h77, h61⟩ := Option.bind_eq_some_iff.mp h61
                    have kj76 : am_X xs L 294 d mc ms 197 [.ref 0, .int v1, .int v2, .int v3, .int v4, .int v5, .int v6, .int v7, .int x57, .int v9, .int x51] [.double q75, .double x73] (am_mk q71.2) 0 0 Q := by
                      refine x_ar r294_197 rfl trivial rfl ?_
                      rcases am_ifE h61 with ⟨c80, h61⟩ | ⟨c80, h61⟩
                      · refine x_ifneT r294_198 c80 rfl ?_
                        refine x_ic (v := 1) r294_201 rfl rfl ?_
                        refine x_goto r294_202 ?_
                        cases h61
                        exact kj60
                      · refine x_ifneF r294_198 c80 ?_
                        refine x_ic (v := 0) r294_205 rfl rfl ?_
                        cases h61
                        exact kj60
                    rcases am_ifE h77 with ⟨c78, h77⟩ | ⟨c78, h77⟩
                    · refine x_ifneT r294_184 c78 rfl ?_
                      refine x_ar r294_187 rfl trivial rfl ?_
                      refine x_goto r294_188 ?_
                      cases h77
                      exact kj76
                    · refine x_ifneF r294_184 c78 ?_
                      refine x_ld (v := .int x51) r294_191 rfl rfl rfl ?_
                      refine x_ar r294_193 rfl trivial rfl ?_
                      refine x_ld (v := .int v3) r294_194 rfl rfl rfl ?_
                      refine x_ar r294_195 rfl trivial rfl ?_
                      obtain ⟨g79, h77⟩ := am_gdE h77
                      refine x_ar r294_196 rfl g79 rfl ?_
                      cases h77
                      exact kj76
                  · refine x_icneF r294_171 c70 ?_
                    refine x_ic (v := 0) r294_205 rfl rfl ?_
                    cases h61
                    exact kj60
                rcases am_ifE h68 with ⟨c69, h68⟩ | ⟨c69, h68⟩
                · refine x_icneT r294_163 c69 rfl ?_
                  refine x_ld (v := .int v3) r294_166 rfl rfl rfl ?_
                  refine x_goto r294_167 ?_
                  subst h68
                  exact kj67
                · refine x_icneF r294_163 c69 ?_
                  refine x_ic (v := 0) r294_170 rfl rfl ?_
                  subst h68
                  exact kj67
              · refine x_icneF r294_155 c65 ?_
                refine x_ld (v := .ref 0) r294_174 rfl rfl rfl ?_
                refine x_ld (v := .int v1) r294_175 rfl rfl rfl ?_
                refine x_ld (v := .int v9) r294_176 rfl rfl rfl ?_
                refine x_ld (v := .int v6) r294_178 rfl rfl rfl ?_
                obtain ⟨q81, h82, h61⟩ := Option.bind_eq_some_iff.mp h61
                obtain ⟨x83, h84, h61⟩ := Option.bind_eq_some_iff.mp h61
                refine x_call1 (as := [.ref 0, .int v1, .int v9, .int v6]) (rest := []) r294_180 rfl rfl rfl (by decide) (Nat.le_of_ble_eq_true rfl) (m27_okv h82 h84) (Nat.le_trans (by decide) hd) (Nat.zero_le _) (Nat.zero_le _) rfl ?_
                refine x_ld (v := .int v3) r294_183 rfl rfl rfl ?_
                obtain ⟨q85, h87, h61⟩ := Option.bind_eq_some_iff.mp h61
                have kj86 : am_X xs L 294 d mc ms 197 [.ref 0, .int v1, .int v2, .int v3, .int v4, .int v5, .int v6, .int v7, .int x57, .int v9, .int x51] [.double q85, .double x83] (am_mk q81.2) 0 0 Q := by
                  refine x_ar r294_197 rfl trivial rfl ?_
                  rcases am_ifE h61 with ⟨c90, h61⟩ | ⟨c90, h61⟩
                  · refine x_ifneT r294_198 c90 rfl ?_
                    refine x_ic (v := 1) r294_201 rfl rfl ?_
                    refine x_goto r294_202 ?_
                    cases h61
                    exact kj60
                  · refine x_ifneF r294_198 c90 ?_
                    refine x_ic (v := 0) r294_205 rfl rfl ?_
                    cases h61
                    exact kj60
                rcases am_ifE h87 with ⟨c88, h87⟩ | ⟨c88, h87⟩
                · refine x_ifneT r294_184 c88 rfl ?_
                  refine x_ar r294_187 rfl trivial rfl ?_
                  refine x_goto r294_188 ?_
                  cases h87
                  exact kj86
                · refine x_ifneF r294_184 c88 ?_
                  refine x_ld (v := .int x51) r294_191 rfl rfl rfl ?_
                  refine x_ar r294_193 rfl trivial rfl ?_
                  refine x_ld (v := .int v3) r294_194 rfl rfl rfl ?_
                  refine x_ar r294_195 rfl trivial rfl ?_
                  obtain ⟨g89, h87⟩ := am_gdE h87
                  refine x_ar r294_196 rfl g89 rfl ?_
                  cases h87
                  exact kj86
      rcases am_ifE h55 with ⟨c56, h55⟩ | ⟨c56, h55⟩
      · refine x_icneT r294_124 c56 rfl ?_
        refine x_ic (v := 0) r294_127 rfl rfl ?_
        refine x_goto r294_128 ?_
        subst h55
        exact kj54
      · refine x_icneF r294_124 c56 ?_
        refine x_ld (v := .int x51) r294_131 rfl rfl rfl ?_
        subst h55
        exact kj54
theorem m294_L70_w {d : Nat} {N : Nat} {v1 : Int32} {v2 : Int32} {v3 : Int32} {mc ms : Nat} {Q : am_O → am_AH → Prop} (hd : 16 ≤ d) : ∀ (n : Nat) (D : am_D) (v4 : Int32) (v5 : Int32) {q : Int32 × am_D} (h : m294_L70 N v1 v2 v3  n D v4 v5 = some q) (k0 : am_X xs L 294 d mc ms 281 [.ref 0, .int v1, am_dead, am_dead, .int q.1, am_dead, am_dead, am_dead, am_dead, am_dead, am_dead] [] (am_mk q.2) 0 0 Q), am_X xs L 294 d mc ms 70 [.ref 0, .int v1, .int v2, .int v3, .int v4, .int v5, am_dead, am_dead, am_dead, am_dead, am_dead] [] (am_mk D) 0 0 Q := by
  intro n
  induction n with
  | zero =>
    intro D v4 v5 q h k0
    exact (nomatch (show none = some q from h))
  | succ n ih =>
    intro D v4 v5 q h k0
    rw [m294_L70] at h
    refine x_ld (v := .int v5) r294_70 rfl rfl rfl ?_
    refine x_ic (v := 5) r294_72 rfl rfl ?_
    rcases am_ifE h with ⟨c41, h⟩ | ⟨c41, h⟩
    · refine x_icgeT r294_73 c41 ?_
      refine x_forget (lc0 := [.ref 0, .int v1, am_dead, am_dead, .int v4, am_dead, am_dead, am_dead, am_dead, am_dead, am_dead]) ⟨Or.inl rfl, Or.inl rfl, Or.inr ⟨rfl, rfl⟩, Or.inr ⟨rfl, rfl⟩, Or.inl rfl, Or.inr ⟨rfl, rfl⟩, Or.inl rfl, Or.inl rfl, Or.inl rfl, Or.inl rfl, Or.inl rfl, trivial⟩ ?_
      cases h
      exact k0
    · refine x_icgeF r294_73 c41 rfl ?_
      refine x_ld (v := .int v2) r294_76 rfl rfl rfl ?_
      refine x_ic (v := 5) r294_77 rfl rfl ?_
      refine x_ld (v := .int v5) r294_78 rfl rfl rfl ?_
      refine x_ar r294_80 rfl trivial rfl ?_
      refine x_ar r294_81 rfl trivial rfl ?_
      refine x_bi (v := 28) r294_82 rfl rfl ?_
      refine x_ar r294_84 rfl (by decide) rfl ?_
      obtain ⟨x42, e43, h⟩ := am_ltE h
      refine am_topI e43 ?_
      refine x_sto (lc' := [.ref 0, .int v1, .int v2, .int v3, .int v4, .int v5, .int x42, am_dead, am_dead, am_dead, am_dead]) r294_85 rfl rfl rfl rfl ?_
      refine x_ld (v := .ref 0) r294_87 rfl rfl rfl ?_
      refine x_ld (v := .int x42) r294_88 rfl rfl rfl ?_
      refine x_ic (v := 3) r294_90 rfl rfl ?_
      obtain ⟨q44, h45, h⟩ := Option.bind_eq_some_iff.mp h
      obtain ⟨x46, h47, h⟩ := Option.bind_eq_some_iff.mp h
      refine x_call1 (as := [.ref 0, .int x42, .int (3 : Int32)]) (rest := []) r294_91 rfl rfl rfl (by decide) (Nat.le_of_ble_eq_true rfl) (m18_okv h45 h47) (Nat.le_trans (by decide) hd) (Nat.zero_le _) (Nat.zero_le _) rfl ?_
      refine x_sto (lc' := [.ref 0, .int v1, .int v2, .int v3, .int v4, .int v5, .int x42, .int x46, am_dead, am_dead, am_dead]) r294_94 rfl rfl rfl rfl ?_
      refine x_ic (v := 0) r294_96 rfl rfl ?_
      refine x_sto (lc' := [.ref 0, .int v1, .int v2, .int v3, .int v4, .int v5, .int x42, .int x46, .int (0 : Int32), am_dead, am_dead]) r294_97 rfl rfl rfl rfl ?_
      refine x_ic (v := 0) r294_99 rfl rfl ?_
      refine x_sto (lc' := [.ref 0, .int v1, .int v2, .int v3, .int v4, .int v5, .int x42, .int x46, .int (0 : Int32), .int (0 : Int32), am_dead]) r294_100 rfl rfl rfl rfl ?_
      obtain ⟨q93, h94, h⟩ := Option.bind_eq_some_iff.mp h
      refine x_forget (lc0 := [.ref 0, .int v1, .int v2, .int v3, .int v4, .int v5, .int x42, .int x46, .int (0 : Int32), .int (0 : Int32), am_dead]) ⟨Or.inl rfl, Or.inl rfl, Or.inl rfl, Or.inl rfl, Or.inl rfl, Or.inl rfl, Or.inl rfl, Or.inl rfl, Or.inl rfl, Or.inl rfl, Or.inl rfl, trivial⟩ (m294_L102_w hd N D v4 (0 : Int32) (0 : Int32) h94 ?_)
      refine x_ld (v := .int q93.1) r294_214 rfl rfl rfl ?_
      obtain ⟨q95, h97, h⟩ := Option.bind_eq_some_iff.mp h
      have kj96 : am_X xs L 294 d mc ms 273 [.ref 0, .int v1, .int v2, .int v3, .int q93.1, .int v5, .int x42, .int x46, .int q93.2.1, am_dead, am_dead] [.int q95.1] (am_mk q95.2) 0 0 Q := by
        refine x_sto (lc' := [.ref 0, .int v1, .int v2, .int v3, .int q95.1, .int v5, .int x42, .int x46, .int q93.2.1, am_dead, am_dead]) r294_273 rfl rfl rfl rfl ?_
        obtain ⟨x116, e117, h⟩ := am_ltE h
        refine x_sto (lc' := [.ref 0, .int v1, .int v2, .int v3, .int q95.1, .int x116, .int x42, .int x46, .int q93.2.1, am_dead, am_dead]) r294_275 rfl rfl (by subst e117; rfl) rfl ?_
        refine x_goto r294_278 ?_
        exact x_forget (lc0 := [.ref 0, .int v1, .int v2, .int v3, .int q95.1, .int x116, am_dead, am_dead, am_dead, am_dead, am_dead]) ⟨Or.inl rfl, Or.inl rfl, Or.inl rfl, Or.inl rfl, Or.inl rfl, Or.inl rfl, Or.inr ⟨rfl, rfl⟩, Or.inr ⟨rfl, rfl⟩, Or.inr ⟨rfl, rfl⟩, Or.inl rfl, Or.inl rfl, trivial⟩ (ih q95.2 q95.1 x116 h k0)
      rcases am_ifE h97 with ⟨c98, h97⟩ | ⟨c98, h97⟩
      · refine x_ifeqT r294_216 c98 ?_
        refine x_ic (v := 0) r294_272 rfl rfl ?_
        cases h97
        exact kj96
      · refine x_ifeqF r294_216 c98 rfl ?_
        refine x_ld (v := .int q93.2.1) r294_219 rfl rfl rfl ?_
        refine x_ld (v := .int x46) r294_221 rfl rfl rfl ?_
        refine x_ic (v := 4) r294_223 rfl rfl ?_
        obtain ⟨q99, h101, h97⟩ := am_ltE h97
        replace h101 := h101.symm
        have kj100 : am_X xs L 294 d mc ms 238 [.ref 0, .int v1, .int v2, .int v3, .int q93.1, .int v5, .int x42, .int x46, .int q93.2.1, am_dead, am_dead] [.int q99, .int q93.2.1] (am_mk q93.2.2) 0 0 Q := by
          rcases am_ifE h97 with ⟨c104, h97⟩ | ⟨c104, h97⟩
          · refine x_icneT r294_238 c104 rfl ?_
            refine x_ld (v := .ref 0) r294_241 rfl rfl rfl ?_
            refine x_ic (v := 0) r294_242 rfl rfl ?_
            obtain ⟨q105, h106, h97⟩ := Option.bind_eq_some_iff.mp h97
            obtain ⟨x107, h108, h97⟩ := Option.bind_eq_some_iff.mp h97
            refine x_call1 (as := [.ref 0, .int (0 : Int32)]) (rest := []) r294_243 rfl rfl rfl (by decide) (Nat.le_of_ble_eq_true rfl) (m22_okv h106 h108) (Nat.le_trans (by decide) hd) (Nat.zero_le _) (Nat.zero_le _) rfl ?_
            refine x_ic (v := 1) r294_246 rfl rfl ?_
            rcases am_ifE h97 with ⟨c109, h97⟩ | ⟨c109, h97⟩
            · refine x_icneT r294_247 c109 rfl ?_
              refine x_ld (v := .int x46) r294_250 rfl rfl rfl ?_
              refine x_ic (v := 3) r294_252 rfl rfl ?_
              rcases am_ifE h97 with ⟨c110, h97⟩ | ⟨c110, h97⟩
              · refine x_icgtT r294_253 c110 ?_
                refine x_ic (v := 1) r294_268 rfl rfl ?_
                refine x_goto r294_269 ?_
                cases h97
                exact kj96
              · refine x_icgtF r294_253 c110 rfl ?_
                refine x_ld (v := .ref 0) r294_256 rfl rfl rfl ?_
                refine x_ld (v := .int v1) r294_257 rfl rfl rfl ?_
                refine x_ld (v := .int x46) r294_258 rfl rfl rfl ?_
                refine x_ld (v := .int x42) r294_260 rfl rfl rfl ?_
                obtain ⟨q111, h112, h97⟩ := Option.bind_eq_some_iff.mp h97
                obtain ⟨x113, h114, h97⟩ := Option.bind_eq_some_iff.mp h97
                refine x_call1 (as := [.ref 0, .int v1, .int x46, .int x42]) (rest := []) r294_262 rfl rfl rfl (by decide) (Nat.le_of_ble_eq_true rfl) (m25_okv h112 h114) (Nat.le_trans (by decide) hd) (Nat.zero_le _) (Nat.zero_le _) rfl ?_
                rcases am_ifE h97 with ⟨c115, h97⟩ | ⟨c115, h97⟩
                · refine x_ifleT r294_265 c115 ?_
                  refine x_ic (v := 0) r294_272 rfl rfl ?_
                  cases h97
                  exact kj96
                · refine x_ifleF r294_265 c115 rfl ?_
                  refine x_ic (v := 1) r294_268 rfl rfl ?_
                  refine x_goto r294_269 ?_
                  cases h97
                  exact kj96
            · refine x_icneF r294_247 c109 ?_
              refine x_ic (v := 1) r294_268 rfl rfl ?_
              refine x_goto r294_269 ?_
              cases h97
              exact kj96
          · refine x_icneF r294_238 c104 ?_
            refine x_ic (v := 0) r294_272 rfl rfl ?_
            cases h97
            exact kj96
        rcases am_ifE h101 with ⟨c102, h101⟩ | ⟨c102, h101⟩
        · refine x_icgeT r294_224 c102 ?_
          refine x_ic (v := 0) r294_237 rfl rfl ?_
          subst h101
          exact kj100
        · refine x_icgeF r294_224 c102 rfl ?_
          refine x_ld (v := .int x46) r294_227 rfl rfl rfl ?_
          refine x_ld (v := .int v1) r294_229 rfl rfl rfl ?_
          rcases am_ifE h101 with ⟨c103, h101⟩ | ⟨c103, h101⟩
          · refine x_iceqT r294_230 c103 ?_
            refine x_ic (v := 0) r294_237 rfl rfl ?_
            subst h101
            exact kj100
          · refine x_iceqF r294_230 c103 rfl ?_
            refine x_ld (v := .int v3) r294_233 rfl rfl rfl ?_
            refine x_goto r294_234 ?_
            subst h101
            exact kj100
theorem m294_w {d mc ms : Nat} {N : Nat} {D : am_D} {v1 : Int32} {v2 : Int32} {Q : am_O → am_AH → Prop} (hd : 16 ≤ d) {r : Int32 × am_D} (h : m294 N D v1 v2 = some r) (hQ : Q (.inl (some (.int r.1))) (am_mk r.2)) : am_X xs L 294 d mc ms 0 [.ref 0, .int v1, .int v2, am_dead, am_dead, am_dead, am_dead, am_dead, am_dead, am_dead, am_dead] [] (am_mk D) 0 0 Q := by
  unfold m294 at h
  refine x_ld (v := .ref 0) r294_0 rfl rfl rfl ?_
  refine x_ld (v := .int v1) r294_1 rfl rfl rfl ?_
  refine x_ic (v := 0) r294_2 rfl rfl ?_
  obtain ⟨q1, h2, h⟩ := Option.bind_eq_some_iff.mp h
  obtain ⟨x3, h4, h⟩ := Option.bind_eq_some_iff.mp h
  refine x_call1 (as := [.ref 0, .int v1, .int (0 : Int32)]) (rest := []) r294_3 rfl rfl rfl (by decide) (Nat.le_of_ble_eq_true rfl) (m24_okv h2 h4) (Nat.le_trans (by decide) hd) (Nat.zero_le _) (Nat.zero_le _) rfl ?_
  refine x_sto (lc' := [.ref 0, .int v1, .int v2, .int x3, am_dead, am_dead, am_dead, am_dead, am_dead, am_dead, am_dead]) r294_6 rfl rfl rfl rfl ?_
  refine x_ld (v := .int x3) r294_7 rfl rfl rfl ?_
  refine x_ld (v := .ref 0) r294_8 rfl rfl rfl ?_
  refine x_ld (v := .int v1) r294_9 rfl rfl rfl ?_
  refine x_ic (v := 1) r294_10 rfl rfl ?_
  obtain ⟨q5, h6, h⟩ := Option.bind_eq_some_iff.mp h
  obtain ⟨x7, h8, h⟩ := Option.bind_eq_some_iff.mp h
  refine x_call1 (as := [.ref 0, .int v1, .int (1 : Int32)]) (rest := [.int x3]) r294_11 rfl rfl rfl (by decide) (Nat.le_of_ble_eq_true rfl) (m24_okv h6 h8) (Nat.le_trans (by decide) hd) (Nat.zero_le _) (Nat.zero_le _) rfl ?_
  obtain ⟨q9, h11, h⟩ := Option.bind_eq_some_iff.mp h
  have kj10 : am_X xs L 294 d mc ms 65 [.ref 0, .int v1, .int v2, .int x3, am_dead, am_dead, am_dead, am_dead, am_dead, am_dead, am_dead] [.int q9.1] (am_mk q9.2) 0 0 Q := by
    refine x_sto (lc' := [.ref 0, .int v1, .int v2, .int x3, .int q9.1, am_dead, am_dead, am_dead, am_dead, am_dead, am_dead]) r294_65 rfl rfl rfl rfl ?_
    refine x_ic (v := 0) r294_67 rfl rfl ?_
    refine x_sto (lc' := [.ref 0, .int v1, .int v2, .int x3, .int q9.1, .int (0 : Int32), am_dead, am_dead, am_dead, am_dead, am_dead]) r294_68 rfl rfl rfl rfl ?_
    obtain ⟨q118, h119, h⟩ := Option.bind_eq_some_iff.mp h
    refine x_forget (lc0 := [.ref 0, .int v1, .int v2, .int x3, .int q9.1, .int (0 : Int32), am_dead, am_dead, am_dead, am_dead, am_dead]) ⟨Or.inl rfl, Or.inl rfl, Or.inl rfl, Or.inl rfl, Or.inl rfl, Or.inl rfl, Or.inl rfl, Or.inl rfl, Or.inl rfl, Or.inl rfl, Or.inl rfl, trivial⟩ (m294_L70_w hd N q9.2 q9.1 (0 : Int32) h119 ?_)
    refine x_ld (v := .int v1) r294_281 rfl rfl rfl ?_
    refine x_ic (v := 1) r294_282 rfl rfl ?_
    refine x_ar r294_283 rfl trivial rfl ?_
    refine x_ic (v := 4) r294_284 rfl rfl ?_
    refine x_ar r294_285 rfl (by decide) rfl ?_
    obtain ⟨x120, e121, h⟩ := am_ltE h
    refine am_topI e121 ?_
    refine x_sto (lc' := [.ref 0, .int v1, am_dead, am_dead, .int q118.1, .int x120, am_dead, am_dead, am_dead, am_dead, am_dead]) r294_286 rfl rfl rfl rfl ?_
    refine x_ld (v := .int q118.1) r294_288 rfl rfl rfl ?_
    rcases am_ifE h with ⟨c122, h⟩ | ⟨c122, h⟩
    · refine x_ifeqT r294_290 c122 ?_
      refine x_ic (v := 0) r294_324 rfl rfl ?_
      cases h
      exact x_ret (ret := some .boolean) (C := narrow .boolean (.int (0 : Int32)) = .int (0 : Int32)) (v := some (.int (0 : Int32))) r294_325 rt294 rfl rfl rfl rfl rfl rfl rfl rfl (by decide) hQ
    · refine x_ifeqF r294_290 c122 rfl ?_
      refine x_ld (v := .ref 0) r294_293 rfl rfl rfl ?_
      refine x_ld (v := .int v1) r294_294 rfl rfl rfl ?_
      refine x_ld (v := .int x120) r294_295 rfl rfl rfl ?_
      obtain ⟨q123, h124, h⟩ := Option.bind_eq_some_iff.mp h
      obtain ⟨x125, h126, h⟩ := Option.bind_eq_some_iff.mp h
      refine x_call1 (as := [.ref 0, .int v1, .int x120]) (rest := []) r294_297 rfl rfl rfl (by decide) (Nat.le_of_ble_eq_true rfl) (m26_okv h124 h126) (Nat.le_trans (by decide) hd) (Nat.zero_le _) (Nat.zero_le _) rfl ?_
      refine x_ld (v := .ref 0) r294_300 rfl rfl rfl ?_
      refine x_ld (v := .int x120) r294_301 rfl rfl rfl ?_
      refine x_ic (v := 0) r294_303 rfl rfl ?_
      obtain ⟨q127, h128, h⟩ := Option.bind_eq_some_iff.mp h
      obtain ⟨x129, h130, h⟩ := Option.bind_eq_some_iff.mp h
      refine x_call1 (as := [.ref 0, .int x120, .int (0 : Int32)]) (rest := [.int x125]) r294_304 rfl rfl rfl (by decide) (Nat.le_of_ble_eq_true rfl) (m21_okv h128 h130) (Nat.le_trans (by decide) hd) (Nat.zero_le _) (Nat.zero_le _) rfl ?_
      rcases am_ifE h with ⟨c131, h⟩ | ⟨c131, h⟩
      · refine x_icgtT r294_307 c131 ?_
        refine x_ic (v := 0) r294_324 rfl rfl ?_
        cases h
        exact x_ret (ret := some .boolean) (C := narrow .boolean (.int (0 : Int32)) = .int (0 : Int32)) (v := some (.int (0 : Int32))) r294_325 rt294 rfl rfl rfl rfl rfl rfl rfl rfl (by decide) hQ
      · refine x_icgtF r294_307 c131 rfl ?_
        refine x_ld (v := .ref 0) r294_310 rfl rfl rfl ?_
        refine x_ld (v := .int v1) r294_311 rfl rfl rfl ?_
        refine x_ld (v := .int x120) r294_312 rfl rfl rfl ?_
        obtain ⟨q132, h133, h⟩ := Option.bind_eq_some_iff.mp h
        obtain ⟨x134, h135, h⟩ := Option.bind_eq_some_iff.mp h
        refine x_call1 (as := [.ref 0, .int v1, .int x120]) (rest := []) r294_314 rfl rfl rfl (by decide) (Nat.le_of_ble_eq_true rfl) (m26_okv h133 h135) (Nat.le_trans (by decide) hd) (Nat.zero_le _) (Nat.zero_le _) rfl ?_
        rcases am_ifE h with ⟨c136, h⟩ | ⟨c136, h⟩
        · refine x_ifltT r294_317 c136 ?_
          refine x_ic (v := 0) r294_324 rfl rfl ?_
          cases h
          exact x_ret (ret := some .boolean) (C := narrow .boolean (.int (0 : Int32)) = .int (0 : Int32)) (v := some (.int (0 : Int32))) r294_325 rt294 rfl rfl rfl rfl rfl rfl rfl rfl (by decide) hQ
        · refine x_ifltF r294_317 c136 rfl ?_
          refine x_ic (v := 1) r294_320 rfl rfl ?_
          refine x_goto r294_321 ?_
          cases h
          exact x_ret (ret := some .boolean) (C := narrow .boolean (.int (1 : Int32)) = .int (1 : Int32)) (v := some (.int (1 : Int32))) r294_325 rt294 rfl rfl rfl rfl rfl rfl rfl rfl (by decide) hQ
  rcases am_ifE h11 with ⟨c12, h11⟩ | ⟨c12, h11⟩
  · refine x_icneT r294_14 c12 rfl ?_
    refine x_ld (v := .int x3) r294_17 rfl rfl rfl ?_
    rcases am_ifE h11 with ⟨c13, h11⟩ | ⟨c13, h11⟩
    · refine x_ifltT r294_18 c13 ?_
      refine x_ic (v := 0) r294_64 rfl rfl ?_
      cases h11
      exact kj10
    · refine x_ifltF r294_18 c13 rfl ?_
      refine x_ld (v := .int x3) r294_21 rfl rfl rfl ?_
      refine x_sp r294_22 rfl rfl rfl rfl rfl rfl trivial rfl ?_
      rcases am_ifE h11 with ⟨c14, h11⟩ | ⟨c14, h11⟩
      · refine x_icgtT r294_24 c14 ?_
        refine x_ic (v := 0) r294_64 rfl rfl ?_
        cases h11
        exact kj10
      · refine x_icgtF r294_24 c14 rfl ?_
        refine x_ld (v := .ref 0) r294_27 rfl rfl rfl ?_
        refine x_ic (v := 0) r294_28 rfl rfl ?_
        obtain ⟨q15, h16, h11⟩ := Option.bind_eq_some_iff.mp h11
        obtain ⟨x17, h18, h11⟩ := Option.bind_eq_some_iff.mp h11
        refine x_call1 (as := [.ref 0, .int (0 : Int32)]) (rest := []) r294_29 rfl rfl rfl (by decide) (Nat.le_of_ble_eq_true rfl) (m22_okv h16 h18) (Nat.le_trans (by decide) hd) (Nat.zero_le _) (Nat.zero_le _) rfl ?_
        refine x_ic (v := 1) r294_32 rfl rfl ?_
        rcases am_ifE h11 with ⟨c19, h11⟩ | ⟨c19, h11⟩
        · refine x_icneT r294_33 c19 rfl ?_
          refine x_ld (v := .int x3) r294_36 rfl rfl rfl ?_
          refine x_ic (v := 1) r294_37 rfl rfl ?_
          rcases am_ifE h11 with ⟨c20, h11⟩ | ⟨c20, h11⟩
          · refine x_icltT r294_38 c20 ?_
            refine x_ic (v := 0) r294_64 rfl rfl ?_
            cases h11
            exact kj10
          · refine x_icltF r294_38 c20 rfl ?_
            refine x_ld (v := .int x3) r294_41 rfl rfl rfl ?_
            rcases am_ifE h11 with ⟨c21, h11⟩ | ⟨c21, h11⟩
            · refine x_ifeqT r294_42 c21 ?_
              refine x_ic (v := 1) r294_60 rfl rfl ?_
              refine x_goto r294_61 ?_
              cases h11
              exact kj10
            · refine x_ifeqF r294_42 c21 rfl ?_
              refine x_ld (v := .ref 0) r294_45 rfl rfl rfl ?_
              refine x_ld (v := .int v1) r294_46 rfl rfl rfl ?_
              refine x_ld (v := .int v1) r294_47 rfl rfl rfl ?_
              obtain ⟨q22, h23, h11⟩ := Option.bind_eq_some_iff.mp h11
              obtain ⟨x24, h25, h11⟩ := Option.bind_eq_some_iff.mp h11
              refine x_call1 (as := [.ref 0, .int v1, .int v1]) (rest := []) r294_48 rfl rfl rfl (by decide) (Nat.le_of_ble_eq_true rfl) (m26_okv h23 h25) (Nat.le_trans (by decide) hd) (Nat.zero_le _) (Nat.zero_le _) rfl ?_
              refine x_ld (v := .ref 0) r294_51 rfl rfl rfl ?_
              refine x_ld (v := .int v1) r294_52 rfl rfl rfl ?_
              refine x_ic (v := 0) r294_53 rfl rfl ?_
              obtain ⟨q26, h27, h11⟩ := Option.bind_eq_some_iff.mp h11
              obtain ⟨x28, h29, h11⟩ := Option.bind_eq_some_iff.mp h11
              refine x_call1 (as := [.ref 0, .int v1, .int (0 : Int32)]) (rest := [.int x24]) r294_54 rfl rfl rfl (by decide) (Nat.le_of_ble_eq_true rfl) (m21_okv h27 h29) (Nat.le_trans (by decide) hd) (Nat.zero_le _) (Nat.zero_le _) rfl ?_
              rcases am_ifE h11 with ⟨c30, h11⟩ | ⟨c30, h11⟩
              · refine x_icneT r294_57 c30 rfl ?_
                refine x_ic (v := 1) r294_60 rfl rfl ?_
                refine x_goto r294_61 ?_
                cases h11
                exact kj10
              · refine x_icneF r294_57 c30 ?_
                refine x_ic (v := 0) r294_64 rfl rfl ?_
                cases h11
                exact kj10
        · refine x_icneF r294_33 c19 ?_
          refine x_ld (v := .int x3) r294_41 rfl rfl rfl ?_
          rcases am_ifE h11 with ⟨c31, h11⟩ | ⟨c31, h11⟩
          · refine x_ifeqT r294_42 c31 ?_
            refine x_ic (v := 1) r294_60 rfl rfl ?_
            refine x_goto r294_61 ?_
            cases h11
            exact kj10
          · refine x_ifeqF r294_42 c31 rfl ?_
            refine x_ld (v := .ref 0) r294_45 rfl rfl rfl ?_
            refine x_ld (v := .int v1) r294_46 rfl rfl rfl ?_
            refine x_ld (v := .int v1) r294_47 rfl rfl rfl ?_
            obtain ⟨q32, h33, h11⟩ := Option.bind_eq_some_iff.mp h11
            obtain ⟨x34, h35, h11⟩ := Option.bind_eq_some_iff.mp h11
            refine x_call1 (as := [.ref 0, .int v1, .int v1]) (rest := []) r294_48 rfl rfl rfl (by decide) (Nat.le_of_ble_eq_true rfl) (m26_okv h33 h35) (Nat.le_trans (by decide) hd) (Nat.zero_le _) (Nat.zero_le _) rfl ?_
            refine x_ld (v := .ref 0) r294_51 rfl rfl rfl ?_
            refine x_ld (v := .int v1) r294_52 rfl rfl rfl ?_
            refine x_ic (v := 0) r294_53 rfl rfl ?_
            obtain ⟨q36, h37, h11⟩ := Option.bind_eq_some_iff.mp h11
            obtain ⟨x38, h39, h11⟩ := Option.bind_eq_some_iff.mp h11
            refine x_call1 (as := [.ref 0, .int v1, .int (0 : Int32)]) (rest := [.int x34]) r294_54 rfl rfl rfl (by decide) (Nat.le_of_ble_eq_true rfl) (m21_okv h37 h39) (Nat.le_trans (by decide) hd) (Nat.zero_le _) (Nat.zero_le _) rfl ?_
            rcases am_ifE h11 with ⟨c40, h11⟩ | ⟨c40, h11⟩
            · refine x_icneT r294_57 c40 rfl ?_
              refine x_ic (v := 1) r294_60 rfl rfl ?_
              refine x_goto r294_61 ?_
              cases h11
              exact kj10
            · refine x_icneF r294_57 c40 ?_
              refine x_ic (v := 0) r294_64 rfl rfl ?_
              cases h11
              exact kj10
  · refine x_icneF r294_14 c12 ?_
    refine x_ic (v := 0) r294_64 rfl rfl ?_
    cases h11
    exact kj10
theorem m294_ok {N : Nat} {D : am_D} {v1 : Int32} {v2 : Int32} {r : Int32 × am_D} (h : m294 N D v1 v2 = some r) : am_Y xs L 294 16 0 0 [.ref 0, .int v1, .int v2] D (.inl (some (.int r.1))) r.2 := am_Yof (mi := am_m294) (lc := [.ref 0, .int v1, .int v2, am_dead, am_dead, am_dead, am_dead, am_dead, am_dead, am_dead, am_dead]) pg294 (Nat.le_of_ble_eq_true rfl) (am_rc0 rfl) rfl (fun Q hQ => m294_w (Nat.le_refl _) h hQ)
theorem r29_0 : am_at 29 0 = some (.iload_n 1, 1, [1]) := by decide +kernel
theorem r29_1 : am_at 29 1 = some (.ifCond .lt (8), 3, [9]) := by decide +kernel
theorem r29_4 : am_at 29 4 = some (.iload_n 1, 1, [1]) := by decide +kernel
theorem r29_5 : am_at 29 5 = some (.iconst (2), 1, []) := by decide +kernel
theorem r29_6 : am_at 29 6 = some (.if_icmp .le (14), 3, [20]) := by decide +kernel
theorem r29_9 : am_at 29 9 = some (.new 93, 3, [9, 2, 1, 397, 97, 427, 36, 24, 437]) := by decide +kernel
theorem r29_20 : am_at 29 20 = some (.aload_n 0, 1, [0]) := by decide +kernel
theorem r29_21 : am_at 29 21 = some (.getfield 10, 3, [7, 0, 3, 257]) := by decide +kernel
theorem r29_24 : am_at 29 24 = some (.getfield 98, 3, [4, 6, 0, 101]) := by decide +kernel
theorem r29_27 : am_at 29 27 = some (.iconst (1), 1, []) := by decide +kernel
theorem r29_28 : am_at 29 28 = some (.if_icmp .ne (15), 3, [43]) := by decide +kernel
theorem r29_31 : am_at 29 31 = some (.aload_n 0, 1, [0]) := by decide +kernel
theorem r29_32 : am_at 29 32 = some (.getfield 10, 3, [7, 0, 3, 257]) := by decide +kernel
theorem r29_35 : am_at 29 35 = some (.invokevirtual 399, 3, [210, 1, 799, 0]) := by decide +kernel
theorem r29_38 : am_at 29 38 = some (.bipush (9), 2, []) := by decide +kernel
theorem r29_40 : am_at 29 40 = some (.if_icmp .le (5), 3, [45]) := by decide +kernel
theorem r29_43 : am_at 29 43 = some (.iconst (-1), 1, []) := by decide +kernel
theorem r29_44 : am_at 29 44 = some (.ireturn, 1, []) := by decide +kernel
theorem r29_45 : am_at 29 45 = some (.aload_n 0, 1, [0]) := by decide +kernel
theorem r29_46 : am_at 29 46 = some (.getfield 43, 3, [7, 5, 3, 262]) := by decide +kernel
theorem r29_49 : am_at 29 49 = some (.aload_n 0, 1, [0]) := by decide +kernel
theorem r29_50 : am_at 29 50 = some (.getfield 10, 3, [7, 0, 3, 257]) := by decide +kernel
theorem r29_53 : am_at 29 53 = some (.invokevirtual 402, 3, [172, 2, 800, 0]) := by decide +kernel
theorem r29_56 : am_at 29 56 = some (.iload_n 1, 1, [1]) := by decide +kernel
theorem r29_57 : am_at 29 57 = some (.lookupswitch (43) #[(0, 27), (1, 35)], 27, [100, 0, 84, 1, 92]) := by decide +kernel
theorem r29_84 : am_at 29 84 = some (.aload_n 0, 1, [0]) := by decide +kernel
theorem r29_85 : am_at 29 85 = some (.getfield 43, 3, [7, 5, 3, 262]) := by decide +kernel
theorem r29_88 : am_at 29 88 = some (.getfield 404, 3, [2, 5, 0, 225]) := by decide +kernel
theorem r29_91 : am_at 29 91 = some (.ireturn, 1, []) := by decide +kernel
theorem r29_92 : am_at 29 92 = some (.aload_n 0, 1, [0]) := by decide +kernel
theorem r29_93 : am_at 29 93 = some (.getfield 43, 3, [7, 5, 3, 262]) := by decide +kernel
theorem r29_96 : am_at 29 96 = some (.getfield 407, 3, [2, 6, 0, 227]) := by decide +kernel
theorem r29_99 : am_at 29 99 = some (.ireturn, 1, []) := by decide +kernel
theorem r29_100 : am_at 29 100 = some (.aload_n 0, 1, [0]) := by decide +kernel
theorem r29_101 : am_at 29 101 = some (.getfield 43, 3, [7, 5, 3, 262]) := by decide +kernel
theorem r29_104 : am_at 29 104 = some (.getfield 410, 3, [2, 7, 0, 229]) := by decide +kernel
theorem r29_107 : am_at 29 107 = some (.ireturn, 1, []) := by decide +kernel
theorem rt29 : am_rtt 29 = some (some .int) := by decide +kernel
set_option maxRecDepth 100000 in
theorem pg29 : am_pg[29]? = some am_m29 := rfl
theorem m29_w {d mc ms : Nat} {N : Nat} {D : am_D} {v1 : Int32} {Q : am_O → am_AH → Prop} (hd : 55 ≤ d) {r : (Int32 ⊕ Nat) × am_D} (h : m29 N D v1 = some r) (hE : ∀ E, r.1 = .inr E → 0 + 1 ≤ mc ∧ 0 + 6 ≤ ms) (hQ : Q (am_oI r.1) (am_mk r.2)) : am_X xs L 29 d mc ms 0 [.ref 0, .int v1] [] (am_mk D) 0 0 Q := by
  unfold m29 at h
  refine x_ld (v := .int v1) r29_0 rfl rfl rfl ?_
  rcases am_ifE h with ⟨c1, h⟩ | ⟨c1, h⟩
  · refine x_ifltT r29_1 c1 ?_
    cases h
    exact x_thr r29_9 (hE _ rfl).1 (hE _ rfl).2 (Nat.le_of_ble_eq_true rfl) hQ
  · refine x_ifltF r29_1 c1 rfl ?_
    refine x_ld (v := .int v1) r29_4 rfl rfl rfl ?_
    refine x_ic (v := 2) r29_5 rfl rfl ?_
    rcases am_ifE h with ⟨c2, h⟩ | ⟨c2, h⟩
    · refine x_icleT r29_6 c2 ?_
      refine x_ld (v := .ref 0) r29_20 rfl rfl rfl ?_
      refine y_gf (cd := 3) (v := .ref 1) r29_21 rfl rfl rfl ?_
      refine y_gf (cd := 0) (v := .int (D.1 1 6)) r29_24 rfl rfl rfl ?_
      refine x_ic (v := 1) r29_27 rfl rfl ?_
      rcases am_ifE h with ⟨c3, h⟩ | ⟨c3, h⟩
      · refine x_icneT r29_28 c3 rfl ?_
        refine x_ld (v := .ref 0) r29_31 rfl rfl rfl ?_
        refine y_gf (cd := 3) (v := .ref 1) r29_32 rfl rfl rfl ?_
        obtain ⟨q4, h5, h⟩ := Option.bind_eq_some_iff.mp h
        refine x_call1 (as := [.ref 1]) (rest := []) r29_35 rfl rfl rfl (by decide) (Nat.le_of_ble_eq_true rfl) (m210_ok h5) (Nat.le_trans (by decide) hd) (Nat.zero_le _) (Nat.zero_le _) rfl ?_
        refine x_bi (v := 9) r29_38 rfl rfl ?_
        rcases am_ifE h with ⟨c6, h⟩ | ⟨c6, h⟩
        · refine x_icleT r29_40 c6 ?_
          refine x_ld (v := .ref 0) r29_45 rfl rfl rfl ?_
          refine y_gf (cd := 101) (v := .ref 99) r29_46 rfl rfl rfl ?_
          refine x_ld (v := .ref 0) r29_49 rfl rfl rfl ?_
          refine y_gf (cd := 3) (v := .ref 1) r29_50 rfl rfl rfl ?_
          obtain ⟨q7, h8, h⟩ := Option.bind_eq_some_iff.mp h
          refine x_call0 (as := [.ref 99, .ref 1]) (rest := []) r29_53 rfl rfl rfl (by decide) (Nat.le_of_ble_eq_true rfl) (m172_ok h8) (Nat.le_trans (by decide) hd) (Nat.zero_le _) (Nat.zero_le _) rfl ?_
          refine x_ld (v := .int v1) r29_56 rfl rfl rfl ?_
          rcases am_ifE h with ⟨c9, h⟩ | ⟨c9, h⟩
          · refine x_lsw (p' := 84) r29_57 (am_swT c9) ?_
            refine x_ld (v := .ref 0) r29_84 rfl rfl rfl ?_
            refine y_gf (cd := 101) (v := .ref 99) r29_85 rfl rfl rfl ?_
            refine y_gf (cd := 0) (v := .int (q7.1 99 5)) r29_88 rfl rfl rfl ?_
            cases h
            exact x_ret (ret := some .int) (C := True) (v := some (.int _)) r29_91 rt29 rfl rfl rfl rfl rfl rfl rfl rfl trivial hQ
          · rcases am_ifE h with ⟨c10, h⟩ | ⟨c10, h⟩
            · refine x_lsw (p' := 92) r29_57 (am_swF c9 (am_swT c10)) ?_
              refine x_ld (v := .ref 0) r29_92 rfl rfl rfl ?_
              refine y_gf (cd := 101) (v := .ref 99) r29_93 rfl rfl rfl ?_
              refine y_gf (cd := 0) (v := .int (q7.1 99 6)) r29_96 rfl rfl rfl ?_
              cases h
              exact x_ret (ret := some .int) (C := True) (v := some (.int _)) r29_99 rt29 rfl rfl rfl rfl rfl rfl rfl rfl trivial hQ
            · refine x_lsw (p' := 100) r29_57 (am_swF c9 (am_swF c10 (rfl))) ?_
              refine x_ld (v := .ref 0) r29_100 rfl rfl rfl ?_
              refine y_gf (cd := 101) (v := .ref 99) r29_101 rfl rfl rfl ?_
              refine y_gf (cd := 0) (v := .int (q7.1 99 7)) r29_104 rfl rfl rfl ?_
              cases h
              exact x_ret (ret := some .int) (C := True) (v := some (.int _)) r29_107 rt29 rfl rfl rfl rfl rfl rfl rfl rfl trivial hQ
        · refine x_icleF r29_40 c6 rfl ?_
          refine x_ic (v := -1) r29_43 rfl rfl ?_
          cases h
          exact x_ret (ret := some .int) (C := True) (v := some (.int _)) r29_44 rt29 rfl rfl rfl rfl rfl rfl rfl rfl trivial hQ
      · refine x_icneF r29_28 c3 ?_
        refine x_ic (v := -1) r29_43 rfl rfl ?_
        cases h
        exact x_ret (ret := some .int) (C := True) (v := some (.int _)) r29_44 rt29 rfl rfl rfl rfl rfl rfl rfl rfl trivial hQ
    · refine x_icleF r29_6 c2 rfl ?_
      cases h
      exact x_thr r29_9 (hE _ rfl).1 (hE _ rfl).2 (Nat.le_of_ble_eq_true rfl) hQ
theorem m29_okv {N : Nat} {D : am_D} {v1 : Int32} {r : (Int32 ⊕ Nat) × am_D} {v : Int32} (h : m29 N D v1 = some r) (hv : am_inl r.1 = some v) : am_Y xs L 29 55 0 0 [.ref 0, .int v1] D (.inl (some (.int v))) r.2 := am_Yof (mi := am_m29) (lc := [.ref 0, .int v1]) pg29 (Nat.le_of_ble_eq_true rfl) (am_rc1 (ci := 7) rfl rfl rfl rfl rfl) rfl (fun Q hQ => m29_w (Nat.le_refl _) h (fun E e => by rw [e] at hv; cases hv) (by rw [am_inlE hv]; exact hQ))
theorem m29_exv {N : Nat} {D : am_D} {v1 : Int32} {r : (Int32 ⊕ Nat) × am_D} {E : Nat} (h : m29 N D v1 = some r) (hv : r.1 = .inr E) : am_Y xs L 29 55 1 6 [.ref 0, .int v1] D (.inr E) r.2 := am_Yof (mi := am_m29) (lc := [.ref 0, .int v1]) pg29 (Nat.le_of_ble_eq_true rfl) (am_rc1 (ci := 7) rfl rfl rfl rfl rfl) rfl (fun Q hQ => m29_w (Nat.le_refl _) h (fun E e => ⟨Nat.le_refl _, Nat.le_refl _⟩) (by rw [hv]; exact hQ))
end XE
