/-! open hands: a node of the model's loop -/
section QD
variable {D0 D E : am_D} {N u : Nat}
noncomputable def q_pk2 (y : Int32) (o : Nat) : Option (Int32 × Nat) → Option (Int32 × Nat)
  | none => some (y, o)
  | some b => if y ≤ b.1 then some b else some (y, o)
theorem q_pk_2 (rec : (Nat → Int32) → Nat → Nat → Nat → Nat → Int32) (own : Nat → Int32) (le re h o : Nat) (acc : Option (Int32 × Nat)) : q_pk2 (q_ov rec own le re h o) o acc = q_pk rec own le re h o acc := by
  cases acc <;> rfl
/-- what was found, with one lay more -/
theorem q140_a {own : Nat → Int32} {d t h o1 gn : Nat} {acc : Option (Int32 × Nat)} {F : am_D} {x y : Int32} (hd : d < 63) (ht : t < 28) (hot : own t = Int32.ofNat h) (h118 : F.1 118 d = Int32.ofNat t) (h119 : F.1 119 d = Int32.ofNat gn) (h116 : F.1 116 d = Int32.ofNat (o1 + 1)) (h115 : ∀ s, s < 28 → F.1 115 s = upd own t (Int32.ofNat 4) s) (ha : q_ac d acc F) (hy : y = Int32.ofNat gn + x) : ∃ E2, m140 F (Int32.ofNat d) (Int32.ofNat h) x = some E2 ∧ (∀ s, s < 28 → E2.1 115 s = own s) ∧ q_ac d (q_pk2 y o1 acc) E2 ∧ (∀ j, j ≠ d → E2.1 122 j = F.1 122 j) ∧ (∀ j, j ≠ d → E2.1 117 j = F.1 117 j) ∧ (0 < d → E2.1 106 24 = F.1 106 24) ∧ (∀ j, j ≠ 24 → E2.1 106 j = F.1 106 j) ∧ (∀ a, a ≠ 106 → a ≠ 115 → a ≠ 117 → a ≠ 122 → E2.1 a = F.1 a) ∧ E2.2 = F.2 := by
  obtain ⟨E2, e1, e2, e3, e4, e5, e6, e7, e8, e9⟩ := q140 (D := F) (h := h) hd ht h118 x
  have hsub : d = 0 → F.1 116 0 - 1 = Int32.ofNat o1 := fun c => by
    rw [c] at h116
    rw [h116]
    exact q_sub (a := o1 + 1) (b := 1) (by omega)
  refine ⟨E2, e1, fun s hs => ?_, ?_, e4, e5, fun h0 => ?_, e7, e8, e9⟩
  · rw [e2 s]
    by_cases c : s = t
    · rw [if_pos c, c]; exact hot.symm
    · rw [if_neg c, h115 s hs]
      exact if_neg c
  · rw [h119, ← hy] at e6
    obtain ⟨a1, a2⟩ := ha
    cases acc with
    | none =>
      rw [if_pos (Or.inl a1)] at e6
      refine ⟨⟨e3, e6.1⟩, fun c => ?_⟩
      rw [e6.2, if_pos c, hsub c]
      rfl
    | some b =>
      obtain ⟨a3, a4⟩ := a1
      rw [a4] at e6
      by_cases c : y ≤ b.1
      · rw [if_neg (fun q => q.elim (fun z => by rw [a3] at z; exact absurd z (by decide)) (fun z => z c))] at e6
        show q_ac d (if y ≤ b.1 then some b else some (y, o1)) E2
        rw [if_pos c]
        exact ⟨⟨e3, e6.1⟩, fun z => e6.2.trans (a2 z)⟩
      · rw [if_pos (Or.inr c)] at e6
        show q_ac d (if y ≤ b.1 then some b else some (y, o1)) E2
        rw [if_neg c]
        refine ⟨⟨e3, e6.1⟩, fun z => ?_⟩
        rw [e6.2, if_pos z, hsub z]
        rfl
  · rw [h119] at e6
    by_cases c : F.1 122 d = 0 ∨ ¬ Int32.ofNat gn + x ≤ F.1 117 d
    · rw [if_pos c] at e6
      rw [e6.2, if_neg (by omega)]
    · rw [if_neg c] at e6
      exact e6.2
theorem q_hand (hu : D0.1 107 1 = Int32.ofNat u) (hu4 : u < 4) {F : am_D} (hF : F.1 107 = D0.1 107) {d : Nat} (hd : d < 64) : ((F.1 107 1) + Int32.ofNat d) - ((F.1 107 1) + Int32.ofNat d) / (4 : Int32) * (4 : Int32) = Int32.ofNat ((u + d) % 4) := by
  rw [hF, hu, q_add, show (4 : Int32) = Int32.ofNat 4 from rfl, q_mod (by omega) (by omega)]
/-- one lay is tried and comes back -/
theorem q_lay1 (hN : 2000 ≤ N) (hB : q_B D0) (hu : D0.1 107 1 = Int32.ofNat u) (hu4 : u < 4) {k d o le re r : Nat} {own : Nat → Int32} {acc : Option (Int32 × Nat)} (hNP : q_NP N D0 u k) (hdk : d + (k + 1) ≤ 60) (hown : ∀ t, t < 28 → ∃ w, w < 5 ∧ own t = Int32.ofNat w) (le16 : le < 16) (re16 : re < 16) (le7 : le % 8 < 7) (re7 : re % 8 < 7) (hr : r ≤ 3) (hk : 4 * q_all (q_cnt own) + 3 - r < k + 1) (hnd : q_nd1 D0 own le re r d E) (ho : o ≤ 56) (h116 : E.1 116 d = Int32.ofNat o) (hac : q_ac d acc E) (hy : ∃ o', o ≤ o' ∧ o' < 56 ∧ q_lg own le re ((u + d) % 4) o') :
    ∃ o1 c E2, o ≤ o1 ∧ o1 < 56 ∧ q_lg own le re ((u + d) % 4) o1 ∧ (∀ o', o ≤ o' → o' < o1 → ¬ q_lg own le re ((u + d) % 4) o') ∧ c ≤ q_Cc k + 1 ∧ (∀ n, m141_L75 N (n + c) E (Int32.ofNat d) = m141_L75 N n E2 (Int32.ofNat d)) ∧ q_f2 d E E2 ∧ E2.1 116 d = Int32.ofNat (o1 + 1) ∧ q_ac d (q_pk (q_op k) own le re ((u + d) % 4) o1 acc) E2 := by
  obtain ⟨n1, n2, n3, n4, n5, n6, n7⟩ := hnd
  have hBE : ∀ F : am_D, F.1 109 = E.1 109 → F.1 110 = E.1 110 → q_B F := fun F h1 h2 t ht => by rw [h1, h2, n6, n7]; exact hB t ht
  obtain ⟨o1, E1, g1, g2, g3, g4, g5, g6, g7, g8, g9, g10, g11, g12, g13, g14⟩ := q138_1 hN (hBE E rfl rfl) (h := (u + d) % 4) (show d < 63 by omega) ho n1 n2 n3 le16 re16 le7 re7 h116 hy
  have ht28 : o1 / 2 < 28 := by omega
  have hh4 : (u + d) % 4 < 4 := by omega
  obtain ⟨hup, hcn⟩ := q_up4 hown ht28 hh4 g3.1
  have hB1 : q_B E1 := hBE E1 (g13 109 (by omega)) (g13 110 (by omega))
  have h107 : E1.1 107 = D0.1 107 := by rw [g13 107 (by omega)]; exact n5
  have hl1 : q_l1' le o1 < 16 ∧ q_l1' le o1 % 8 < 7 ∧ q_r1' re o1 < 16 ∧ q_r1' re o1 % 8 < 7 := by
    unfold q_l1' q_r1'
    have hs := g3.2
    by_cases c : o1 % 2 = 0
    · rw [if_pos c] at hs
      obtain ⟨b1, b2, -⟩ := q_eb_ok _ ht28 le le16 le7 hs
      rw [if_pos c, if_neg (show ¬ o1 % 2 = 1 by omega)]
      omega
    · rw [if_neg c] at hs
      obtain ⟨b1, b2, -⟩ := q_eb_ok _ ht28 re re16 re7 hs
      rw [if_neg c, if_pos (show o1 % 2 = 1 by omega)]
      omega
  have hc115 : q_cnt (E1.1 115) (Int32.ofNat ((u + d) % 4)) = q_cnt (upd own (o1 / 2) (Int32.ofNat 4)) (Int32.ofNat ((u + d) % 4)) := q_cnt_congr g6
  have hp115 : ∀ v, q_pips (E1.1 115) v = q_pips (upd own (o1 / 2) (Int32.ofNat 4)) v := fun v => q_pips_congr g6
  have hac1 : ∀ F : am_D, F.1 122 d = E.1 122 d → F.1 117 d = E.1 117 d → F.1 106 24 = E.1 106 24 → q_ac d acc F := fun F f1 f2 f3 => by
    obtain ⟨a1, a2⟩ := hac
    refine ⟨?_, fun c => f3.trans (a2 c)⟩
    cases acc with
    | none => exact f1.trans a1
    | some b => exact ⟨f1.trans a1.1, f2.trans a1.2⟩
  have hstep : ∀ n, m141_L75 N (n + 1) E (Int32.ofNat d) = ((m137 N E1 (Int32.ofNat ((u + d) % 4))).bind fun q72 => (if q72 = 0 then (am_lt (Int32.ofNat d + (1 : Int32)) fun x75 => ((m139 E1 x75).bind fun q77 => (some (x75, (0 : Int32), (0 : Int32), q77)))) else ((m136 N E1 (0 : Int32)).bind fun q79 => ((m136 N E1 (1 : Int32)).bind fun q81 => ((m136 N E1 (2 : Int32)).bind fun q83 => ((m136 N E1 (3 : Int32)).bind fun q85 => (am_lt (((q79 + q81) + q83) + q85) fun x87 => ((m140 E1 (Int32.ofNat d) (Int32.ofNat ((u + d) % 4)) (x87 / (5 : Int32))).bind fun q89 => (some (Int32.ofNat d, (0 : Int32), (0 : Int32), q89)))))))))).bind fun q28 => ((m141_L311 N N q28.2.2.2 q28.1 q28.2.1 q28.2.2.1).bind fun q105 => (if q105.1 = 0 then (m141_L75 N n q105.2.2.2 q105.2.1) else (some (q105.2.2.1, q105.2.2.2)))) := fun n => by
    rw [m141_L75]
    simp only [am_lt]
    rw [q_hand hu hu4 n5 (show d < 64 by omega), g5, Option.bind_some]
    dsimp only
    rw [if_neg (show ¬ (1 : Int32) = 0 by decide)]
  obtain ⟨N', hN'⟩ : ∃ N', N = N' + 1 := ⟨N - 1, by omega⟩
  by_cases hemp : q_cnt (upd own (o1 / 2) (Int32.ofNat 4)) (Int32.ofNat ((u + d) % 4)) = 0
  · -- the hand is empty
    have hall := q_all_le (upd own (o1 / 2) (Int32.ofNat 4))
    have hov : q_ov (q_op k) own le re ((u + d) % 4) o1 = Int32.ofNat (q_gn le re o1) + Int32.ofNat (q_all (q_pips (upd own (o1 / 2) (Int32.ofNat 4))) / 5) := by
      unfold q_ov
      rw [if_pos hemp]
    obtain ⟨E2, e1, e2, e3, e4, e5, e6, e7, e8, e9⟩ := q140_a (own := own) (acc := acc) (F := E1) (h := (u + d) % 4) (t := o1 / 2) (o1 := o1) (gn := q_gn le re o1) (show d < 63 by omega) ht28 g3.1 (by rw [g8, if_pos rfl]) (by rw [g9, if_pos rfl]) (by rw [g7, if_pos rfl]) g6 (hac1 E1 (by rw [g13 122 (by omega)]) (by rw [g13 117 (by omega)]) (by rw [g13 106 (by omega)])) hov
    have esum : Int32.ofNat (q_pips (E1.1 115) 0) + Int32.ofNat (q_pips (E1.1 115) 1) + Int32.ofNat (q_pips (E1.1 115) 2) + Int32.ofNat (q_pips (E1.1 115) 3) = Int32.ofNat (q_all (q_pips (upd own (o1 / 2) (Int32.ofNat 4)))) := by
      rw [hp115, hp115, hp115, hp115, q_add, q_add, q_add]
      congr 1
      rw [q_all_eq]
      show q_pips _ (Int32.ofNat 0) + q_pips _ (Int32.ofNat 1) + q_pips _ (Int32.ofNat 2) + q_pips _ (Int32.ofNat 3) = _
      omega
    refine ⟨o1, 1, E2, g1, g2, g3, g4, by omega, fun n => ?_, ⟨fun a h1 h2 => ?_, fun a h1 => ?_, fun j hj => ?_, fun h0 => ?_, fun a i h1 h2 h3 => ?_, ⟨?_, ?_, ?_⟩, fun t ht => ?_, ?_⟩, ?_, (q_pk_2 _ _ _ _ _ _ _) ▸ e3⟩
    · rw [hstep, q137 hN, hc115, if_pos hemp, Option.bind_some, if_neg (show ¬ Int32.ofNat 1 = 0 by decide), q136 hN hB1, Option.bind_some, q136 hN hB1, Option.bind_some, q136 hN hB1, Option.bind_some, q136 hN hB1, Option.bind_some, esum]
      simp only [am_lt]
      rw [show (5 : Int32) = Int32.ofNat 5 from rfl, q_div (by omega) (by omega), e1, Option.bind_some, Option.bind_some]
      dsimp only
      rw [hN', q311_0, Option.bind_some]
      dsimp only
      rw [if_pos rfl]
    · rw [e8 a h2 (by omega) (by omega) (by omega), g13 a (by omega)]
    · rw [e8 a (by omega) (by omega) (by omega) (by omega), g13 a (by omega)]
    · rw [e7 j hj, g13 106 (by omega)]
    · rw [e6 h0, g13 106 (by omega)]
    · by_cases c1 : a = 117
      · rw [c1, e5 i (by omega), g13 117 (by omega)]
      · by_cases c2 : a = 122
        · rw [c2, e4 i (by omega), g13 122 (by omega)]
        · rw [e8 a (by omega) (by omega) c1 c2]
          have : a = 116 ∨ a = 118 ∨ a = 119 ∨ a = 120 ∨ a = 121 ∨ a = 123 := by omega
          rcases this with rfl | rfl | rfl | rfl | rfl | rfl
          · rw [g7, if_neg (by omega)]
          · rw [g8, if_neg (by omega)]
          · rw [g9, if_neg (by omega)]
          · rw [g10, if_neg (by omega)]
          · rw [g11, if_neg (by omega)]
          · rw [g12, if_neg (by omega)]
    · rw [e8 120 (by omega) (by omega) (by omega) (by omega), g10, if_neg (by omega)]
    · rw [e8 121 (by omega) (by omega) (by omega) (by omega), g11, if_neg (by omega)]
    · rw [e8 123 (by omega) (by omega) (by omega) (by omega), g12, if_neg (by omega)]
    · rw [e2 t ht, n1 t ht]
    · exact e9.trans g14
    · rw [e8 116 (by omega) (by omega) (by omega) (by omega), g7, if_pos rfl]
  · -- on with the next hand
    have hov : q_ov (q_op k) own le re ((u + d) % 4) o1 = Int32.ofNat (q_gn le re o1) + -(q_op k (upd own (o1 / 2) (Int32.ofNat 4)) (q_l1' le o1) (q_r1' re o1) ((u + (d + 1)) % 4) 0) := by
      unfold q_ov
      rw [if_neg hemp, show ((u + d) % 4 + 1) % 4 = (u + (d + 1)) % 4 by omega]
    obtain ⟨E2, hE2⟩ : ∃ E2, E2 = am_uI (am_uI (am_uI E1 116 (d + 1) 0) 122 (d + 1) 0) 117 (d + 1) 0 := ⟨_, rfl⟩
    have x115 : ∀ a, a ≠ 116 → a ≠ 117 → a ≠ 122 → E2.1 a = E1.1 a := fun a h1 h2 h3 => by rw [hE2, q_uI_ne _ h2, q_uI_ne _ h3, q_uI_ne _ h1]
    have x116 : ∀ j, j ≠ d + 1 → E2.1 116 j = E1.1 116 j ∧ E2.1 117 j = E1.1 117 j ∧ E2.1 122 j = E1.1 122 j := fun j hj => by
      rw [hE2]
      refine ⟨?_, ?_, ?_⟩
      · rw [q_uI_ne _ (by omega), q_uI_ne _ (by omega), q_uI_at, if_neg (fun z => hj z.2)]
      · rw [q_uI_at, if_neg (fun z => hj z.2), q_uI_ne _ (by omega), q_uI_ne _ (by omega)]
      · rw [q_uI_ne _ (by omega), q_uI_at, if_neg (fun z => hj z.2), q_uI_ne _ (by omega)]
    have y116 : E2.1 116 (d + 1) = 0 := by rw [hE2, q_uI_ne _ (by omega), q_uI_ne _ (by omega), q_uIs]
    have y122 : E2.1 122 (d + 1) = 0 := by rw [hE2, q_uI_ne _ (by omega), q_uIs]
    obtain ⟨c1, E3, k1, k2, k3, -⟩ := hNP (d + 1) E2 (upd own (o1 / 2) (Int32.ofNat 4)) (q_l1' le o1) (q_r1' re o1) 0 (by omega) hup hl1.1 hl1.2.2.1 hl1.2.1 hl1.2.2.2 (by omega) (by omega) ⟨fun t ht => by rw [x115 115 (by omega) (by omega) (by omega)]; exact g6 t ht, by rw [x115 120 (by omega) (by omega) (by omega), g10, if_pos rfl], by rw [x115 121 (by omega) (by omega) (by omega), g11, if_pos rfl], by rw [x115 123 (by omega) (by omega) (by omega), g12, if_pos rfl], by rw [x115 107 (by omega) (by omega) (by omega)]; exact h107, by rw [x115 109 (by omega) (by omega) (by omega), g13 109 (by omega)]; exact n6, by rw [x115 110 (by omega) (by omega) (by omega), g13 110 (by omega)]; exact n7⟩ y116 y122 (fun z => by omega)
    obtain ⟨r1, r2, r3, r4, r5, r6, r7, r8⟩ := k3
    have s116 : E3.1 116 d = Int32.ofNat (o1 + 1) := by rw [r5 116 d (by omega) (by omega) (by omega), (x116 d (by omega)).1, g7, if_pos rfl]
    have s118 : E3.1 118 d = Int32.ofNat (o1 / 2) := by rw [r5 118 d (by omega) (by omega) (by omega), x115 118 (by omega) (by omega) (by omega), g8, if_pos rfl]
    have s119 : E3.1 119 d = Int32.ofNat (q_gn le re o1) := by rw [r5 119 d (by omega) (by omega) (by omega), x115 119 (by omega) (by omega) (by omega), g9, if_pos rfl]
    obtain ⟨E4, e1, e2, e3, e4, e5, e6, e7, e8, e9⟩ := q140_a (own := own) (acc := acc) (F := E3) (h := (u + d) % 4) (t := o1 / 2) (o1 := o1) (gn := q_gn le re o1) (show d < 63 by omega) ht28 g3.1 s118 s119 s116 (fun s hs => by rw [r7 s hs, x115 115 (by omega) (by omega) (by omega)]; exact g6 s hs) (hac1 E3 (by rw [r5 122 d (by omega) (by omega) (by omega), (x116 d (by omega)).2.2, g13 122 (by omega)]) (by rw [r5 117 d (by omega) (by omega) (by omega), (x116 d (by omega)).2.1, g13 117 (by omega)]) (by rw [r4 (by omega), x115 106 (by omega) (by omega) (by omega), g13 106 (by omega)])) hov
    have i64 : 0 ≤ Int32.ofNat d ∧ Int32.ofNat d < 64 := q_in (n := 64) (by omega) (by omega)
    refine ⟨o1, c1 + 1, E4, g1, g2, g3, g4, by omega, fun n => ?_, ⟨fun a h1 h2 => ?_, fun a h1 => ?_, fun j hj => ?_, fun h0 => ?_, fun a i h1 h2 h3 => ?_, ⟨?_, ?_, ?_⟩, fun t ht => ?_, ?_⟩, ?_, (q_pk_2 _ _ _ _ _ _ _) ▸ e3⟩
    · rw [show n + (c1 + 1) = (n + c1) + 1 by omega, hstep, q137 hN, hc115, if_neg hemp, Option.bind_some, if_pos (show Int32.ofNat 0 = 0 from rfl)]
      simp only [am_lt]
      rw [show Int32.ofNat d + 1 = Int32.ofNat (d + 1) from q_add d 1, q139 (show d + 1 < 64 by omega), ← hE2, Option.bind_some, Option.bind_some]
      dsimp only
      have hz : m141_L311 N N E2 (Int32.ofNat (d + 1)) 0 0 = some (0, Int32.ofNat (d + 1), 0, E2) := by
        have := q311_0 (N := N) N' E2 (Int32.ofNat (d + 1)) 0
        rw [← hN'] at this
        exact this
      rw [hz, Option.bind_some]
      dsimp only
      rw [if_pos rfl, k2 n]
      unfold q_rt'
      have hL : m141_L311 N N E3 (Int32.ofNat (d + 1)) (q_op k (upd own (o1 / 2) (Int32.ofNat 4)) (q_l1' le o1) (q_r1' re o1) ((u + (d + 1)) % 4) 0) 1 = some (0, Int32.ofNat d, 0, E4) := by
        obtain ⟨N2, hN2⟩ : ∃ N2, N' = N2 + 1 := ⟨N' - 1, by omega⟩
        have h1 : m141_L311 N (N' + 1) E3 (Int32.ofNat (d + 1)) (q_op k (upd own (o1 / 2) (Int32.ofNat 4)) (q_l1' le o1) (q_r1' re o1) ((u + (d + 1)) % 4) 0) 1 = some (0, Int32.ofNat d, 0, E4) := by
          rw [m141_L311, if_neg (show ¬ (1 : Int32) = 0 by decide), if_neg (show ¬ Int32.ofNat (d + 1) = 0 from fun q => by have := q_ofN (b := 0) (by omega) (by omega) q; omega), q_dec]
          simp only [am_lt]
          rw [if_pos i64, q_tn (by omega), s118, if_neg (q_nm (k := o1 / 2) (by omega)), if_pos rfl, q_hand hu hu4 (show E3.1 107 = D0.1 107 by rw [r1 107 (by omega) (by omega), x115 107 (by omega) (by omega) (by omega)]; exact h107) (show d < 64 by omega), e1, Option.bind_some, hN2, q311_0]
        rw [← hN'] at h1
        exact h1
      rw [hL, Option.bind_some]
      dsimp only
      rw [if_pos rfl]
    · rw [e8 a h2 (by omega) (by omega) (by omega), r1 a h1 h2, x115 a (by omega) (by omega) (by omega), g13 a (by omega)]
    · rw [e8 a (by omega) (by omega) (by omega) (by omega), r2 a h1, x115 a (by omega) (by omega) (by omega), g13 a (by omega)]
    · rw [e7 j hj, r3 j hj, x115 106 (by omega) (by omega) (by omega), g13 106 (by omega)]
    · rw [e6 h0, r4 (by omega), x115 106 (by omega) (by omega) (by omega), g13 106 (by omega)]
    · have hz : E4.1 a i = E3.1 a i := by
        by_cases c1 : a = 117
        · rw [c1, e5 i (by omega)]
        · by_cases c2 : a = 122
          · rw [c2, e4 i (by omega)]
          · rw [e8 a (by omega) (by omega) c1 c2]
      rw [hz, r5 a i h1 h2 (by omega)]
      have : a = 116 ∨ a = 117 ∨ a = 118 ∨ a = 119 ∨ a = 120 ∨ a = 121 ∨ a = 122 ∨ a = 123 := by omega
      rcases this with rfl | rfl | rfl | rfl | rfl | rfl | rfl | rfl
      · rw [(x116 i (by omega)).1, g7, if_neg (by omega)]
      · rw [(x116 i (by omega)).2.1, g13 117 (by omega)]
      · rw [x115 118 (by omega) (by omega) (by omega), g8, if_neg (by omega)]
      · rw [x115 119 (by omega) (by omega) (by omega), g9, if_neg (by omega)]
      · rw [x115 120 (by omega) (by omega) (by omega), g10, if_neg (by omega)]
      · rw [x115 121 (by omega) (by omega) (by omega), g11, if_neg (by omega)]
      · rw [(x116 i (by omega)).2.2, g13 122 (by omega)]
      · rw [x115 123 (by omega) (by omega) (by omega), g12, if_neg (by omega)]
    · rw [e8 120 (by omega) (by omega) (by omega) (by omega), r5 120 d (by omega) (by omega) (by omega), x115 120 (by omega) (by omega) (by omega), g10, if_neg (by omega)]
    · rw [e8 121 (by omega) (by omega) (by omega) (by omega), r5 121 d (by omega) (by omega) (by omega), x115 121 (by omega) (by omega) (by omega), g11, if_neg (by omega)]
    · rw [e8 123 (by omega) (by omega) (by omega) (by omega), r5 123 d (by omega) (by omega) (by omega), x115 123 (by omega) (by omega) (by omega), g12, if_neg (by omega)]
    · rw [e2 t ht, n1 t ht]
    · rw [e9, r8, hE2]; exact g14
    · rw [e8 116 (by omega) (by omega) (by omega) (by omega)]; exact s116
end QD
