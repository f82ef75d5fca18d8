/-! open hands: the model plays a node to its end -/
section QE
variable {D0 D E : am_D} {N u : Nat}
/-- nothing is left to lay -/
theorem q_end1 (hN : 2000 ≤ N) (hB : q_B D0) (hu : D0.1 107 1 = Int32.ofNat u) (hu4 : u < 4) {k d o le re r : Nat} {own : Nat → Int32} {acc : Option (Int32 × Nat)} (hNP : q_NP N D0 u k) (hdk : d + (k + 1) ≤ 60) (hown : ∀ t, t < 28 → ∃ w, w < 5 ∧ own t = Int32.ofNat w) (le16 : le < 16) (re16 : re < 16) (le7 : le % 8 < 7) (re7 : re % 8 < 7) (hr : r ≤ 3) (hk : 4 * q_all (q_cnt own) + 3 - r < k + 1) (hnd : q_nd1 D0 own le re r d E) (ho : o ≤ 56) (h116 : E.1 116 d = Int32.ofNat o) (hac : q_ac d acc E) (hn : ∀ o', o ≤ o' → o' < 56 → ¬ q_lg own le re ((u + d) % 4) o') :
    ∃ c E2, c ≤ q_Cc k + 1 ∧ (∀ n, m141_L75 N (n + c) E (Int32.ofNat d) = q_rt' N n E2 d (q_vl k own le re ((u + d) % 4) r acc)) ∧ q_f2 d E E2 ∧ (d = 0 → E2.1 106 24 = q_cd acc) := by
  obtain ⟨n1, n2, n3, n4, n5, n6, n7⟩ := hnd
  have hBE : ∀ F : am_D, F.1 109 = E.1 109 → F.1 110 = E.1 110 → q_B F := fun F h1 h2 t ht => by rw [h1, h2, n6, n7]; exact hB t ht
  have g5 := q138_0 hN (hBE E rfl rfl) (h := (u + d) % 4) (show d < 63 by omega) ho n1 n2 n3 le16 re16 h116 hn
  obtain ⟨E1, hE1⟩ : ∃ E1, E1 = am_uI E 116 d 56 := ⟨_, rfl⟩
  rw [← hE1] at g5
  have x1 : ∀ a, a ≠ 116 → E1.1 a = E.1 a := fun a ha => by rw [hE1, q_uI_ne _ ha]
  have x2 : ∀ j, j ≠ d → E1.1 116 j = E.1 116 j := fun j hj => by rw [hE1, q_uI_at, if_neg (fun z => hj z.2)]
  have i64 : 0 ≤ Int32.ofNat d ∧ Int32.ofNat d < 64 := q_in (n := 64) (by omega) (by omega)
  have n64 : (Int32.ofNat d).toNatClampNeg = d := q_tn (by omega)
  have hh4 : (u + d) % 4 < 4 := by omega
  obtain ⟨a1, a2⟩ := hac
  have hf1 : q_f2 d E E1 := ⟨fun a h1 h2 => x1 a (by omega), fun a h1 => x1 a (by omega), fun j _ => by rw [x1 106 (by omega)], fun _ => by rw [x1 106 (by omega)], fun a i h1 h2 h3 => by
    by_cases c : a = 116
    · rw [c]; exact x2 i (by omega)
    · rw [x1 a c], ⟨by rw [x1 120 (by omega)], by rw [x1 121 (by omega)], by rw [x1 123 (by omega)]⟩, fun t ht => by rw [x1 115 (by omega)], by rw [hE1]; rfl⟩
  cases acc with
  | some b =>
    obtain ⟨a3, a4⟩ := a1
    refine ⟨1, E1, by omega, fun n => ?_, hf1, fun c => by rw [x1 106 (by omega)]; exact a2 c⟩
    rw [m141_L75]
    simp only [am_lt]
    rw [q_hand hu hu4 n5 (show d < 64 by omega), g5, Option.bind_some]
    dsimp only
    rw [if_pos rfl, if_pos i64, n64, x1 122 (by omega), a3, if_pos rfl, if_pos i64, x1 117 (by omega), a4, Option.bind_some]
    rfl
  | none =>
    have a3 : E.1 122 d = 0 := a1
    by_cases hr3 : r = 3
    · -- none can go on
      refine ⟨1, E1, by omega, fun n => ?_, hf1, fun c => by rw [x1 106 (by omega)]; exact a2 c⟩
      have hB1 : q_B E1 := hBE E1 (x1 109 (by omega)) (x1 110 (by omega))
      have hp : ∀ v, q_pips (E1.1 115) v = q_pips own v := fun v => by rw [x1 115 (by omega)]; exact q_pips_congr n1
      have m1 : ∀ j, (Int32.ofNat ((u + d) % 4) + Int32.ofNat j) - (Int32.ofNat ((u + d) % 4) + Int32.ofNat j) / (4 : Int32) * (4 : Int32) = Int32.ofNat (((u + d) % 4 + j) % 4) → True := fun _ _ => trivial
      have mm : ∀ j, j < 4 → (Int32.ofNat ((u + d) % 4) + Int32.ofNat j) - (Int32.ofNat ((u + d) % 4) + Int32.ofNat j) / (4 : Int32) * (4 : Int32) = Int32.ofNat (((u + d) % 4 + j) % 4) := fun j hj => by
        rw [q_add, show (4 : Int32) = Int32.ofNat 4 from rfl, q_mod (by omega) (by omega)]
      have mm1 := mm 1 (by omega)
      have mm2 := mm 2 (by omega)
      have mm3 := mm 3 (by omega)
      rw [m141_L75]
      simp only [am_lt]
      rw [q_hand hu hu4 n5 (show d < 64 by omega), g5, Option.bind_some]
      dsimp only
      rw [if_pos rfl, if_pos i64, n64, x1 122 (by omega), a3, if_neg (show ¬ (0 : Int32) = 1 by decide), if_pos i64, x1 123 (by omega), n4, if_pos (show Int32.ofNat r = (3 : Int32) by rw [hr3]; rfl), show (1 : Int32) = Int32.ofNat 1 from rfl, show (3 : Int32) = Int32.ofNat 3 from rfl, show (2 : Int32) = Int32.ofNat 2 from rfl, mm1, mm2, mm3, q136 hN hB1, Option.bind_some, q136 hN hB1, Option.bind_some, q136 hN hB1, Option.bind_some, q136 hN hB1, Option.bind_some, Option.bind_some, hp, hp, hp, hp]
      have ev : q_vl k own le re ((u + d) % 4) r none = q_bk own ((u + d) % 4) := by
        show (if r = 3 then _ else _) = _
        rw [if_pos hr3]
      rw [ev]
      rfl
    · -- the hand passes
      have i64' : 0 ≤ Int32.ofNat (d + 1) ∧ Int32.ofNat (d + 1) < 64 := q_in (n := 64) (by omega) (by omega)
      have n64' : (Int32.ofNat (d + 1)).toNatClampNeg = d + 1 := q_tn (by omega)
      obtain ⟨D53, hD53⟩ : ∃ D53, D53 = am_uI E1 118 d (-1) := ⟨_, rfl⟩
      obtain ⟨D57, hD57⟩ : ∃ D57, D57 = am_uI D53 120 (d + 1) (Int32.ofNat le) := ⟨_, rfl⟩
      obtain ⟨D61, hD61⟩ : ∃ D61, D61 = am_uI D57 121 (d + 1) (Int32.ofNat re) := ⟨_, rfl⟩
      obtain ⟨D65, hD65⟩ : ∃ D65, D65 = am_uI D61 123 (d + 1) (Int32.ofNat (r + 1)) := ⟨_, rfl⟩
      obtain ⟨E2, hE2⟩ : ∃ E2, E2 = am_uI (am_uI (am_uI D65 116 (d + 1) 0) 122 (d + 1) 0) 117 (d + 1) 0 := ⟨_, rfl⟩
      have v120 : D53.1 120 d = Int32.ofNat le := by rw [hD53, q_uI_ne _ (by omega), x1 120 (by omega)]; exact n2
      have v121 : D57.1 121 d = Int32.ofNat re := by rw [hD57, q_uI_ne _ (by omega), hD53, q_uI_ne _ (by omega), x1 121 (by omega)]; exact n3
      have v123 : D61.1 123 d = Int32.ofNat r := by rw [hD61, q_uI_ne _ (by omega), hD57, q_uI_ne _ (by omega), hD53, q_uI_ne _ (by omega), x1 123 (by omega)]; exact n4
      have y0 : ∀ a, a ≠ 116 → a ≠ 117 → a ≠ 118 → a ≠ 120 → a ≠ 121 → a ≠ 122 → a ≠ 123 → E2.1 a = E.1 a := fun a h1 h2 h3 h4 h5 h6 h7 => by
        rw [hE2, q_uI_ne _ h2, q_uI_ne _ h6, q_uI_ne _ h1, hD65, q_uI_ne _ h7, hD61, q_uI_ne _ h5, hD57, q_uI_ne _ h4, hD53, q_uI_ne _ h3, x1 a h1]
      have y1 : ∀ a i, 116 ≤ a → a ≤ 123 → i < d + 1 → ¬ (a = 116 ∧ i = d) → ¬ (a = 118 ∧ i = d) → E2.1 a i = E.1 a i := fun a i h1 h2 h3 h4 h5 => by
        rw [hE2, q_uI_at, if_neg (by omega), q_uI_at, if_neg (by omega), q_uI_at, if_neg (by omega), hD65, q_uI_at, if_neg (by omega), hD61, q_uI_at, if_neg (by omega), hD57, q_uI_at, if_neg (by omega), hD53, q_uI_at, if_neg h5]
        by_cases c : a = 116
        · rw [c]; exact x2 i (by omega)
        · rw [x1 a c]
      have y118 : E2.1 118 d = -1 := by
        rw [hE2, q_uI_ne _ (by omega), q_uI_ne _ (by omega), q_uI_ne _ (by omega), hD65, q_uI_ne _ (by omega), hD61, q_uI_ne _ (by omega), hD57, q_uI_ne _ (by omega), hD53, q_uIs]
      have z120 : E2.1 120 (d + 1) = Int32.ofNat le := by
        rw [hE2, q_uI_ne _ (by omega), q_uI_ne _ (by omega), q_uI_ne _ (by omega), hD65, q_uI_ne _ (by omega), hD61, q_uI_ne _ (by omega), hD57, q_uIs]
      have z121 : E2.1 121 (d + 1) = Int32.ofNat re := by
        rw [hE2, q_uI_ne _ (by omega), q_uI_ne _ (by omega), q_uI_ne _ (by omega), hD65, q_uI_ne _ (by omega), hD61, q_uIs]
      have z123 : E2.1 123 (d + 1) = Int32.ofNat (r + 1) := by
        rw [hE2, q_uI_ne _ (by omega), q_uI_ne _ (by omega), q_uI_ne _ (by omega), hD65, q_uIs]
      have z116 : E2.1 116 (d + 1) = 0 := by rw [hE2, q_uI_ne _ (by omega), q_uI_ne _ (by omega), q_uIs]
      have z122 : E2.1 122 (d + 1) = 0 := by rw [hE2, q_uI_ne _ (by omega), q_uIs]
      obtain ⟨c1, E3, k1, k2, k3, -⟩ := hNP (d + 1) E2 own le re (r + 1) (by omega) hown le16 re16 le7 re7 (by omega) (by omega) ⟨fun t ht => by rw [y0 115 (by omega) (by omega) (by omega) (by omega) (by omega) (by omega) (by omega)]; exact n1 t ht, z120, z121, z123, by rw [y0 107 (by omega) (by omega) (by omega) (by omega) (by omega) (by omega) (by omega)]; exact n5, by rw [y0 109 (by omega) (by omega) (by omega) (by omega) (by omega) (by omega) (by omega)]; exact n6, by rw [y0 110 (by omega) (by omega) (by omega) (by omega) (by omega) (by omega) (by omega)]; exact n7⟩ z116 z122 (fun z => by omega)
      obtain ⟨r1, r2, r3, r4, r5, r6, r7, r8⟩ := k3
      have s118 : E3.1 118 d = -1 := by rw [r5 118 d (by omega) (by omega) (by omega)]; exact y118
      refine ⟨c1 + 1, E3, by omega, fun n => ?_, ⟨fun a h1 h2 => ?_, fun a h1 => ?_, fun j hj => ?_, fun h0 => ?_, fun a i h1 h2 h3 => ?_, ⟨?_, ?_, ?_⟩, fun t ht => ?_, ?_⟩, fun c => ?_⟩
      · rw [show n + (c1 + 1) = (n + c1) + 1 by omega, m141_L75]
        simp only [am_lt]
        rw [q_hand hu hu4 n5 (show d < 64 by omega), g5, Option.bind_some]
        dsimp only
        rw [if_pos rfl, if_pos i64, n64, x1 122 (by omega), a3, if_neg (show ¬ (0 : Int32) = 1 by decide), if_pos i64, x1 123 (by omega), n4, if_neg (show ¬ Int32.ofNat r = (3 : Int32) from fun q => hr3 (q_ofN (b := 3) (by omega) (by omega) q)), show Int32.ofNat d + 1 = Int32.ofNat (d + 1) from q_add d 1]
        simp only [i64, i64', and_self, if_true, n64']
        rw [← hD53, v120, ← hD57, v121, ← hD61, v123, show Int32.ofNat r + 1 = Int32.ofNat (r + 1) from q_add r 1, ← hD65, q139 (show d + 1 < 64 by omega), ← hE2, Option.bind_some, Option.bind_some]
        dsimp only
        obtain ⟨N', hN'⟩ : ∃ N', N = N' + 1 := ⟨N - 1, by omega⟩
        have hz : m141_L311 N N E2 (Int32.ofNat (d + 1)) 0 0 = some (0, Int32.ofNat (d + 1), 0, E2) := by
          have := q311_0 (N := N) N' E2 (Int32.ofNat (d + 1)) 0
          rw [← hN'] at this
          exact this
        rw [hz, Option.bind_some]
        dsimp only
        rw [if_pos rfl, k2 n]
        unfold q_rt'
        have hL : m141_L311 N N E3 (Int32.ofNat (d + 1)) (q_op k own le re ((u + (d + 1)) % 4) (r + 1)) 1 = m141_L311 N N E3 (Int32.ofNat d) (-(q_op k own le re ((u + (d + 1)) % 4) (r + 1))) 1 := by
          have h1 : m141_L311 N (N' + 1) E3 (Int32.ofNat (d + 1)) (q_op k own le re ((u + (d + 1)) % 4) (r + 1)) 1 = m141_L311 N N' E3 (Int32.ofNat d) (-(q_op k own le re ((u + (d + 1)) % 4) (r + 1))) 1 := by
            rw [m141_L311, if_neg (show ¬ (1 : Int32) = 0 by decide), if_neg (show ¬ Int32.ofNat (d + 1) = 0 from fun q => by have := q_ofN (b := 0) (by omega) (by omega) q; omega), q_dec]
            simp only [am_lt]
            rw [if_pos i64, n64, s118, if_pos rfl, if_neg (show ¬ (1 : Int32) = 0 by decide)]
          rw [← hN'] at h1
          rw [h1]
          exact q311_f d N' N E3 _ 1 (by omega) (by omega) (by omega)
        have ev : q_vl k own le re ((u + d) % 4) r none = -(q_op k own le re ((u + (d + 1)) % 4) (r + 1)) := by
          show (if r = 3 then _ else _) = _
          rw [if_neg hr3, show ((u + d) % 4 + 1) % 4 = (u + (d + 1)) % 4 by omega]
        rw [hL, ev]
      · rw [r1 a h1 h2, y0 a (by omega) (by omega) (by omega) (by omega) (by omega) (by omega) (by omega)]
      · rw [r2 a h1, y0 a (by omega) (by omega) (by omega) (by omega) (by omega) (by omega) (by omega)]
      · rw [r3 j hj, y0 106 (by omega) (by omega) (by omega) (by omega) (by omega) (by omega) (by omega)]
      · rw [r4 (by omega), y0 106 (by omega) (by omega) (by omega) (by omega) (by omega) (by omega) (by omega)]
      · rw [r5 a i h1 h2 (by omega), y1 a i h1 h2 (by omega) (by omega) (by omega)]
      · rw [r5 120 d (by omega) (by omega) (by omega), y1 120 d (by omega) (by omega) (by omega) (by omega) (by omega)]
      · rw [r5 121 d (by omega) (by omega) (by omega), y1 121 d (by omega) (by omega) (by omega) (by omega) (by omega)]
      · rw [r5 123 d (by omega) (by omega) (by omega), y1 123 d (by omega) (by omega) (by omega) (by omega) (by omega)]
      · rw [r7 t ht, y0 115 (by omega) (by omega) (by omega) (by omega) (by omega) (by omega) (by omega)]
      · rw [r8, hE2, hD65, hD61, hD57, hD53, hE1]; rfl
      · rw [r4 (by omega), y0 106 (by omega) (by omega) (by omega) (by omega) (by omega) (by omega) (by omega)]; exact a2 c
/-- all lays of a node, one after the other -/
theorem q_loop1 (hN : 2000 ≤ N) (hB : q_B D0) (hu : D0.1 107 1 = Int32.ofNat u) (hu4 : u < 4) {k d le re r : Nat} {own : Nat → Int32} (hNP : q_NP N D0 u k) (hdk : d + (k + 1) ≤ 60) (hown : ∀ t, t < 28 → ∃ w, w < 5 ∧ own t = Int32.ofNat w) (le16 : le < 16) (re16 : re < 16) (le7 : le % 8 < 7) (re7 : re % 8 < 7) (hr : r ≤ 3) (hk : 4 * q_all (q_cnt own) + 3 - r < k + 1) : ∀ (J j o : Nat) (acc : Option (Int32 × Nat)) (E : am_D), j ≤ J → o + j = 56 → q_nd1 D0 own le re r d E → E.1 116 d = Int32.ofNat o → q_ac d acc E → ∃ c E2, c ≤ j * (q_Cc k + 1) + q_Cc k + 1 ∧ (∀ n, m141_L75 N (n + c) E (Int32.ofNat d) = q_rt' N n E2 d (q_vl k own le re ((u + d) % 4) r (q_fd (q_op k) own le re ((u + d) % 4) j o acc))) ∧ q_f2 d E E2 ∧ (d = 0 → E2.1 106 24 = q_cd (q_fd (q_op k) own le re ((u + d) % 4) j o acc))
  | J, j, o, acc, E, hJ, ho, hnd, h116, hac => by
    by_cases hy : ∃ o', o ≤ o' ∧ o' < 56 ∧ q_lg own le re ((u + d) % 4) o'
    · obtain ⟨o1, c1, E1, g1, g2, g3, g4, g5, g6, g7, g8, g9⟩ := q_lay1 hN hB hu hu4 hNP hdk hown le16 re16 le7 re7 hr hk hnd (by omega) h116 hac hy
      obtain ⟨i, hi⟩ : ∃ i, o1 = o + i := ⟨o1 - o, by omega⟩
      have hfd : q_fd (q_op k) own le re ((u + d) % 4) j o acc = q_fd (q_op k) own le re ((u + d) % 4) (55 - o1) (o1 + 1) (q_pk (q_op k) own le re ((u + d) % 4) o1 acc) := by
        have h1 := q_fd_skip (q_op k) own le re ((u + d) % 4) i (56 - o1) o acc (fun o' h1 h2 => g4 o' h1 (by omega))
        rw [show i + (56 - o1) = j by omega, ← hi] at h1
        rw [h1, show 56 - o1 = (55 - o1) + 1 by omega]
        show q_fd (q_op k) own le re ((u + d) % 4) (55 - o1) (o1 + 1) (if q_lg own le re ((u + d) % 4) o1 then _ else _) = _
        rw [if_pos g3]
      match J, hJ with
      | 0, hJ => omega
      | J + 1, hJ =>
        obtain ⟨c2, E2, k1, k2, k3, k4⟩ := q_loop1 hN hB hu hu4 hNP hdk hown le16 re16 le7 re7 hr hk J (55 - o1) (o1 + 1) (q_pk (q_op k) own le re ((u + d) % 4) o1 acc) E1 (by omega) (by omega) (q_nd1_f hnd g7) g8 g9
        refine ⟨c2 + c1, E2, ?_, fun n => ?_, g7.tr k3, fun c => ?_⟩
        · have : (55 - o1) * (q_Cc k + 1) + (q_Cc k + 1) ≤ j * (q_Cc k + 1) := by
            rw [← Nat.succ_mul]
            exact Nat.mul_le_mul_right _ (by omega)
          omega
        · rw [← Nat.add_assoc, g6, k2, hfd]
        · rw [k4 c, hfd]
    · have hn : ∀ o', o ≤ o' → o' < 56 → ¬ q_lg own le re ((u + d) % 4) o' := fun o' h1 h2 h3 => hy ⟨o', h1, h2, h3⟩
      obtain ⟨c, E2, k1, k2, k3, k4⟩ := q_end1 hN hB hu hu4 hNP hdk hown le16 re16 le7 re7 hr hk hnd (by omega) h116 hac hn
      have hfd : q_fd (q_op k) own le re ((u + d) % 4) j o acc = acc := by
        have h1 := q_fd_skip (q_op k) own le re ((u + d) % 4) j 0 o acc (fun o' h1 h2 => hn o' h1 (by omega))
        rw [Nat.add_zero] at h1
        rw [h1]
        rfl
      refine ⟨c, E2, ?_, fun n => ?_, k3, fun z => ?_⟩
      · have : 0 ≤ j * (q_Cc k + 1) := Nat.zero_le _
        omega
      · rw [k2, hfd]
      · rw [k4 z, hfd]
theorem q_NP_all (hN : 2000 ≤ N) (hB : q_B D0) (hu : D0.1 107 1 = Int32.ofNat u) (hu4 : u < 4) : ∀ k, q_NP N D0 u k
  | 0 => fun d E own le re r _ _ _ _ _ _ _ hk => by omega
  | k + 1 => fun d E own le re r hdk hown le16 re16 le7 re7 hr hk hnd h116 h122 h24 => by
    obtain ⟨c, E2, k1, k2, k3, k4⟩ := q_loop1 hN hB hu hu4 (q_NP_all hN hB hu hu4 k) hdk hown le16 re16 le7 re7 hr hk 56 56 0 none E (by omega) (by omega) hnd h116 ⟨h122, h24⟩
    refine ⟨c, E2, ?_, fun n => ?_, k3, k4⟩
    · show c ≤ 57 * (q_Cc k + 1) + q_Cc k + 2
      omega
    · rw [k2]
      congr 1
end QE
