/-! open hands: the class's search, all lays -/
section QJ
variable {D : am_D} {N sz S : Nat} {ts os : Nat → Nat} {own : Nat → Int32} {rec : am_D → Int32 → Int32 → Int32 → Int32 → Option (Int32 × am_D)}
/-- where a place's lay stands among all lays -/
def q_ta (sz : Nat) (ts : Nat → Nat) (o : Nat) : Nat := if o < 2 * sz then 2 * ts (o / 2) + o % 2 else 56
theorem q_ta_le (hw : q_rw sz ts os) (o : Nat) : q_ta sz ts o ≤ 56 := by
  unfold q_ta
  by_cases c : o < 2 * sz
  · rw [if_pos c]
    have := (hw.2.1 (o / 2) (by omega)).1
    omega
  · rw [if_neg c]; omega
/-- from one place's lay to the next one nothing can be laid -/
theorem q_ta_skip (hw : q_rw sz ts os) (hc : q_cr sz ts os own S) {le re h o : Nat} (hh : h < 4) (ho : o < 2 * sz) : q_ta sz ts o + 1 ≤ q_ta sz ts (o + 1) ∧ ∀ o', q_ta sz ts o + 1 ≤ o' → o' < q_ta sz ts (o + 1) → ¬ q_lg own le re h o' := by
  have h9 := hw.1
  have hi := (hw.2.1 (o / 2) (by omega)).1
  have e0 : q_ta sz ts o = 2 * ts (o / 2) + o % 2 := if_pos ho
  have hno : ∀ o', (∀ i, i < sz → ts i ≠ o' / 2) → o' < 56 → ¬ q_lg own le re h o' := fun o' hn ho' hl => by
    have h1 := hl.1
    rw [hc.2.2 (o' / 2) (by omega) hn] at h1
    have := q_ofN (a := 4) (b := h) (by omega) (by omega) h1
    omega
  by_cases c : o % 2 = 0
  · have e1 : q_ta sz ts (o + 1) = 2 * ts (o / 2) + 1 := by
      unfold q_ta
      rw [if_pos (by omega), show (o + 1) / 2 = o / 2 by omega, show (o + 1) % 2 = 1 by omega]
    rw [e0, e1]
    exact ⟨by omega, fun o' h1 h2 => by omega⟩
  · by_cases d : o + 1 < 2 * sz
    · have e1 : q_ta sz ts (o + 1) = 2 * ts (o / 2 + 1) := by
        unfold q_ta
        rw [if_pos d, show (o + 1) / 2 = o / 2 + 1 by omega, show (o + 1) % 2 = 0 by omega, Nat.add_zero]
      have hlt := hw.2.2 (o / 2) (o / 2 + 1) (by omega) (by omega)
      have hj := (hw.2.1 (o / 2 + 1) (by omega)).1
      rw [e0, e1]
      refine ⟨by omega, fun o' h1 h2 => hno o' (fun i hi' e => ?_) (by omega)⟩
      by_cases q : i ≤ o / 2
      · by_cases q2 : i = o / 2
        · rw [q2] at e; omega
        · have := hw.2.2 i (o / 2) (by omega) (by omega); omega
      · by_cases q2 : i = o / 2 + 1
        · rw [q2] at e; omega
        · have := hw.2.2 (o / 2 + 1) i (by omega) hi'; omega
    · have e1 : q_ta sz ts (o + 1) = 56 := if_neg d
      rw [e0, e1]
      refine ⟨by omega, fun o' h1 h2 => hno o' (fun i hi' e => ?_) h2⟩
      by_cases q2 : i = o / 2
      · rw [q2] at e; omega
      · have := hw.2.2 i (o / 2) (by omega) (by omega); omega
/-- what was found so far, in the class -/
def q_ac3 (v8 v9 : Int32) (acc : Option (Int32 × Nat)) : Prop := match acc with
  | none => v8 = 0 ∧ v9 = 0
  | some b => v8 = 1 ∧ v9 = b.1
def q_b0 (acc : Option (Int32 × Nat)) : Int32 := match acc with
  | none => 0
  | some b => b.1
theorem q80 (hN : 2000 ≤ N) (hw : q_rw sz ts os) {f : Nat} (hBP : q_BP rec sz ts os f) (hc : q_cr sz ts os own S) {d le re h h0 k : Nat} (hown : ∀ t, t < 28 → ∃ w, w < 5 ∧ own t = Int32.ofNat w) (le16 : le < 16) (re16 : re < 16) (le7 : le % 8 < 7) (re7 : re % 8 < 7) (hd9 : d + q_all (q_cnt own) ≤ 9) (hf : q_all (q_cnt own) < f + 1) (hh : h < 4) (hh0 : h0 < 4) (hk : 4 * q_all (q_cnt own) ≤ k) (c6 c7 : Int32) : ∀ (j o m : Nat) (D : am_D) (v8 v9 : Int32) (acc : Option (Int32 × Nat)), o + j = 2 * sz → j < m → q_ow D sz ts os → q_en D d le re → q_ac3 v8 v9 acc → (d = 0 ∧ h = h0 → q_ch3 acc c6 c7 D) → ∃ D', m173b_L80 rec N (Int32.ofNat d) (Int32.ofNat h0) (Int32.ofNat S) (Int32.ofNat h) (q_sg h) m D v8 v9 (Int32.ofNat o) = some (q_b0 (q_fd (q_op k) own le re h (56 - q_ta sz ts o) (q_ta sz ts o) acc), D') ∧ q_f3 d D D' ∧ (d = 0 ∧ h = h0 → q_ch3 (q_fd (q_op k) own le re h (56 - q_ta sz ts o) (q_ta sz ts o) acc) c6 c7 D') ∧ (¬ (d = 0 ∧ h = h0) → D'.1 99 6 = D.1 99 6 ∧ D'.1 99 7 = D.1 99 7)
  | 0, o, m + 1, D, v8, v9, acc, hj, hm, ho, he, ha, hch => by
    have h9 := hw.1
    have e : q_ta sz ts o = 56 := if_neg (by omega)
    rw [e]
    refine ⟨D, ?_, q_f3.rf d D, hch, fun _ => ⟨rfl, rfl⟩⟩
    rw [m173b_L80, ho.1, show (2 : Int32) = Int32.ofNat 2 from rfl, q_mul, if_pos (q_yle (by omega) (by omega))]
    show some (v9, D) = some (q_b0 acc, D)
    cases acc with
    | none => rw [ha.2]; rfl
    | some b => rw [ha.2]; rfl
  | j + 1, o, m + 1, D, v8, v9, acc, hj, hm, ho, he, ha, hch => by
    have h9 := hw.1
    have hd9' : d ≤ 9 := by omega
    have hi : o / 2 < sz := by omega
    have hts := (hw.2.1 (o / 2) hi).1
    have ho' : o < 2 * sz := by omega
    have e0 : q_ta sz ts o = 2 * ts (o / 2) + o % 2 := if_pos ho'
    obtain ⟨s1, s2⟩ := q_ta_skip (le := le) (re := re) hw hc hh ho'
    have s3 := q_ta_le (os := os) hw (o + 1)
    -- the step of what is found
    have hstep : q_fd (q_op k) own le re h (56 - q_ta sz ts o) (q_ta sz ts o) acc = q_fd (q_op k) own le re h (56 - q_ta sz ts (o + 1)) (q_ta sz ts (o + 1)) (if q_lg own le re h (q_ta sz ts o) then q_pk (q_op k) own le re h (q_ta sz ts o) acc else acc) := by
      obtain ⟨i, hi2⟩ : ∃ i, q_ta sz ts (o + 1) = q_ta sz ts o + 1 + i := ⟨q_ta sz ts (o + 1) - (q_ta sz ts o + 1), by omega⟩
      rw [show 56 - q_ta sz ts o = (55 - q_ta sz ts o) + 1 by omega]
      show q_fd (q_op k) own le re h (55 - q_ta sz ts o) (q_ta sz ts o + 1) (if q_lg own le re h (q_ta sz ts o) then q_pk (q_op k) own le re h (q_ta sz ts o) acc else acc) = _
      have := q_fd_skip (q_op k) own le re h i (56 - q_ta sz ts (o + 1)) (q_ta sz ts o + 1) (if q_lg own le re h (q_ta sz ts o) then q_pk (q_op k) own le re h (q_ta sz ts o) acc else acc) (fun o' h1 h2 => s2 o' h1 (by omega))
      rw [show i + (56 - q_ta sz ts (o + 1)) = 55 - q_ta sz ts o by omega, ← hi2] at this
      exact this
    rw [hstep]
    have e175 := q175 hw ho hc hd9' he hi (show o % 2 < 2 by omega) hh
    rw [← e0] at e175
    rw [m173b_L80, ho.1, show (2 : Int32) = Int32.ofNat 2 from rfl, q_mul, if_neg (q_nle (by omega) ho'), q_mod (by omega) (by omega), q_div (by omega) (by omega)]
    simp only [am_lt]
    rw [e175, show Int32.ofNat o + 1 = Int32.ofNat (o + 1) from q_add o 1]
    by_cases c : q_lg own le re h (q_ta sz ts o)
    · rw [if_pos c, if_pos c, if_neg (show ¬ (1 : Int32) = 0 by decide)]
      have c' := c
      rw [e0] at c'
      obtain ⟨D1, k1, k2, k3⟩ := q176 hN hw hBP ho hc he hown le16 re16 le7 re7 hd9 hf hh hk hi (show o % 2 < 2 by omega) c'
      obtain ⟨-, -, -, gg⟩ := q_sg4 h hh
      have hval : q_sg h * (q_sg h * q_ov (q_op k) own le re h (2 * ts (o / 2) + o % 2)) = q_ov (q_op k) own le re h (q_ta sz ts o) := by
        rw [← Int32.mul_assoc, gg, Int32.one_mul, e0]
      rw [k1, Option.bind_some]
      dsimp only
      rw [hval]
      have ho1 := q_f3_ow k2 ho
      have he1 := q_f3_en k2 he
      have r100 : am_rat (D1.1 100) 9 (Int32.ofNat (o / 2)) = Int32.ofNat (ts (o / 2)) := by
        rw [q_rt _ (by omega) (show o / 2 < 9 by omega)]
        exact (ho1.2 _ hi).1
      -- a better lay is kept
      have hbet : ∀ y : Int32, y = q_ov (q_op k) own le re h (q_ta sz ts o) → q_pk (q_op k) own le re h (q_ta sz ts o) acc = some (y, q_ta sz ts o) → ∃ D2, (if Int32.ofNat d = 0 then (if Int32.ofNat h = Int32.ofNat h0 then (some ((1 : Int32), y, am_uI (am_uI D1 99 6 (am_rat (D1.1 100) 9 (Int32.ofNat (o / 2)))) 99 7 (Int32.ofNat (o % 2)))) else (some ((1 : Int32), y, D1))) else (some ((1 : Int32), y, D1))) = some ((1 : Int32), y, D2) ∧ q_f3 d D D2 ∧ (d = 0 ∧ h = h0 → q_ch3 (some (y, q_ta sz ts o)) c6 c7 D2) ∧ (¬ (d = 0 ∧ h = h0) → D2.1 99 6 = D.1 99 6 ∧ D2.1 99 7 = D.1 99 7) := fun y hy hp => by
        by_cases q : d = 0 ∧ h = h0
        · refine ⟨am_uI (am_uI D1 99 6 (Int32.ofNat (ts (o / 2)))) 99 7 (Int32.ofNat (o % 2)), ?_, ?_, fun _ => ⟨?_, ?_⟩, fun z => absurd q z⟩
          · rw [if_pos (show Int32.ofNat d = 0 by rw [q.1]; rfl), if_pos (show Int32.ofNat h = Int32.ofNat h0 by rw [q.2]), r100]
          · refine k2.tr ⟨fun a h1 h2 h3 => by rw [q_uI_ne _ h1, q_uI_ne _ h1], fun j hj => ?_, fun i hi => by rw [q_uI_ne _ (by omega), q_uI_ne _ (by omega), q_uI_ne _ (by omega), q_uI_ne _ (by omega)]; exact ⟨rfl, rfl⟩, rfl⟩
            rw [q_uI_at, if_neg (by omega), q_uI_at, if_neg (by omega)]
          · show _ = Int32.ofNat (q_ta sz ts o / 2)
            rw [q_uI_at, if_neg (by omega), q_uIs, e0, show (2 * ts (o / 2) + o % 2) / 2 = ts (o / 2) by omega]
          · show _ = Int32.ofNat (q_ta sz ts o % 2)
            rw [q_uIs, e0, show (2 * ts (o / 2) + o % 2) % 2 = o % 2 by omega]
        · refine ⟨D1, ?_, k2, fun z => absurd z q, fun _ => ⟨k3 6, k3 7⟩⟩
          by_cases q1 : d = 0
          · rw [if_pos (show Int32.ofNat d = 0 by rw [q1]; rfl), if_neg (show ¬ Int32.ofNat h = Int32.ofNat h0 from fun z => q ⟨q1, q_ofN (by omega) (by omega) z⟩)]
          · rw [if_neg (show ¬ Int32.ofNat d = 0 from fun z => q1 (q_ofN (b := 0) (by omega) (by omega) z))]
      have hfin : ∀ (v8' v9' : Int32) (D2 : am_D) (acc' : Option (Int32 × Nat)), q_pk (q_op k) own le re h (q_ta sz ts o) acc = acc' → q_ac3 v8' v9' acc' → q_f3 d D D2 → (d = 0 ∧ h = h0 → q_ch3 acc' c6 c7 D2) → (¬ (d = 0 ∧ h = h0) → D2.1 99 6 = D.1 99 6 ∧ D2.1 99 7 = D.1 99 7) → ∃ D', m173b_L80 rec N (Int32.ofNat d) (Int32.ofNat h0) (Int32.ofNat S) (Int32.ofNat h) (q_sg h) m D2 v8' v9' (Int32.ofNat (o + 1)) = some (q_b0 (q_fd (q_op k) own le re h (56 - q_ta sz ts (o + 1)) (q_ta sz ts (o + 1)) (q_pk (q_op k) own le re h (q_ta sz ts o) acc)), D') ∧ q_f3 d D D' ∧ (d = 0 ∧ h = h0 → q_ch3 (q_fd (q_op k) own le re h (56 - q_ta sz ts (o + 1)) (q_ta sz ts (o + 1)) (q_pk (q_op k) own le re h (q_ta sz ts o) acc)) c6 c7 D') ∧ (¬ (d = 0 ∧ h = h0) → D'.1 99 6 = D.1 99 6 ∧ D'.1 99 7 = D.1 99 7) := fun v8' v9' D2 acc' hp ha' hf2 hc2 hn2 => by
        rw [hp]
        obtain ⟨D', t1, t2, t3, t4⟩ := q80 hN hw hBP hc hown le16 re16 le7 re7 hd9 hf hh hh0 hk c6 c7 j (o + 1) m D2 v8' v9' acc' (by omega) (by omega) (q_f3_ow hf2 ho) (q_f3_en hf2 he) ha' hc2
        exact ⟨D', t1, hf2.tr t2, t3, fun z => ⟨(t4 z).1.trans (hn2 z).1, (t4 z).2.trans (hn2 z).2⟩⟩
      cases acc with
      | none =>
        obtain ⟨a1, a2⟩ := ha
        obtain ⟨D2, u1, u2, u3, u4⟩ := hbet _ rfl rfl
        rw [if_pos a1, u1, Option.bind_some]
        exact hfin 1 _ D2 _ rfl ⟨rfl, rfl⟩ u2 u3 u4
      | some b =>
        obtain ⟨a1, a2⟩ := ha
        rw [if_neg (show ¬ v8 = 0 by rw [a1]; decide), a2]
        by_cases q : q_ov (q_op k) own le re h (q_ta sz ts o) ≤ b.1
        · rw [if_pos q, Option.bind_some]
          dsimp only
          have hp : q_pk (q_op k) own le re h (q_ta sz ts o) (some b) = some b := by
            show (if q_ov (q_op k) own le re h (q_ta sz ts o) ≤ b.1 then some b else _) = _
            rw [if_pos q]
          refine hfin v8 b.1 D1 _ hp ⟨a1, rfl⟩ k2 (fun z => ?_) (fun _ => ⟨k3 6, k3 7⟩)
          have := hch z
          exact ⟨(k3 6).trans this.1, (k3 7).trans this.2⟩
        · have hp : q_pk (q_op k) own le re h (q_ta sz ts o) (some b) = some (q_ov (q_op k) own le re h (q_ta sz ts o), q_ta sz ts o) := by
            show (if q_ov (q_op k) own le re h (q_ta sz ts o) ≤ b.1 then some b else _) = _
            rw [if_neg q]
          obtain ⟨D2, u1, u2, u3, u4⟩ := hbet _ rfl hp
          rw [if_neg q, u1, Option.bind_some]
          exact hfin 1 _ D2 _ hp ⟨rfl, rfl⟩ u2 u3 u4
    · rw [if_neg c, if_neg c, if_pos rfl, Option.bind_some]
      dsimp only
      obtain ⟨D', t1, t2, t3, t4⟩ := q80 hN hw hBP hc hown le16 re16 le7 re7 hd9 hf hh hh0 hk c6 c7 j (o + 1) m D v8 v9 acc (by omega) (by omega) ho he ha hch
      exact ⟨D', t1, t2, t3, t4⟩
  | _, _, 0, _, _, _, _, _, hm, _, _, _, _ => by omega
/-- the search -/
theorem q173 (hN : 2000 ≤ N) (hw : q_rw sz ts os) : ∀ f, q_BP (m173r N f) sz ts os f
  | 0 => fun D own d le re h r S k _ _ _ _ _ _ _ _ _ hf => by omega
  | f + 1 => fun D own d le re h r S k ho hc he hown le16 re16 le7 re7 hd9 hf hh hr hk => by
    have h9 := hw.1
    have hd9' : d ≤ 9 := by omega
    obtain ⟨h', r', e1, e2, e3, e4, e5, e6⟩ := q173_6 (N := N) hN (rec := m173r N f) hw ho hc hd9' he (Int32.ofNat h) (4 - r) r h k N (by omega) hh (by omega) (by omega)
    show ∃ D', m173b (m173r N f) N D (Int32.ofNat d) (Int32.ofNat h) (Int32.ofNat r) (Int32.ofNat S) = _ ∧ _
    unfold m173b
    rw [e1, Option.bind_some]
    dsimp only
    have hfirst : r < r' → q_fd (q_op (k - 1)) own le re h 56 0 none = none := fun q => (q_fd_none _ _ _ _ _ 56 0).mpr (fun o' _ h4 => e5 q o' (by omega))
    rcases e6 with ⟨f1, f2⟩ | ⟨f1, ⟨o', f2, f3⟩, f4⟩
    · rw [if_pos (show (4 : Int32) ≤ Int32.ofNat r' by rw [f1]; decide), q179 hN hw ho hc hh, Option.bind_some, ← f2 (by omega) h hh]
      refine ⟨D, rfl, q_f3.rf d D, fun _ => ?_⟩
      rw [hfirst (by omega)]
      exact ⟨rfl, rfl⟩
    · have hh' : h' < 4 := by omega
      -- some tile is in the hands
      have htiles : 0 < q_all (q_cnt own) := by
        have := (q_up4 hown (show o' / 2 < 28 by omega) hh' f3.1).2
        omega
      obtain ⟨g1, g2, g3, g4⟩ := q_sg4 h' hh'
      obtain ⟨k', hk'⟩ : ∃ k', k - (r' - r) = k' + 1 := ⟨k - (r' - r) - 1, by omega⟩
      have hk4 : 4 * q_all (q_cnt own) ≤ k' := by omega
      obtain ⟨D', t1, t2, t3, t4⟩ := q80 (h := h') (h0 := h) (k := k') hN hw (q173 hN hw f) hc hown le16 re16 le7 re7 hd9 hf hh' hh hk4 (D.1 99 6) (D.1 99 7) (2 * sz) 0 N D 0 0 none (by omega) (by omega) ho he ⟨rfl, rfl⟩ (fun _ => ⟨rfl, rfl⟩)
      have t1' : m173b_L80 (m173r N f) N (Int32.ofNat d) (Int32.ofNat h) (Int32.ofNat S) (Int32.ofNat h') (q_sg h') N D 0 0 0 = _ := t1
      -- from the first place on is from the first lay on
      have hall : q_fd (q_op k') own le re h' (56 - q_ta sz ts 0) (q_ta sz ts 0) none = q_fd (q_op k') own le re h' 56 0 none := by
        have hle := q_ta_le (os := os) hw 0
        have := q_fd_skip (q_op k') own le re h' (q_ta sz ts 0) (56 - q_ta sz ts 0) 0 none (fun o2 _ h2 hl => by
          have hl1 := hl.1
          have hn : ∀ i, i < sz → ts i ≠ o2 / 2 := fun i hi e => by
            have e0 : q_ta sz ts 0 = 2 * ts 0 := by
              unfold q_ta
              rw [if_pos (by omega), Nat.zero_div, Nat.zero_mod, Nat.add_zero]
            by_cases q : i = 0
            · rw [q] at e; omega
            · have := hw.2.2 0 i (by omega) hi; omega
          rw [hc.2.2 (o2 / 2) (by omega) hn] at hl1
          have := q_ofN (a := 4) (b := h') (by omega) (by omega) hl1
          omega)
        rw [show q_ta sz ts 0 + (56 - q_ta sz ts 0) = 56 by omega, Nat.zero_add] at this
        exact this.symm
      rw [hall] at t1' t3
      obtain ⟨b, hb⟩ : ∃ b, q_fd (q_op k') own le re h' 56 0 none = some b := by
        cases hfd : q_fd (q_op k') own le re h' 56 0 none with
        | none => exact absurd f3 ((q_fd_none _ _ _ _ _ 56 0).mp hfd o' (Nat.zero_le _) (by omega))
        | some b => exact ⟨b, rfl⟩
      have hop : q_op (k - (r' - r)) own le re h' r' = b.1 := by
        rw [hk']
        show (match q_fd (q_op k') own le re h' 56 0 none with
          | some b => b.1
          | none => if r' = 3 then q_bk own h' else -q_op k' own le re ((h' + 1) % 4) (r' + 1)) = _
        rw [hb]
      rw [if_neg (show ¬ (4 : Int32) ≤ Int32.ofNat r' from q_nle (a := r') (b := 4) (by omega) f1), if_pos (show Int32.ofNat d < (9 : Int32) from q_ylt (a := d) (b := 9) (by omega) (by omega)), g2]
      simp only [am_lt]
      rw [t1', Option.bind_some, hb, f4, hop]
      refine ⟨D', rfl, t2, fun z => ?_⟩
      by_cases q : r < r'
      · have hne : ¬ (d = 0 ∧ h' = h) := fun w => by
          have := w.2
          omega
        rw [hfirst q]
        exact t4 hne
      · have hrr : r' = r := by omega
        have hhh : h' = h := by omega
        have hkk : k - 1 = k' := by omega
        rw [hkk, ← hhh]
        exact t3 ⟨z, hhh⟩
end QJ
