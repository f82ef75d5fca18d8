/-! open hands: the class's search -/
section QI
variable {D : am_D} {N sz S : Nat} {ts os : Nat → Nat} {own : Nat → Int32} {rec : am_D → Int32 → Int32 → Int32 → Int32 → Option (Int32 × am_D)}
theorem q_eb_wt : ∀ t, t < 28 → ∀ e, e < 16 → e % 8 < 7 → (q_lo t = e % 8 ∨ q_hi t = e % 8) → q_eb t e % 8 = q_pip t - e % 8 ∧ m255 (Int32.ofNat t) (Int32.ofNat (q_pip t - e % 8)) = Int32.ofNat (q_wt (q_eb t e)) := by decide +kernel
/-- what the search leaves, from a depth on -/
def q_f3 (d : Nat) (D D' : am_D) : Prop := (∀ a, a ≠ 99 → a ≠ 102 → a ≠ 103 → D'.1 a = D.1 a) ∧ (∀ j, (j ≠ 6 ∧ j ≠ 7) ∨ 0 < d → D'.1 99 j = D.1 99 j) ∧ (∀ i, i < 2 * d + 2 → D'.1 102 i = D.1 102 i ∧ D'.1 103 i = D.1 103 i) ∧ D'.2 = D.2
theorem q_f3.rf (d : Nat) (D : am_D) : q_f3 d D D := ⟨fun _ _ _ _ => rfl, fun _ _ => rfl, fun _ _ => ⟨rfl, rfl⟩, rfl⟩
theorem q_f3.tr {d : Nat} {D E F : am_D} (h : q_f3 d D E) (k : q_f3 d E F) : q_f3 d D F := ⟨fun a x y z => (k.1 a x y z).trans (h.1 a x y z), fun j x => (k.2.1 j x).trans (h.2.1 j x), fun i x => ⟨(k.2.2.1 i x).1.trans (h.2.2.1 i x).1, (k.2.2.1 i x).2.trans (h.2.2.1 i x).2⟩, k.2.2.2.trans h.2.2.2⟩
theorem q_f3_ow {d : Nat} {D' : am_D} (h : q_f3 d D D') (ho : q_ow D sz ts os) : q_ow D' sz ts os := ⟨by rw [h.2.1 4 (by omega)]; exact ho.1, fun i hi => by rw [h.1 100 (by omega) (by omega) (by omega), h.1 101 (by omega) (by omega) (by omega)]; exact ho.2 i hi⟩
theorem q_f3_en {d le re : Nat} {D' : am_D} (h : q_f3 d D D') (he : q_en D d le re) : q_en D' d le re := ⟨by rw [(h.2.2.1 _ (by omega)).1]; exact he.1, by rw [(h.2.2.1 _ (by omega)).1]; exact he.2.1, by rw [(h.2.2.1 _ (by omega)).2]; exact he.2.2.1, by rw [(h.2.2.1 _ (by omega)).2]; exact he.2.2.2⟩
/-- what is chosen, ahead of the others -/
def q_ch3 (acc : Option (Int32 × Nat)) (c6 c7 : Int32) (D : am_D) : Prop := D.1 99 6 = (match acc with | none => c6 | some b => Int32.ofNat (b.2 / 2)) ∧ D.1 99 7 = (match acc with | none => c7 | some b => Int32.ofNat (b.2 % 2))
/-- what a call of the search with so much room says -/
def q_BP (rec : am_D → Int32 → Int32 → Int32 → Int32 → Option (Int32 × am_D)) (sz : Nat) (ts os : Nat → Nat) (f : Nat) : Prop := ∀ (D : am_D) (own : Nat → Int32) (d le re h r S k : Nat), q_ow D sz ts os → q_cr sz ts os own S → q_en D d le re → (∀ t, t < 28 → ∃ w, w < 5 ∧ own t = Int32.ofNat w) → le < 16 → re < 16 → le % 8 < 7 → re % 8 < 7 → d + q_all (q_cnt own) ≤ 9 → q_all (q_cnt own) < f → h < 4 → r ≤ 3 → 4 * q_all (q_cnt own) + 3 - r < k → ∃ D', rec D (Int32.ofNat d) (Int32.ofNat h) (Int32.ofNat r) (Int32.ofNat S) = some (q_sg h * q_op k own le re h r, D') ∧ q_f3 d D D' ∧ (d = 0 → q_ch3 (q_fd (q_op (k - 1)) own le re h 56 0 none) (D.1 99 6) (D.1 99 7) D')
/-- behind a lay -/
theorem q176 (hN : 2000 ≤ N) (hw : q_rw sz ts os) {f : Nat} (hBP : q_BP rec sz ts os f) (ho : q_ow D sz ts os) (hc : q_cr sz ts os own S) {d le re h i s k : Nat} (he : q_en D d le re) (hown : ∀ t, t < 28 → ∃ w, w < 5 ∧ own t = Int32.ofNat w) (le16 : le < 16) (re16 : re < 16) (le7 : le % 8 < 7) (re7 : re % 8 < 7) (hd9 : d + q_all (q_cnt own) ≤ 9) (hf : q_all (q_cnt own) < f + 1) (hh : h < 4) (hk : 4 * q_all (q_cnt own) ≤ k) (hi : i < sz) (hs : s < 2) (hlg : q_lg own le re h (2 * ts i + s)) :
    ∃ D', m176b rec N D (Int32.ofNat d) (Int32.ofNat h) (Int32.ofNat S) (Int32.ofNat i) (Int32.ofNat s) = some (q_sg h * q_ov (q_op k) own le re h (2 * ts i + s), D') ∧ q_f3 d D D' ∧ (∀ j, D'.1 99 j = D.1 99 j) := by
  have h9 := hw.1
  obtain ⟨hts, hos⟩ := hw.2.1 i hi
  have o1 : (2 * ts i + s) / 2 = ts i := by omega
  have o2 : (2 * ts i + s) % 2 = s := by omega
  have hl1 := hlg.1
  rw [o1] at hl1
  have hl2 := hlg.2
  rw [o1, o2] at hl2
  obtain ⟨hbit, hoh⟩ := (q_own_h hw hc hi hh).mp hl1
  obtain ⟨hup, hcn⟩ := q_up4 hown hts hh hl1
  have hcr := q_cr_up hw hc hi hbit
  obtain ⟨b1, b2, -⟩ := q_nb2 S hc.1 i (by omega) hbit
  obtain ⟨e, hee⟩ : ∃ e, e = (if s = 0 then le else re) := ⟨_, rfl⟩
  obtain ⟨fr, hfr⟩ : ∃ fr, fr = (if s = 0 then re else le) := ⟨_, rfl⟩
  rw [← hee] at hl2
  have e16 : e < 16 := by rw [hee]; split <;> omega
  have e7 : e % 8 < 7 := by rw [hee]; split <;> omega
  have f16 : fr < 16 := by rw [hfr]; split <;> omega
  have f7 : fr % 8 < 7 := by rw [hfr]; split <;> omega
  obtain ⟨x1, x2, x3⟩ := q_eb_ok _ hts e e16 e7 hl2
  obtain ⟨y1, y2⟩ := q_eb_wt _ hts e e16 e7 hl2
  have w1 := q_wt_le _ x1 x2
  have w2 := q_wt_le _ f16 f7
  have hd8 : d ≤ 8 := by omega
  have v1 : D.1 102 (2 * d + s) = Int32.ofNat (e % 8) := by
    rw [hee]
    obtain rfl | rfl : s = 0 ∨ s = 1 := by omega
    · exact he.1
    · exact he.2.1
  have v2 : D.1 102 (2 * d + 1 - s) = Int32.ofNat (fr % 8) := by
    rw [hfr]
    obtain rfl | rfl : s = 0 ∨ s = 1 := by omega
    · exact he.2.1
    · exact he.1
  have v3 : D.1 103 (2 * d + 1 - s) = Int32.ofNat (q_wt fr) := by
    rw [hfr]
    obtain rfl | rfl : s = 0 ∨ s = 1 := by omega
    · exact he.2.2.2
    · exact he.2.2.1
  have a2 : (2 : Int32) = Int32.ofNat 2 := rfl
  have i1 : (2 : Int32) * Int32.ofNat d + Int32.ofNat s = Int32.ofNat (2 * d + s) := by rw [a2, q_mul, q_add]
  have i2 : (2 : Int32) * Int32.ofNat d + (1 : Int32) - Int32.ofNat s = Int32.ofNat (2 * d + 1 - s) := by rw [a2, q_mul, show Int32.ofNat (2 * d) + (1 : Int32) = Int32.ofNat (2 * d + 1) from q_add _ 1, q_sub (by omega)]
  have i3 : (2 : Int32) * (Int32.ofNat d + (1 : Int32)) = Int32.ofNat (2 * (d + 1)) := by rw [show Int32.ofNat d + (1 : Int32) = Int32.ofNat (d + 1) from q_add _ 1, a2, q_mul]
  have i4 : Int32.ofNat (2 * (d + 1)) + Int32.ofNat s = Int32.ofNat (2 * (d + 1) + s) := q_add _ _
  have i5 : Int32.ofNat (2 * (d + 1)) + (1 : Int32) - Int32.ofNat s = Int32.ofNat (2 * (d + 1) + 1 - s) := by rw [show Int32.ofNat (2 * (d + 1)) + (1 : Int32) = Int32.ofNat (2 * (d + 1) + 1) from q_add _ 1, q_sub (by omega)]
  obtain ⟨D13, hD13⟩ : ∃ D13, D13 = am_uI (am_uI D 102 (2 * (d + 1) + s) (Int32.ofNat (q_pip (ts i) - e % 8))) 103 (2 * (d + 1) + s) (Int32.ofNat (q_wt (q_eb (ts i) e))) := ⟨_, rfl⟩
  have z1 : D13.1 102 (2 * d + 1 - s) = Int32.ofNat (fr % 8) := by rw [hD13, q_uI_ne _ (by omega), q_uI_at, if_neg (by omega)]; exact v2
  obtain ⟨D15, hD15⟩ : ∃ D15, D15 = am_uI D13 102 (2 * (d + 1) + 1 - s) (Int32.ofNat (fr % 8)) := ⟨_, rfl⟩
  have z2 : D15.1 103 (2 * d + 1 - s) = Int32.ofNat (q_wt fr) := by rw [hD15, q_uI_ne _ (by omega), hD13, q_uI_at, if_neg (by omega), q_uI_ne _ (by omega)]; exact v3
  obtain ⟨D17, hD17⟩ : ∃ D17, D17 = am_uI D15 103 (2 * (d + 1) + 1 - s) (Int32.ofNat (q_wt fr)) := ⟨_, rfl⟩
  have z3 : D17.1 103 (2 * d + 1 - s) = Int32.ofNat (q_wt fr) := by rw [hD17, q_uI_at, if_neg (by omega)]; exact z2
  have g0 : ∀ a, a ≠ 102 → a ≠ 103 → D17.1 a = D.1 a := fun a h1 h2 => by rw [hD17, q_uI_ne _ h2, hD15, q_uI_ne _ h1, hD13, q_uI_ne _ h2, q_uI_ne _ h1]
  have g1 : ∀ j, j < 2 * d + 2 → D17.1 102 j = D.1 102 j ∧ D17.1 103 j = D.1 103 j := fun j hj => by
    rw [hD17, hD15, hD13]
    constructor
    · rw [q_uI_ne _ (by omega), q_uI_at, if_neg (by omega), q_uI_ne _ (by omega), q_uI_at, if_neg (by omega)]
    · rw [q_uI_at, if_neg (by omega), q_uI_ne _ (by omega), q_uI_at, if_neg (by omega), q_uI_ne _ (by omega)]
  have g2 : D17.1 102 (2 * (d + 1) + s) = Int32.ofNat (q_eb (ts i) e % 8) ∧ D17.1 103 (2 * (d + 1) + s) = Int32.ofNat (q_wt (q_eb (ts i) e)) ∧ D17.1 102 (2 * (d + 1) + 1 - s) = Int32.ofNat (fr % 8) ∧ D17.1 103 (2 * (d + 1) + 1 - s) = Int32.ofNat (q_wt fr) := by
    rw [y1, hD17, hD15, hD13]
    refine ⟨?_, ?_, ?_, ?_⟩
    · rw [q_uI_ne _ (by omega), q_uI_at, if_neg (by omega), q_uI_ne _ (by omega), q_uIs]
    · rw [q_uI_at, if_neg (by omega), q_uI_ne _ (by omega), q_uIs]
    · rw [q_uI_ne _ (by omega), q_uIs]
    · rw [q_uIs]
  have ho17 : q_ow D17 sz ts os := ⟨by rw [g0 99 (by omega) (by omega)]; exact ho.1, fun i hi => by rw [g0 100 (by omega) (by omega), g0 101 (by omega) (by omega)]; exact ho.2 i hi⟩
  have hl1' : q_l1' le (2 * ts i + s) = (if s = 0 then q_eb (ts i) e else fr) ∧ q_r1' re (2 * ts i + s) = (if s = 0 then fr else q_eb (ts i) e) := by
    unfold q_l1' q_r1'
    rw [o1, o2, hee, hfr]
    obtain rfl | rfl : s = 0 ∨ s = 1 := by omega
    · simp
    · simp
  have hen17 : q_en D17 (d + 1) (q_l1' le (2 * ts i + s)) (q_r1' re (2 * ts i + s)) := by
    rw [hl1'.1, hl1'.2]
    obtain ⟨q1, q2, q3, q4⟩ := g2
    obtain rfl | rfl : s = 0 ∨ s = 1 := by omega
    · exact ⟨q1, q3, q2, q4⟩
    · exact ⟨q3, q1, q4, q2⟩
  have hgn : m256 (Int32.ofNat (q_wt (q_eb (ts i) e)) + Int32.ofNat (q_wt fr)) = Int32.ofNat (q_gn le re (2 * ts i + s)) := by
    rw [q_add, (q_fi1 _ (by omega)).1]
    unfold q_gn
    rw [hl1'.1, hl1'.2]
    obtain rfl | rfl : s = 0 ∨ s = 1 := by omega
    · rfl
    · rw [if_neg (by omega), if_neg (by omega), Nat.add_comm]
  obtain ⟨g, g3, g4, -⟩ := q_sg4 h hh
  have hun : m176b rec N D (Int32.ofNat d) (Int32.ofNat h) (Int32.ofNat S) (Int32.ofNat i) (Int32.ofNat s) = ((m177 N D17 (Int32.ofNat h) (Int32.ofNat (S ^^^ 2 ^ i))).bind fun q27 => (if q27 = 0 then ((m178 N D17 (0 : Int32) (Int32.ofNat (S ^^^ 2 ^ i))).bind fun q30 => ((m178 N D17 (1 : Int32) (Int32.ofNat (S ^^^ 2 ^ i))).bind fun q32 => (some ((q_sg h * (Int32.ofNat (q_gn le re (2 * ts i + s)) + ((q30 + q32) / (5 : Int32)))), D17)))) else ((rec D17 (Int32.ofNat (d + 1)) (Int32.ofNat ((h + 1) % 4)) (0 : Int32) (Int32.ofNat (S ^^^ 2 ^ i))).bind fun q34 => (some (((q_sg h * Int32.ofNat (q_gn le re (2 * ts i + s))) + q34.1), q34.2))))) := by
    unfold m176b
    simp only [am_lt]
    rw [i1, i2, i3, i4, i5, q_rt (D.1 100) (by omega) (show i < 9 by omega), (ho.2 i hi).1, q251 hts, q_rt (D.1 102) (by omega) (show 2 * d + s < 20 by omega), v1, q_sub x3, y2, q_rp_at _ 102 20 _ (by omega) (show 2 * (d + 1) + s < 20 by omega), q_rp_at _ 103 20 _ (by omega) (show 2 * (d + 1) + s < 20 by omega), ← hD13, q_rt (D13.1 102) (by omega) (show 2 * d + 1 - s < 20 by omega), z1, q_rp_at _ 102 20 _ (by omega) (show 2 * (d + 1) + 1 - s < 20 by omega), ← hD15, q_rt (D15.1 103) (by omega) (show 2 * d + 1 - s < 20 by omega), z2, q_rp_at _ 103 20 _ (by omega) (show 2 * (d + 1) + 1 - s < 20 by omega), ← hD17, q_rt (D17.1 103) (by omega) (show 2 * d + 1 - s < 20 by omega), z3, hgn, b1, g3, g4, show Int32.ofNat d + (1 : Int32) = Int32.ofNat (d + 1) from q_add _ 1]
  rw [hun, q177 hN hw ho17 hcr hh, Option.bind_some]
  by_cases hemp : q_cnt (upd own (ts i) (Int32.ofNat 4)) (Int32.ofNat h) = 0
  · have hall := q_all_le (upd own (ts i) (Int32.ofNat 4))
    have e0 := q178 hN hw ho17 hcr (h := 0) (by omega)
    have e1 := q178 hN hw ho17 hcr (h := 1) (by omega)
    have e0' : m178 N D17 (0 : Int32) (Int32.ofNat (S ^^^ 2 ^ i)) = _ := e0
    have e1' : m178 N D17 (1 : Int32) (Int32.ofNat (S ^^^ 2 ^ i)) = _ := e1
    rw [hemp, if_pos (show Int32.ofNat 0 = 0 from rfl), e0', Option.bind_some, e1', Option.bind_some, q_add, show (5 : Int32) = Int32.ofNat 5 from rfl]
    have es : q_pips (upd own (ts i) (Int32.ofNat 4)) (Int32.ofNat 0) + q_pips (upd own (ts i) (Int32.ofNat 4)) (Int32.ofNat (0 + 2)) + (q_pips (upd own (ts i) (Int32.ofNat 4)) (Int32.ofNat 1) + q_pips (upd own (ts i) (Int32.ofNat 4)) (Int32.ofNat (1 + 2))) = q_all (q_pips (upd own (ts i) (Int32.ofNat 4))) := by
      rw [q_all_eq]
      show q_pips _ (Int32.ofNat 0) + q_pips _ (Int32.ofNat 2) + (q_pips _ (Int32.ofNat 1) + q_pips _ (Int32.ofNat 3)) = _
      omega
    rw [es, q_div (by omega) (by omega)]
    have hov : q_ov (q_op k) own le re h (2 * ts i + s) = Int32.ofNat (q_gn le re (2 * ts i + s)) + Int32.ofNat (q_all (q_pips (upd own (ts i) (Int32.ofNat 4))) / 5) := by
      unfold q_ov
      rw [o1, if_pos hemp]
    rw [hov]
    exact ⟨D17, rfl, ⟨fun a h1 h2 h3 => g0 a h2 h3, fun j _ => by rw [g0 99 (by omega) (by omega)], g1, by rw [hD17, hD15, hD13]; rfl⟩, fun j => by rw [g0 99 (by omega) (by omega)]⟩
  · have hcl := q_cnt_le (upd own (ts i) (Int32.ofNat 4)) (Int32.ofNat h)
    have hll : q_l1' le (2 * ts i + s) < 16 ∧ q_l1' le (2 * ts i + s) % 8 < 7 ∧ q_r1' re (2 * ts i + s) < 16 ∧ q_r1' re (2 * ts i + s) % 8 < 7 := by
      rw [hl1'.1, hl1'.2]
      by_cases c : s = 0
      · rw [if_pos c, if_pos c]; exact ⟨x1, x2, f16, f7⟩
      · rw [if_neg c, if_neg c]; exact ⟨f16, f7, x1, x2⟩
    obtain ⟨E, k1, k2, -⟩ := hBP D17 (upd own (ts i) (Int32.ofNat 4)) (d + 1) (q_l1' le (2 * ts i + s)) (q_r1' re (2 * ts i + s)) ((h + 1) % 4) 0 (S ^^^ 2 ^ i) k ho17 hcr hen17 hup hll.1 hll.2.2.1 hll.2.1 hll.2.2.2 (by omega) (by omega) (by omega) (by omega) (by omega)
    have k1' : rec D17 (Int32.ofNat (d + 1)) (Int32.ofNat ((h + 1) % 4)) (0 : Int32) (Int32.ofNat (S ^^^ 2 ^ i)) = _ := k1
    rw [if_neg (show ¬ Int32.ofNat (q_cnt (upd own (ts i) (Int32.ofNat 4)) (Int32.ofNat h)) = 0 from fun q => hemp (q_ofN (b := 0) (by omega) (by omega) q)), k1', Option.bind_some]
    have hov : q_ov (q_op k) own le re h (2 * ts i + s) = Int32.ofNat (q_gn le re (2 * ts i + s)) + -(q_op k (upd own (ts i) (Int32.ofNat 4)) (q_l1' le (2 * ts i + s)) (q_r1' re (2 * ts i + s)) ((h + 1) % 4) 0) := by
      unfold q_ov
      rw [o1, if_neg hemp]
    rw [hov, Int32.mul_add, Int32.mul_neg, ← Int32.neg_mul, ← g]
    refine ⟨E, rfl, ⟨fun a h1 h2 h3 => by rw [k2.1 a h1 h2 h3]; exact g0 a h2 h3, fun j _ => by rw [k2.2.1 j (by omega), g0 99 (by omega) (by omega)], fun j hj => ?_, by rw [k2.2.2.2, hD17, hD15, hD13]; rfl⟩, fun j => by rw [k2.2.1 j (by omega), g0 99 (by omega) (by omega)]⟩
    rw [(k2.2.2.1 j (by omega)).1, (k2.2.2.1 j (by omega)).2]
    exact g1 j hj
end QI
