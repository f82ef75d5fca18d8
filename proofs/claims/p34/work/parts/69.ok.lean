/-! deals: the model counts, tile by tile, one tile to a certain hand or none -/
section OK
variable {D : am_D} {N n p : Nat} {T V : Nat → Nat}
theorem q_can_m : ∀ m, m < 128 → ∀ t, t < 28 → (((Int32.ofNat m >>> (Int32.ofNat (q_lo t) &&& 31)) ||| (Int32.ofNat m >>> (Int32.ofNat (q_hi t) &&& 31))) &&& 1 = 0 ↔ q_can m t = 1) := by decide +kernel
theorem q120 (hB : q_B D) (hK : q_K D n p T V) {o t : Nat} (ho : o < 4) (ht : t < 28) : m120 D (Int32.ofNat o) (Int32.ofNat t) = some (Int32.ofNat (q_can (q_lkm D o) t)) := by
  obtain ⟨e1, e2⟩ := q_lkm_ok hK ho
  obtain ⟨b1, b2⟩ := hB t ht
  have i17 : 0 ≤ Int32.ofNat (17 + o) ∧ Int32.ofNat (17 + o) < 1320 := q_in (n := 1320) (by omega) (by omega)
  have i28 : 0 ≤ Int32.ofNat t ∧ Int32.ofNat t < 28 := q_in (n := 28) (by omega) ht
  have hc := q_can_m _ e2 t ht
  have hle := q_can_le (q_lkm D o) t
  unfold m120
  rw [show (17 : Int32) + Int32.ofNat o = Int32.ofNat (17 + o) by rw [q_l17, q_add]]
  simp only [i17, i28, and_self, if_true]
  rw [q_tn (by omega), q_tn (by omega), e1, b1, b2]
  by_cases c : q_can (q_lkm D o) t = 1
  · rw [if_pos (hc.mpr c), c]; rfl
  · rw [if_neg (fun q => c (hc.mp q)), show q_can (q_lkm D o) t = 0 by omega]; rfl
/-- whether a tile can come to a hand, where one certain tile comes to a certain hand -/
def q_pm (D : am_D) (r h : Int32) (o t : Nat) : Nat := if Int32.ofNat t = r ∧ ¬ h = Int32.ofNat o then 0 else q_can (q_lkm D o) t
theorem q_pm_le (D : am_D) (r h : Int32) (o t : Nat) : q_pm D r h o t ≤ 1 := by
  have := q_can_le (q_lkm D o) t
  unfold q_pm
  split <;> omega
/-- the new number of a place -/
def q_nw (J : Nat → Nat) (g n3 u1 u2 u3 i : Nat) : Nat := if i / 8 + i % 8 ≤ g + 1 ∧ g + 1 - (i / 8 + i % 8) ≤ n3 then (if u3 = 1 ∧ 1 ≤ g + 1 - (i / 8 + i % 8) then J i else 0) + (if u1 = 1 ∧ 0 < i / 8 then J (i - 8) else 0) + (if u2 = 1 ∧ 0 < i % 8 then J (i - 1) else 0) else 0
theorem q46m {c a b : Nat} (hc : c < 1000) (ha : a < 1000) (hb : b < 1000) : m46 (Int32.ofNat c) (Int32.ofNat a) (Int32.ofNat b) = if a ≤ c ∧ c ≤ b then 1 else 0 := q248 hc ha hb
theorem q46g {v : Int32} {a : Nat} {w : Int32} (ha : a < 1000) (h : v < 0) : m46 v (Int32.ofNat a) w = 0 := by
  unfold m46
  refine if_pos ?_
  rw [Int32.lt_iff_toInt_lt] at h ⊢
  rw [q_ti (by omega)]
  have : (0 : Int32).toInt = 0 := rfl
  omega
theorem q122_L {J : Nat → Nat} {g n3 u1 u2 u3 : Nat} (hg : g < 100) (hn : n3 < 100) (h1 : u1 ≤ 1) (h2 : u2 ≤ 1) (h3 : u3 ≤ 1) : ∀ (k m : Nat) (E : am_D), k ≤ 64 → k < m → (∀ i, i < k → E.1 111 i = Int32.ofNat (J i)) → ∃ E', m122_L112 N (Int32.ofNat g) (Int32.ofNat n3) (Int32.ofNat u1) (Int32.ofNat u2) (Int32.ofNat u3) m E (Int32.ofNat k + -1) = some E' ∧ (∀ i, E'.1 111 i = if i < k then Int32.ofNat (q_nw J g n3 u1 u2 u3 i) else E.1 111 i) ∧ (∀ a, a ≠ 111 → E'.1 a = E.1 a) ∧ E'.2 = E.2
  | 0, m + 1, E, hk, hm, hJ => by
    rw [m122_L112, if_pos (show Int32.ofNat 0 + -1 < 0 by decide)]
    exact ⟨E, rfl, fun i => by rw [if_neg (by omega)], fun _ _ => rfl, rfl⟩
  | k + 1, m + 1, E, hk, hm, hJ => by
    have hk64 : k < 64 := by omega
    have i64 : ∀ j, j < 64 → 0 ≤ Int32.ofNat j ∧ Int32.ofNat j < 64 := fun j hj => q_in (n := 64) (by omega) hj
    rw [m122_L112, q_dec, if_neg (show ¬ Int32.ofNat k < 0 from q_nlt (a := 0) (b := k) (by omega) (by omega)), show (8 : Int32) = Int32.ofNat 8 from rfl, q_mod (by omega) (by omega), q_div (by omega) (by omega)]
    simp only [am_lt]
    rw [show Int32.ofNat g + 1 = Int32.ofNat (g + 1) from q_add g 1, q_ssub]
    have t1 : (if Int32.ofNat u3 = 0 then (some (0 : Int32)) else (if (m46 (Int32.ofNat (g + 1) - Int32.ofNat (k / 8 + k % 8)) (1 : Int32) (Int32.ofNat n3)) = 0 then (some (0 : Int32)) else (if 0 ≤ Int32.ofNat k ∧ Int32.ofNat k < 64 then (some (E.1 111 (Int32.ofNat k).toNatClampNeg)) else none))) = some (Int32.ofNat (if u3 = 1 ∧ 1 ≤ g + 1 - (k / 8 + k % 8) ∧ g + 1 - (k / 8 + k % 8) ≤ n3 then J k else 0)) := by
      by_cases c : u3 = 1
      · rw [if_neg (show ¬ Int32.ofNat u3 = 0 by rw [c]; decide)]
        by_cases d : k / 8 + k % 8 ≤ g + 1
        · rw [q_sub d, show (1 : Int32) = Int32.ofNat 1 from rfl, q46m (by omega) (by omega) (by omega)]
          by_cases e : 1 ≤ g + 1 - (k / 8 + k % 8) ∧ g + 1 - (k / 8 + k % 8) ≤ n3
          · rw [if_pos e, if_neg (show ¬ (1 : Int32) = 0 by decide), if_pos (i64 k hk64), if_pos ⟨c, e⟩, q_tn (by omega), hJ k (by omega)]
          · rw [if_neg e, if_pos rfl, if_neg (fun q => e q.2)]; rfl
        · rw [show (1 : Int32) = Int32.ofNat 1 from rfl, q46g (by omega) (q_dlt (by omega) (by omega)), if_pos rfl, if_neg (by omega)]; rfl
      · rw [if_pos (show Int32.ofNat u3 = 0 by rw [show u3 = 0 by omega]; rfl), if_neg (fun q => c q.1)]; rfl
    have t2 : (if Int32.ofNat u1 = 0 then (some (0 : Int32)) else (if Int32.ofNat (k / 8) ≤ 0 then (some (0 : Int32)) else (if 0 ≤ (Int32.ofNat k - Int32.ofNat 8) ∧ (Int32.ofNat k - Int32.ofNat 8) < 64 then (some (E.1 111 ((Int32.ofNat k - Int32.ofNat 8)).toNatClampNeg)) else none))) = some (Int32.ofNat (if u1 = 1 ∧ 0 < k / 8 then J (k - 8) else 0)) := by
      by_cases c : u1 = 1
      · rw [if_neg (show ¬ Int32.ofNat u1 = 0 by rw [c]; decide)]
        by_cases d : 0 < k / 8
        · rw [if_neg (show ¬ Int32.ofNat (k / 8) ≤ 0 from q_nle (a := 0) (b := k / 8) (by omega) d), q_sub (show 8 ≤ k by omega), if_pos (i64 (k - 8) (by omega)), if_pos ⟨c, d⟩, q_tn (by omega), hJ (k - 8) (by omega)]
        · rw [if_pos (show Int32.ofNat (k / 8) ≤ 0 from q_yle (a := k / 8) (b := 0) (by omega) (by omega)), if_neg (fun q => d q.2)]; rfl
      · rw [if_pos (show Int32.ofNat u1 = 0 by rw [show u1 = 0 by omega]; rfl), if_neg (fun q => c q.1)]; rfl
    have t3 : (if Int32.ofNat u2 = 0 then (some (0 : Int32)) else (if Int32.ofNat (k % 8) ≤ 0 then (some (0 : Int32)) else (if 0 ≤ (Int32.ofNat k - (1 : Int32)) ∧ (Int32.ofNat k - (1 : Int32)) < 64 then (some (E.1 111 ((Int32.ofNat k - (1 : Int32))).toNatClampNeg)) else none))) = some (Int32.ofNat (if u2 = 1 ∧ 0 < k % 8 then J (k - 1) else 0)) := by
      by_cases c : u2 = 1
      · rw [if_neg (show ¬ Int32.ofNat u2 = 0 by rw [c]; decide)]
        by_cases d : 0 < k % 8
        · rw [if_neg (show ¬ Int32.ofNat (k % 8) ≤ 0 from q_nle (a := 0) (b := k % 8) (by omega) d), show Int32.ofNat k - (1 : Int32) = Int32.ofNat (k - 1) from q_sub (a := k) (b := 1) (by omega), if_pos (i64 (k - 1) (by omega)), if_pos ⟨c, d⟩, q_tn (by omega), hJ (k - 1) (by omega)]
        · rw [if_pos (show Int32.ofNat (k % 8) ≤ 0 from q_yle (a := k % 8) (b := 0) (by omega) (by omega)), if_neg (fun q => d q.2)]; rfl
      · rw [if_pos (show Int32.ofNat u2 = 0 by rw [show u2 = 0 by omega]; rfl), if_neg (fun q => c q.1)]; rfl
    have t4 : (if m46 (Int32.ofNat (g + 1) - Int32.ofNat (k / 8 + k % 8)) (0 : Int32) (Int32.ofNat n3) = 0 then (0 : Int32) else (Int32.ofNat (if u3 = 1 ∧ 1 ≤ g + 1 - (k / 8 + k % 8) ∧ g + 1 - (k / 8 + k % 8) ≤ n3 then J k else 0) + Int32.ofNat (if u1 = 1 ∧ 0 < k / 8 then J (k - 8) else 0) + Int32.ofNat (if u2 = 1 ∧ 0 < k % 8 then J (k - 1) else 0))) = Int32.ofNat (q_nw J g n3 u1 u2 u3 k) := by
      rw [q_add, q_add]
      unfold q_nw
      by_cases d : k / 8 + k % 8 ≤ g + 1
      · rw [q_sub d, show (0 : Int32) = Int32.ofNat 0 from rfl, q46m (by omega) (by omega) (by omega)]
        by_cases e : g + 1 - (k / 8 + k % 8) ≤ n3
        · rw [if_pos (show 0 ≤ g + 1 - (k / 8 + k % 8) ∧ g + 1 - (k / 8 + k % 8) ≤ n3 from ⟨by omega, e⟩), if_neg (show ¬ (1 : Int32) = Int32.ofNat 0 by decide), if_pos (show k / 8 + k % 8 ≤ g + 1 ∧ g + 1 - (k / 8 + k % 8) ≤ n3 from ⟨d, e⟩)]
          congr 3
          by_cases f : u3 = 1 ∧ 1 ≤ g + 1 - (k / 8 + k % 8)
          · rw [if_pos ⟨f.1, f.2, e⟩, if_pos f]
          · rw [if_neg (fun q => f ⟨q.1, q.2.1⟩), if_neg f]
        · rw [if_neg (show ¬ (0 ≤ g + 1 - (k / 8 + k % 8) ∧ g + 1 - (k / 8 + k % 8) ≤ n3) from fun q => e q.2), if_pos (show (0 : Int32) = Int32.ofNat 0 from rfl), if_neg (fun q => e q.2)]
      · rw [show (0 : Int32) = Int32.ofNat 0 from rfl, q46g (by omega) (q_dlt (by omega) (by omega)), if_pos (show (0 : Int32) = Int32.ofNat 0 from rfl), if_neg (fun q => d q.1)]
    rw [t1, Option.bind_some, t2, Option.bind_some, t3, Option.bind_some, t4, if_pos (i64 k hk64), q_tn (by omega)]
    obtain ⟨E', e1, e2, e3, e4⟩ := q122_L hg hn h1 h2 h3 k m (am_uI E 111 k (Int32.ofNat (q_nw J g n3 u1 u2 u3 k))) (by omega) (by omega) (fun i hi => by rw [q_uI_at, if_neg (by omega)]; exact hJ i (by omega))
    refine ⟨E', e1, fun i => ?_, fun a ha => by rw [e3 a ha, q_uI_ne _ ha], e4⟩
    rw [e2, q_uI_at]
    by_cases c : i < k
    · rw [if_pos c, if_pos (by omega)]
    · rw [if_neg c]
      by_cases d : i = k
      · rw [if_pos ⟨rfl, d⟩, if_pos (by omega), d]
      · rw [if_neg (fun q => d q.2), if_neg (by omega)]
  | _, 0, _, _, hm, _ => by omega
/-- the j-th of the others, in the model's order -/
def q_ot (x j : Nat) : Nat := if j < x then j else j + 1
theorem q_ot4 {x j : Nat} (hj : j < 3) : q_ot x j < 4 := by unfold q_ot; split <;> omega
/-- one tile more, in the model -/
theorem q122 (hN : 2000 ≤ N) {J : Nat → Nat} {g n3 x t : Nat} {r h : Int32} (hg : g < 100) (hn : n3 < 100) (ht : t < 28) {E : am_D} (hB : q_B E) (hK : q_K E n p T V) (h112 : ∀ j, j < 3 → E.1 112 j = Int32.ofNat (q_ot x j)) (hr : Int32.ofNat t = r → ∃ w, w < 4 ∧ h = Int32.ofNat w) (hJ : ∀ i, i < 64 → E.1 111 i = Int32.ofNat (J i)) : ∃ E', m122 N E (Int32.ofNat t) (if Int32.ofNat t = r then h else -1) (Int32.ofNat g) (Int32.ofNat n3) = some E' ∧ (∀ i, i < 64 → E'.1 111 i = Int32.ofNat (q_nw J g n3 (q_pm E r h (q_ot x 0) t) (q_pm E r h (q_ot x 1) t) (q_pm E r h (q_ot x 2) t) i)) ∧ (∀ a, a ≠ 111 → E'.1 a = E.1 a) ∧ E'.2 = E.2 := by
  have hq : ∀ j, j < 3 → (if (if Int32.ofNat t = r then h else -1) = (-1 : Int32) then ((m120 E (E.1 112 j) (Int32.ofNat t)).bind fun q5 => (if q5 = 0 then (some (0 : Int32)) else (some (1 : Int32)))) else (if (if Int32.ofNat t = r then h else -1) = (E.1 112 j) then ((m120 E (E.1 112 j) (Int32.ofNat t)).bind fun q9 => (if q9 = 0 then (some (0 : Int32)) else (some (1 : Int32)))) else (some (0 : Int32)))) = some (Int32.ofNat (q_pm E r h (q_ot x j) t)) := fun j hj => by
    have ho := q_ot4 (x := x) hj
    have hle := q_can_le (q_lkm E (q_ot x j)) t
    have e120 : ((m120 E (E.1 112 j) (Int32.ofNat t)).bind fun q5 => (if q5 = 0 then (some (0 : Int32)) else (some (1 : Int32)))) = some (Int32.ofNat (q_can (q_lkm E (q_ot x j)) t)) := by
      rw [h112 j hj, q120 hB hK ho ht, Option.bind_some]
      by_cases c : q_can (q_lkm E (q_ot x j)) t = 1
      · rw [c]; rfl
      · rw [show q_can (q_lkm E (q_ot x j)) t = 0 by omega]; rfl
    rw [e120]
    unfold q_pm
    by_cases c : Int32.ofNat t = r
    · obtain ⟨w, hw, rfl⟩ := hr c
      rw [if_pos c, if_neg (q_nm (by omega)), h112 j hj]
      by_cases d : Int32.ofNat w = Int32.ofNat (q_ot x j)
      · rw [if_pos d, if_neg (fun q => q.2 d)]
      · rw [if_neg d, if_pos ⟨c, d⟩]; rfl
    · rw [if_neg c, if_pos rfl, if_neg (fun q => c q.1)]
  obtain ⟨E', e1, e2, e3, e4⟩ := q122_L (N := N) (J := J) hg hn (q_pm_le E r h (q_ot x 0) t) (q_pm_le E r h (q_ot x 1) t) (q_pm_le E r h (q_ot x 2) t) 64 N E (by omega) (by omega) hJ
  refine ⟨E', ?_, fun i hi => by rw [e2, if_pos hi], e3, e4⟩
  unfold m122
  rw [hq 0 (by omega), Option.bind_some, hq 1 (by omega), Option.bind_some, hq 2 (by omega), Option.bind_some]
  have e1' : m122_L112 N (Int32.ofNat g) (Int32.ofNat n3) (Int32.ofNat (q_pm E r h (q_ot x 0) t)) (Int32.ofNat (q_pm E r h (q_ot x 1) t)) (Int32.ofNat (q_pm E r h (q_ot x 2) t)) N E 63 = some E' := e1
  rw [e1', Option.bind_some]
end OK
