/-! deals: the class counts by kinds -/
section OF
variable {D : am_D} {N : Nat}
theorem q_jadd (a b : Nat) : Int64.ofNat a + Int64.ofNat b = Int64.ofNat (a + b) := (Int64.ofNat_add a b).symm
theorem q_jmul (a b : Nat) : Int64.ofNat a * Int64.ofNat b = Int64.ofNat (a * b) := (Int64.ofNat_mul a b).symm
theorem q_dlt {a b : Nat} (h : a < b) (hb : b < 2147483648) : Int32.ofNat a - Int32.ofNat b < 0 := by
  rw [q_sneg (by omega), Int32.lt_iff_toInt_lt, q_neg (by omega)]
  show -((b - a : Nat) : Int) < 0
  omega
theorem q_sac (a b c : Int32) : a - b + c = a + c - b := by
  rw [Int32.sub_eq_add_neg, Int32.sub_eq_add_neg, Int32.add_assoc, Int32.add_assoc, Int32.add_comm (-b) c]
/-- the table of choices -/
def q_tb (D : am_D) : Prop := ∀ f, f < 22 → ∀ t, t ≤ f → D.2.1 98 (f * 22 + t) = Int64.ofNat (q_bin f t)
theorem q198 (hD : q_tb D) {f t : Nat} (hf : f < 22) (ht : t < 1000) : m198 D (Int32.ofNat f) (Int32.ofNat t) = some (Int64.ofNat (q_bin f t)) := by
  unfold m198
  rw [if_neg (show ¬ Int32.ofNat f < 0 from q_nlt (a := 0) (b := f) (by omega) (by omega)), if_neg (show ¬ (22 : Int32) ≤ Int32.ofNat f from q_nle (a := f) (b := 22) (by omega) (by omega)), if_neg (show ¬ Int32.ofNat t < 0 from q_nlt (a := 0) (b := t) (by omega) (by omega))]
  by_cases c : t ≤ f
  · rw [if_pos (q_yle (by omega) c), show (22 : Int32) = Int32.ofNat 22 from rfl, q_mul, q_add]
    simp only [am_lt]
    have h484 : f * 22 + t < 484 := by omega
    rw [if_neg (show ¬ (484 : Int32) ≤ Int32.ofNat (f * 22 + t) from q_nle (a := f * 22 + t) (b := 484) (by omega) h484), if_pos (show 0 ≤ Int32.ofNat (f * 22 + t) ∧ Int32.ofNat (f * 22 + t) < 484 from q_in (n := 484) (by omega) h484), q_tn (by omega), hD f hf t c]
  · rw [if_neg (show ¬ Int32.ofNat t ≤ Int32.ofNat f from q_nle (by omega) (by omega)), q_bin_gt f t (by omega)]
theorem q198n {v1 v2 : Int32} (h : v1 < 0) : m198 D v1 v2 = some (Int64.ofNat 0) := by
  unfold m198
  rw [if_pos h]
theorem q_S_mul (c : Nat) (f : Nat → Nat) : ∀ (k i : Nat), q_S (fun t => c * f t) i k = c * q_S f i k
  | 0, _ => rfl
  | k + 1, i => by
    show c * f i + q_S (fun t => c * f t) (i + 1) k = c * (f i + q_S f (i + 1) k)
    rw [q_S_mul c f k (i + 1), Nat.mul_add]
theorem q197_1 (hD : q_tb D) {o w z5 z6 z7 m : Nat} (ho : o < 100) (hw : w < 100) (h5 : z5 < 22) (h6 : z6 < 22) (h7 : z7 < 22) (hm : m ≤ o) (hm5 : m ≤ z5) : ∀ (k y acc n : Nat), y + k = z6 + 1 → k < n → m197_L52 N D (Int32.ofNat o) (Int32.ofNat w) (Int32.ofNat z5) (Int32.ofNat z6) (Int32.ofNat z7) (Int32.ofNat m) n (Int64.ofNat acc) (Int32.ofNat y) = some (Int64.ofNat (acc + q_S (fun y => q_bin z5 m * (q_bin z6 y * (if y ≤ w then q_bin z7 (o - m) * q_bin (z7 - (o - m)) (w - y) else 0))) y k))
  | 0, y, acc, n + 1, hy, hn => by
    rw [m197_L52, if_pos (q_ylt (by omega) (by omega))]
    rfl
  | k + 1, y, acc, n + 1, hy, hn => by
    rw [m197_L52, if_neg (q_nlt (by omega) (show y ≤ z6 by omega))]
    by_cases c : y ≤ w
    · rw [if_neg (q_nlt (by omega) c), q198 hD h5 (by omega), Option.bind_some, q198 hD h6 (by omega), Option.bind_some]
      simp only [am_lt]
      rw [q_sub (show m ≤ o from hm), q198 hD h7 (by omega), Option.bind_some, q_sub c, q_sac, q_add]
      have h8 : m198 D (Int32.ofNat (z7 + m) - Int32.ofNat o) (Int32.ofNat (w - y)) = some (Int64.ofNat (if o ≤ z7 + m then q_bin (z7 - (o - m)) (w - y) else 0)) := by
        by_cases d : o ≤ z7 + m
        · rw [if_pos d, q_sub d, show z7 + m - o = z7 - (o - m) by omega]
          exact q198 hD (by omega) (by omega)
        · rw [if_neg d]
          exact q198n (q_dlt (by omega) (by omega))
      rw [h8, Option.bind_some, q_jmul, q_jmul, q_jmul, q_jadd, show Int32.ofNat y + 1 = Int32.ofNat (y + 1) from q_add y 1, q197_1 hD ho hw h5 h6 h7 hm hm5 k (y + 1) _ n (by omega) (by omega)]
      congr 2
      show _ = acc + (q_bin z5 m * (q_bin z6 y * (if y ≤ w then q_bin z7 (o - m) * q_bin (z7 - (o - m)) (w - y) else 0)) + q_S (fun y => q_bin z5 m * (q_bin z6 y * (if y ≤ w then q_bin z7 (o - m) * q_bin (z7 - (o - m)) (w - y) else 0))) (y + 1) k)
      rw [if_pos c]
      have e : q_bin z5 m * q_bin z6 y * q_bin z7 (o - m) * (if o ≤ z7 + m then q_bin (z7 - (o - m)) (w - y) else 0) = q_bin z5 m * (q_bin z6 y * (q_bin z7 (o - m) * q_bin (z7 - (o - m)) (w - y))) := by
        by_cases d : o ≤ z7 + m
        · rw [if_pos d, Nat.mul_assoc, Nat.mul_assoc]
        · rw [if_neg d, q_bin_gt z7 (o - m) (by omega), Nat.mul_zero, Nat.zero_mul, Nat.mul_zero, Nat.mul_zero]
      rw [e, Nat.add_assoc]
    · rw [if_pos (q_ylt (by omega) (by omega))]
      have e : q_S (fun y => q_bin z5 m * (q_bin z6 y * (if y ≤ w then q_bin z7 (o - m) * q_bin (z7 - (o - m)) (w - y) else 0))) y (k + 1) = 0 := (q_S_zero _ _).mpr (fun t ht _ => by rw [if_neg (by omega), Nat.mul_zero, Nat.mul_zero])
      rw [e, Nat.add_zero]
  | _, _, _, 0, _, hn => by omega
theorem q197_2 (hD : q_tb D) (hN : 2000 ≤ N) {o w z5 z6 z7 : Nat} (ho : o < 100) (hw : w < 100) (h5 : z5 < 22) (h6 : z6 < 22) (h7 : z7 < 22) : ∀ (k m acc n : Nat), m + k = z5 + 1 → k < n → m197_L37 N D (Int32.ofNat o) (Int32.ofNat w) (Int32.ofNat z5) (Int32.ofNat z6) (Int32.ofNat z7) n (Int64.ofNat acc) (Int32.ofNat m) = some (Int64.ofNat (acc + q_S (fun m => q_bin z5 m * (if m ≤ o then q_S (fun y => q_bin z6 y * (if y ≤ w then q_bin z7 (o - m) * q_bin (z7 - (o - m)) (w - y) else 0)) 0 (z6 + 1) else 0)) m k))
  | 0, m, acc, n + 1, hy, hn => by
    rw [m197_L37, if_pos (q_ylt (by omega) (by omega))]
    rfl
  | k + 1, m, acc, n + 1, hy, hn => by
    rw [m197_L37, if_neg (q_nlt (by omega) (show m ≤ z5 by omega))]
    by_cases c : m ≤ o
    · have h0 := q197_1 (N := N) hD ho hw h5 h6 h7 c (by omega) (z6 + 1) 0 acc N (by omega) (by omega)
      have h0' : m197_L52 N D (Int32.ofNat o) (Int32.ofNat w) (Int32.ofNat z5) (Int32.ofNat z6) (Int32.ofNat z7) (Int32.ofNat m) N (Int64.ofNat acc) 0 = _ := h0
      rw [if_neg (q_nlt (by omega) c), h0', Option.bind_some]
      simp only [am_lt]
      rw [show Int32.ofNat m + 1 = Int32.ofNat (m + 1) from q_add m 1, q197_2 hD hN ho hw h5 h6 h7 k (m + 1) _ n (by omega) (by omega), q_S_mul]
      congr 2
      show _ = acc + (q_bin z5 m * (if m ≤ o then q_S (fun y => q_bin z6 y * (if y ≤ w then q_bin z7 (o - m) * q_bin (z7 - (o - m)) (w - y) else 0)) 0 (z6 + 1) else 0) + q_S _ (m + 1) k)
      rw [if_pos c, Nat.add_assoc]
    · rw [if_pos (q_ylt (by omega) (by omega))]
      have e : q_S (fun m => q_bin z5 m * (if m ≤ o then q_S (fun y => q_bin z6 y * (if y ≤ w then q_bin z7 (o - m) * q_bin (z7 - (o - m)) (w - y) else 0)) 0 (z6 + 1) else 0)) m (k + 1) = 0 := (q_S_zero _ _).mpr (fun t ht _ => by rw [if_neg (by omega), Nat.mul_zero])
      rw [e, Nat.add_zero]
  | _, _, _, 0, _, hn => by omega
theorem q197_n (hN : 2000 ≤ N) {o z5 z6 z7 : Nat} {v2 : Int32} (hv : v2 < 0) (h5 : z5 < 22) (h6 : z6 < 22) : ∀ (k m acc n : Nat), m + k = z5 + 1 → k < n → m197_L37 N D (Int32.ofNat o) v2 (Int32.ofNat z5) (Int32.ofNat z6) (Int32.ofNat z7) n (Int64.ofNat acc) (Int32.ofNat m) = some (Int64.ofNat acc)
  | 0, m, acc, n + 1, hy, hn => by
    rw [m197_L37, if_pos (q_ylt (by omega) (by omega))]
  | k + 1, m, acc, n + 1, hy, hn => by
    rw [m197_L37, if_neg (q_nlt (by omega) (show m ≤ z5 by omega))]
    have e : m197_L52 N D (Int32.ofNat o) v2 (Int32.ofNat z5) (Int32.ofNat z6) (Int32.ofNat z7) (Int32.ofNat m) N (Int64.ofNat acc) 0 = some (Int64.ofNat acc) := by
      obtain ⟨N', rfl⟩ : ∃ N', N = N' + 1 := ⟨N - 1, by omega⟩
      rw [m197_L52, if_neg (show ¬ Int32.ofNat z6 < 0 from q_nlt (a := 0) (b := z6) (by omega) (by omega)), if_pos hv]
    rw [e, Option.bind_some]
    simp only [am_lt]
    rw [show Int32.ofNat m + 1 = Int32.ofNat (m + 1) from q_add m 1, q197_n hN hv h5 h6 k (m + 1) acc n (by omega) (by omega), ite_self]
  | _, _, _, 0, _, hn => by omega
/-- how many of each kind there are, what the first two need -/
def q_kz (D : am_D) (z : Nat → Nat) : Prop := ∀ k, k < 8 → D.1 96 k = Int32.ofNat (z k) ∧ z k < 22
theorem q_kz_r {z : Nat → Nat} (h : q_kz D z) {k : Nat} (hk : k < 8) : am_rat (D.1 96) 8 (Int32.ofNat k) = Int32.ofNat (z k) := by
  rw [q_rt _ (by omega) hk]
  exact (h k hk).1
theorem q197 (hD : q_tb D) (hN : 2000 ≤ N) {z : Nat → Nat} (hz : q_kz D z) {o w : Nat} (ho : o < 100) (hw : w < 100) : m197 N D (Int32.ofNat o) (Int32.ofNat w) = some (Int64.ofNat (q_bt2 (z 5) (z 6) (z 7) o w)) := by
  have h0 := q197_2 (N := N) hD hN ho hw (hz 5 (by omega)).2 (hz 6 (by omega)).2 (hz 7 (by omega)).2 (z 5 + 1) 0 0 N (by omega) (by have := (hz 5 (by omega)).2; omega)
  have h0' : m197_L37 N D (Int32.ofNat o) (Int32.ofNat w) (Int32.ofNat (z 5)) (Int32.ofNat (z 6)) (Int32.ofNat (z 7)) N (Int64.ofNat 0) 0 = _ := h0
  unfold m197 q_bt2
  simp only [am_lt]
  rw [show (5 : Int32) = Int32.ofNat 5 from rfl, show (6 : Int32) = Int32.ofNat 6 from rfl, show (7 : Int32) = Int32.ofNat 7 from rfl, q_kz_r hz (by omega), q_kz_r hz (by omega), q_kz_r hz (by omega), h0', Option.bind_some, Nat.zero_add]
theorem q197' (hN : 2000 ≤ N) {z : Nat → Nat} (hz : q_kz D z) {o : Nat} {v2 : Int32} (hv : v2 < 0) : m197 N D (Int32.ofNat o) v2 = some (Int64.ofNat 0) := by
  have h0 := q197_n (N := N) (D := D) (o := o) (z7 := z 7) hN hv (hz 5 (by omega)).2 (hz 6 (by omega)).2 (z 5 + 1) 0 0 N (by omega) (by have := (hz 5 (by omega)).2; omega)
  have h0' : m197_L37 N D (Int32.ofNat o) v2 (Int32.ofNat (z 5)) (Int32.ofNat (z 6)) (Int32.ofNat (z 7)) N (Int64.ofNat 0) 0 = _ := h0
  unfold m197
  simp only [am_lt]
  rw [show (5 : Int32) = Int32.ofNat 5 from rfl, show (6 : Int32) = Int32.ofNat 6 from rfl, show (7 : Int32) = Int32.ofNat 7 from rfl, q_kz_r hz (by omega), q_kz_r hz (by omega), q_kz_r hz (by omega), h0', Option.bind_some]
theorem q196_L (hD : q_tb D) (hN : 2000 ≤ N) {z : Nat → Nat} (hz : q_kz D z) {a b : Nat} (ha : a < 50) (hb : b < 50) : ∀ (k t acc n : Nat), t + k = z 3 + 1 → k < n → m196_L64 N D (Int32.ofNat a) (Int32.ofNat b - Int32.ofNat (z 2)) (Int32.ofNat (z 3)) n (Int64.ofNat acc) (Int32.ofNat t) = some (Int64.ofNat (acc + q_S (fun t => q_bin (z 3) t * (if t ≤ a ∧ z 2 ≤ b ∧ z 3 - t ≤ b - z 2 then q_bt2 (z 5) (z 6) (z 7) (a - t) (b - z 2 - (z 3 - t)) else 0)) t k))
  | 0, t, acc, n + 1, hy, hn => by
    have h3 := (hz 3 (by omega)).2
    rw [m196_L64, if_pos (q_ylt (by omega) (by omega))]
    rfl
  | k + 1, t, acc, n + 1, hy, hn => by
    have h3 := (hz 3 (by omega)).2
    have h2 := (hz 2 (by omega)).2
    rw [m196_L64, if_neg (q_nlt (by omega) (show t ≤ z 3 by omega))]
    by_cases c : t ≤ a
    · rw [if_neg (q_nlt (by omega) c), q198 hD h3 (by omega), Option.bind_some, q_sub c, q_ssub, q_sac, q_add]
      have e : m197 N D (Int32.ofNat (a - t)) (Int32.ofNat (b + t) - Int32.ofNat (z 2 + z 3)) = some (Int64.ofNat (if t ≤ a ∧ z 2 ≤ b ∧ z 3 - t ≤ b - z 2 then q_bt2 (z 5) (z 6) (z 7) (a - t) (b - z 2 - (z 3 - t)) else 0)) := by
        by_cases d : z 2 ≤ b ∧ z 3 - t ≤ b - z 2
        · rw [if_pos ⟨c, d⟩, q_sub (by omega), show b + t - (z 2 + z 3) = b - z 2 - (z 3 - t) by omega]
          exact q197 hD hN hz (by omega) (by omega)
        · rw [if_neg (fun q => d q.2)]
          exact q197' hN hz (q_dlt (by omega) (by omega))
      rw [e, Option.bind_some]
      simp only [am_lt]
      rw [q_jmul, q_jadd, show Int32.ofNat t + 1 = Int32.ofNat (t + 1) from q_add t 1, q196_L hD hN hz ha hb k (t + 1) _ n (by omega) (by omega)]
      congr 2
      exact Nat.add_assoc _ _ _
    · rw [if_pos (q_ylt (by omega) (by omega))]
      have e : q_S (fun t => q_bin (z 3) t * (if t ≤ a ∧ z 2 ≤ b ∧ z 3 - t ≤ b - z 2 then q_bt2 (z 5) (z 6) (z 7) (a - t) (b - z 2 - (z 3 - t)) else 0)) t (k + 1) = 0 := (q_S_zero _ _).mpr (fun s hs _ => by rw [if_neg (by omega), Nat.mul_zero])
      rw [e, Nat.add_zero]
  | _, _, _, 0, _, hn => by omega
theorem q196 (hD : q_tb D) (hN : 2000 ≤ N) {z : Nat → Nat} (hz : q_kz D z) {a b : Nat} (ha : a < 50) (hb : b < 50) (h0 : D.1 94 0 = Int32.ofNat a) (h1 : D.1 94 1 = Int32.ofNat b) : m196 N D = some (Int64.ofNat (q_R z a b)) := by
  have r0 : am_rat (D.1 94) 3 (0 : Int32) = Int32.ofNat a := (q_rt (D.1 94) (m := 3) (by omega) (x := 0) (by omega)).trans h0
  have r1 : am_rat (D.1 94) 3 (1 : Int32) = Int32.ofNat b := (q_rt (D.1 94) (m := 3) (by omega) (x := 1) (by omega)).trans h1
  have k0 : am_rat (D.1 96) 8 (0 : Int32) = Int32.ofNat (z 0) := q_kz_r hz (k := 0) (by omega)
  have k1 : am_rat (D.1 96) 8 (1 : Int32) = Int32.ofNat (z 1) := q_kz_r hz (k := 1) (by omega)
  have k2 : am_rat (D.1 96) 8 (2 : Int32) = Int32.ofNat (z 2) := q_kz_r hz (k := 2) (by omega)
  have k3 : am_rat (D.1 96) 8 (3 : Int32) = Int32.ofNat (z 3) := q_kz_r hz (k := 3) (by omega)
  have z0 := (hz 0 (by omega)).2
  have z1 := (hz 1 (by omega)).2
  have z3 := (hz 3 (by omega)).2
  unfold m196
  rw [r0, r1, k0, k1, k2, k3, q_R_cl]
  by_cases c0 : z 0 = 0
  · rw [if_pos (show Int32.ofNat (z 0) ≤ 0 by rw [c0]; decide), if_pos c0]
    simp only [am_lt]
    by_cases c1 : z 1 ≤ a
    · have h := q196_L (N := N) hD hN hz (a := a - z 1) (b := b) (by omega) hb (z 3 + 1) 0 0 N (by omega) (by omega)
      have h' : m196_L64 N D (Int32.ofNat (a - z 1)) (Int32.ofNat b - Int32.ofNat (z 2)) (Int32.ofNat (z 3)) N (Int64.ofNat 0) 0 = _ := h
      rw [q_sub c1, h', Option.bind_some, if_pos c1, Nat.zero_add]
      congr 2
      by_cases c2 : z 2 ≤ b
      · rw [if_pos c2]
        refine q_S_congr _ _ (fun t _ _ => ?_)
        by_cases d : t ≤ a - z 1 ∧ z 3 - t ≤ b - z 2
        · rw [if_pos ⟨d.1, c2, d.2⟩, if_pos d]
        · rw [if_neg (fun q => d ⟨q.1, q.2.2⟩), if_neg d]
      · rw [if_neg c2]
        exact (q_S_zero _ _).mpr (fun t _ _ => by rw [if_neg (fun q => c2 q.2.1), Nat.mul_zero])
    · obtain ⟨N', rfl⟩ : ∃ N', N = N' + 1 := ⟨N - 1, by omega⟩
      rw [m196_L64, if_neg (show ¬ Int32.ofNat (z 3) < 0 from q_nlt (a := 0) (b := z 3) (by omega) (by omega)), if_pos (q_dlt (by omega) (by omega)), if_neg c1]
      rfl
  · rw [if_neg (show ¬ Int32.ofNat (z 0) ≤ 0 from q_nle (a := 0) (b := z 0) (by omega) (by omega)), if_neg c0]
end OF
