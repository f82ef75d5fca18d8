/-! numbers, sums over tiles -/
theorem q_ti {n : Nat} (h : n < 2147483648) : (Int32.ofNat n).toInt = (n : Int) := am_i32 h
theorem q_p31 {n : Nat} (h : n < 2147483648) : n < 2 ^ 31 := Nat.lt_of_lt_of_le h (Nat.le_of_ble_eq_true rfl)
theorem q_tn {n : Nat} (h : n < 2147483648) : (Int32.ofNat n).toNatClampNeg = n := Int32.toNatClampNeg_ofNat_of_lt (q_p31 h)
theorem q_le {a b : Nat} (ha : a < 2147483648) (hb : b < 2147483648) : (Int32.ofNat a ≤ Int32.ofNat b) = (a ≤ b) := propext (Int32.ofNat_le_iff_le (q_p31 ha) (q_p31 hb))
theorem q_lt {a b : Nat} (ha : a < 2147483648) (hb : b < 2147483648) : (Int32.ofNat a < Int32.ofNat b) = (a < b) := propext (Int32.ofNat_lt_iff_lt (q_p31 ha) (q_p31 hb))
theorem q_eq {a b : Nat} (ha : a < 2147483648) (hb : b < 2147483648) : (Int32.ofNat a = Int32.ofNat b) = (a = b) := propext ⟨fun h => by have := congrArg Int32.toNatClampNeg h; rwa [q_tn ha, q_tn hb] at this, fun h => by rw [h]⟩
theorem q_add (a b : Nat) : Int32.ofNat a + Int32.ofNat b = Int32.ofNat (a + b) := (Int32.ofNat_add a b).symm
theorem q_sub {a b : Nat} (h : b ≤ a) : Int32.ofNat a - Int32.ofNat b = Int32.ofNat (a - b) := (Int32.ofNat_sub a b h).symm
theorem q_mul (a b : Nat) : Int32.ofNat a * Int32.ofNat b = Int32.ofNat (a * b) := (Int32.ofNat_mul a b).symm
theorem q_div {a b : Nat} (ha : a < 2147483648) (hb : b < 2147483648) : Int32.ofNat a / Int32.ofNat b = Int32.ofNat (a / b) := (Int32.ofNat_div (q_p31 ha) (q_p31 hb)).symm
theorem q_mod {a b : Nat} (ha : a < 2147483648) (hb : b < 2147483648) : Int32.ofNat a - Int32.ofNat a / Int32.ofNat b * Int32.ofNat b = Int32.ofNat (a % b) := by
  rw [q_div ha hb, q_mul, q_sub (Nat.div_mul_le_self a b)]
  congr 1
  have := Nat.div_add_mod a b
  rw [Nat.mul_comm] at this
  omega
theorem q_dec (i : Nat) : Int32.ofNat (i + 1) + (-1 : Int32) = Int32.ofNat i := by
  rw [← q_add]
  show Int32.ofNat i + 1 + -1 = _
  rw [Int32.add_assoc]
  show Int32.ofNat i + 0 = _
  exact Int32.add_zero _
theorem q_n1 {a : Nat} (ha : a < 2147483648) : (Int32.ofNat a = (-1 : Int32)) = False := by
  refine propext ⟨fun h => ?_, fun h => h.elim⟩
  have := congrArg Int32.toInt h
  rw [q_ti ha] at this
  have e : (-1 : Int32).toInt = -1 := by decide
  omega
theorem q_n1' {a : Nat} (ha : a < 2147483648) : ((-1 : Int32) = Int32.ofNat a) = False := by
  refine propext ⟨fun h => ?_, fun h => h.elim⟩
  have := q_n1 ha
  rw [← this]; exact h.symm
theorem q_in {i n : Nat} (hn : n < 2147483648) (h : i < n) : 0 ≤ Int32.ofNat i ∧ Int32.ofNat i < Int32.ofNat n := ⟨by
  show Int32.ofNat 0 ≤ _
  rw [q_le (by omega) (by omega)]; omega, by rw [q_lt (by omega) hn]; exact h⟩
theorem q_nle {a b : Nat} (hb : b < 2147483648) (h : a < b) : ¬ Int32.ofNat b ≤ Int32.ofNat a := by
  rw [q_le hb (by omega)]; omega
theorem q_yle {a b : Nat} (hb : b < 2147483648) (h : a ≤ b) : Int32.ofNat a ≤ Int32.ofNat b := by
  rw [q_le (by omega) hb]; exact h
theorem q_nlt {a b : Nat} (hb : b < 2147483648) (h : a ≤ b) : ¬ Int32.ofNat b < Int32.ofNat a := by
  rw [q_lt hb (by omega)]; omega
theorem q_ylt {a b : Nat} (hb : b < 2147483648) (h : a < b) : Int32.ofNat a < Int32.ofNat b := by
  rw [q_lt (by omega) hb]; exact h
/-- a number in a range is a natural number -/
theorem q_of {x : Int32} {n : Nat} (hn : n < 2147483648) (h0 : 0 ≤ x) (h1 : x < Int32.ofNat n) : ∃ i, i < n ∧ x = Int32.ofNat i := by
  refine ⟨x.toNatClampNeg, ?_, (Int32.ofNat_toNatClampNeg x h0).symm⟩
  have e := Int32.ofNat_toNatClampNeg x h0
  rw [← e, q_lt (by have := Int32.toNatClampNeg_lt x; omega) hn] at h1
  exact h1
theorem q_l0 : (0 : Int32) = Int32.ofNat 0 := rfl
theorem q_l1 : (1 : Int32) = Int32.ofNat 1 := rfl
theorem q_l2 : (2 : Int32) = Int32.ofNat 2 := rfl
theorem q_l3 : (3 : Int32) = Int32.ofNat 3 := rfl
theorem q_l4 : (4 : Int32) = Int32.ofNat 4 := rfl
theorem q_l5 : (5 : Int32) = Int32.ofNat 5 := rfl
theorem q_l6 : (6 : Int32) = Int32.ofNat 6 := rfl
theorem q_l7 : (7 : Int32) = Int32.ofNat 7 := rfl
theorem q_l8 : (8 : Int32) = Int32.ofNat 8 := rfl
theorem q_l9 : (9 : Int32) = Int32.ofNat 9 := rfl
theorem q_l10 : (10 : Int32) = Int32.ofNat 10 := rfl
theorem q_l13 : (13 : Int32) = Int32.ofNat 13 := rfl
theorem q_l15 : (15 : Int32) = Int32.ofNat 15 := rfl
theorem q_l17 : (17 : Int32) = Int32.ofNat 17 := rfl
theorem q_l18 : (18 : Int32) = Int32.ofNat 18 := rfl
theorem q_l19 : (19 : Int32) = Int32.ofNat 19 := rfl
theorem q_l21 : (21 : Int32) = Int32.ofNat 21 := rfl
theorem q_l22 : (22 : Int32) = Int32.ofNat 22 := rfl
theorem q_l23 : (23 : Int32) = Int32.ofNat 23 := rfl
theorem q_l25 : (25 : Int32) = Int32.ofNat 25 := rfl
theorem q_l27 : (27 : Int32) = Int32.ofNat 27 := rfl
theorem q_l28 : (28 : Int32) = Int32.ofNat 28 := rfl
theorem q_l31 : (31 : Int32) = Int32.ofNat 31 := rfl
theorem q_l33 : (33 : Int32) = Int32.ofNat 33 := rfl
theorem q_l41 : (41 : Int32) = Int32.ofNat 41 := rfl
theorem q_l43 : (43 : Int32) = Int32.ofNat 43 := rfl
theorem q_l44 : (44 : Int32) = Int32.ofNat 44 := rfl
theorem q_l45 : (45 : Int32) = Int32.ofNat 45 := rfl
theorem q_l48 : (48 : Int32) = Int32.ofNat 48 := rfl
theorem q_l49 : (49 : Int32) = Int32.ofNat 49 := rfl
theorem q_l51 : (51 : Int32) = Int32.ofNat 51 := rfl
theorem q_l52 : (52 : Int32) = Int32.ofNat 52 := rfl
theorem q_l53 : (53 : Int32) = Int32.ofNat 53 := rfl
theorem q_l54 : (54 : Int32) = Int32.ofNat 54 := rfl
theorem q_l56 : (56 : Int32) = Int32.ofNat 56 := rfl
theorem q_l57 : (57 : Int32) = Int32.ofNat 57 := rfl
theorem q_l58 : (58 : Int32) = Int32.ofNat 58 := rfl
theorem q_l59 : (59 : Int32) = Int32.ofNat 59 := rfl
theorem q_l60 : (60 : Int32) = Int32.ofNat 60 := rfl
theorem q_l62 : (62 : Int32) = Int32.ofNat 62 := rfl
theorem q_l63 : (63 : Int32) = Int32.ofNat 63 := rfl
theorem q_l64 : (64 : Int32) = Int32.ofNat 64 := rfl
theorem q_l73 : (73 : Int32) = Int32.ofNat 73 := rfl
theorem q_l81 : (81 : Int32) = Int32.ofNat 81 := rfl
theorem q_l99 : (99 : Int32) = Int32.ofNat 99 := rfl
theorem q_l108 : (108 : Int32) = Int32.ofNat 108 := rfl
theorem q_l109 : (109 : Int32) = Int32.ofNat 109 := rfl
theorem q_l112 : (112 : Int32) = Int32.ofNat 112 := rfl
theorem q_l116 : (116 : Int32) = Int32.ofNat 116 := rfl
theorem q_l126 : (126 : Int32) = Int32.ofNat 126 := rfl
theorem q_l127 : (127 : Int32) = Int32.ofNat 127 := rfl
theorem q_l128 : (128 : Int32) = Int32.ofNat 128 := rfl
theorem q_l137 : (137 : Int32) = Int32.ofNat 137 := rfl
theorem q_l165 : (165 : Int32) = Int32.ofNat 165 := rfl
theorem q_l484 : (484 : Int32) = Int32.ofNat 484 := rfl
theorem q_l1023 : (1023 : Int32) = Int32.ofNat 1023 := rfl
theorem q_l1320 : (1320 : Int32) = Int32.ofNat 1320 := rfl
theorem q_l4095 : (4095 : Int32) = Int32.ofNat 4095 := rfl
theorem q_l4096 : (4096 : Int32) = Int32.ofNat 4096 := rfl
theorem q_ite (c : Prop) [Decidable c] (a b : Nat) : (if c then Int32.ofNat a else Int32.ofNat b) = Int32.ofNat (if c then a else b) := by split <;> rfl
/-- the number -1 -/
def q_nn : Int32 := -1
theorem q_lm : -Int32.ofNat 1 = q_nn := rfl
theorem q_nnE : q_nn = -1 := rfl
theorem q_dec' {i : Nat} (h : 0 < i) : Int32.ofNat i + q_nn = Int32.ofNat (i - 1) := by
  obtain ⟨j, rfl⟩ : ∃ j, i = j + 1 := ⟨i - 1, by omega⟩
  exact q_dec j
theorem q_nnn {a : Nat} (ha : a < 2147483648) : (Int32.ofNat a = q_nn) = False := q_n1 ha
theorem q_nnn' {a : Nat} (ha : a < 2147483648) : (q_nn = Int32.ofNat a) = False := q_n1' ha
theorem q_nnlt {a : Nat} (ha : a < 2147483648) : (q_nn < Int32.ofNat a) = True := by
  refine propext ⟨fun _ => trivial, fun _ => ?_⟩
  rw [Int32.lt_iff_toInt_lt, q_ti ha]
  have : q_nn.toInt = -1 := by decide
  omega
theorem q_nnge {a : Nat} (ha : a < 2147483648) : (Int32.ofNat a ≤ q_nn) = False := by
  refine propext ⟨fun h => ?_, fun h => h.elim⟩
  rw [Int32.le_iff_toInt_le, q_ti ha] at h
  have : q_nn.toInt = -1 := by decide
  omega
theorem q_nnle {a : Nat} (ha : a < 2147483648) : (q_nn ≤ Int32.ofNat a) = True := by
  refine propext ⟨fun _ => trivial, fun _ => ?_⟩
  rw [Int32.le_iff_toInt_le, q_ti ha]
  have : q_nn.toInt = -1 := by decide
  omega
theorem q_nnll {a : Nat} (ha : a < 2147483648) : (Int32.ofNat a < q_nn) = False := by
  refine propext ⟨fun h => ?_, fun h => h.elim⟩
  rw [Int32.lt_iff_toInt_lt, q_ti ha] at h
  have : q_nn.toInt = -1 := by decide
  omega
/-! sums -/
def q_S (f : Nat → Nat) (i : Nat) : Nat → Nat
  | 0 => 0
  | k + 1 => f i + q_S f (i + 1) k
theorem q_S_congr {f g : Nat → Nat} : ∀ (k i : Nat), (∀ t, i ≤ t → t < i + k → f t = g t) → q_S f i k = q_S g i k
  | 0, _, _ => rfl
  | k + 1, i, h => by
    show f i + q_S f (i + 1) k = g i + q_S g (i + 1) k
    rw [h i (Nat.le_refl _) (by omega), q_S_congr k (i + 1) (fun t h1 h2 => h t (by omega) (by omega))]
theorem q_S_add (f g : Nat → Nat) : ∀ (k i : Nat), q_S (fun t => f t + g t) i k = q_S f i k + q_S g i k
  | 0, _ => rfl
  | k + 1, i => by
    show f i + g i + q_S (fun t => f t + g t) (i + 1) k = f i + q_S f (i + 1) k + (g i + q_S g (i + 1) k)
    rw [q_S_add f g k (i + 1)]; omega
theorem q_S_split (f : Nat → Nat) : ∀ (j k i : Nat), q_S f i (j + k) = q_S f i j + q_S f (i + j) k
  | 0, k, i => by simp [q_S]
  | j + 1, k, i => by
    rw [show j + 1 + k = (j + k) + 1 by omega]
    show f i + q_S f (i + 1) (j + k) = f i + q_S f (i + 1) j + q_S f (i + (j + 1)) k
    rw [q_S_split f j k (i + 1), show i + 1 + j = i + (j + 1) by omega]; omega
theorem q_S_le {f g : Nat → Nat} : ∀ (k i : Nat), (∀ t, i ≤ t → t < i + k → f t ≤ g t) → q_S f i k ≤ q_S g i k
  | 0, _, _ => Nat.le_refl _
  | k + 1, i, h => Nat.add_le_add (h i (Nat.le_refl _) (by omega)) (q_S_le k (i + 1) (fun t h1 h2 => h t (by omega) (by omega)))
theorem q_S_const (c : Nat) : ∀ (k i : Nat), q_S (fun _ => c) i k = k * c
  | 0, _ => by simp [q_S]
  | k + 1, i => by
    show c + q_S (fun _ => c) (i + 1) k = _
    rw [q_S_const c k (i + 1), Nat.succ_mul]; omega
/-- one number is another one -/
theorem q_S_upd {f g : Nat → Nat} {p : Nat} : ∀ (k i : Nat), i ≤ p → p < i + k → (∀ t, i ≤ t → t < i + k → t ≠ p → f t = g t) → q_S g i k + f p = q_S f i k + g p
  | 0, i, h1, h2, _ => by omega
  | k + 1, i, h1, h2, h => by
    show g i + q_S g (i + 1) k + f p = f i + q_S f (i + 1) k + g p
    by_cases hp : p = i
    · subst hp
      rw [q_S_congr (f := g) (g := f) k (p + 1) (fun t h3 h4 => (h t (by omega) (by omega) (by omega)).symm)]; omega
    · have := q_S_upd (f := f) (g := g) k (i + 1) (by omega) (by omega) (fun t h3 h4 h5 => h t (by omega) (by omega) h5)
      rw [h i (Nat.le_refl _) (by omega) (fun q => hp q.symm)]; omega
theorem q_S_zero {f : Nat → Nat} : ∀ (k i : Nat), q_S f i k = 0 ↔ ∀ t, i ≤ t → t < i + k → f t = 0
  | 0, i => ⟨fun _ t h1 h2 => by omega, fun _ => rfl⟩
  | k + 1, i => by
    show f i + q_S f (i + 1) k = 0 ↔ _
    rw [Nat.add_eq_zero_iff, q_S_zero k (i + 1)]
    refine ⟨fun h t h1 h2 => ?_, fun h => ⟨h i (Nat.le_refl _) (by omega), fun t h1 h2 => h t (by omega) (by omega)⟩⟩
    by_cases ht : t = i
    · rw [ht]; exact h.1
    · exact h.2 t (by omega) (by omega)
/-! the tiles -/
def q_lo (t : Nat) : Nat := ([0, 0, 0, 0, 0, 0, 0, 1, 1, 1, 1, 1, 1, 2, 2, 2, 2, 2, 3, 3, 3, 3, 4, 4, 4, 5, 5, 6] : List Nat).getD t 0
def q_hi (t : Nat) : Nat := ([0, 1, 2, 3, 4, 5, 6, 1, 2, 3, 4, 5, 6, 2, 3, 4, 5, 6, 3, 4, 5, 6, 4, 5, 6, 5, 6, 6] : List Nat).getD t 0
def q_pip (t : Nat) : Nat := q_lo t + q_hi t
theorem q_low : ∀ t : Nat, t < 28 → am_low t = Int32.ofNat (q_lo t) := by decide +kernel
theorem q_high : ∀ t : Nat, t < 28 → am_high t = Int32.ofNat (q_hi t) := by decide +kernel
theorem q_lo7 : ∀ t : Nat, t < 28 → q_lo t < 7 := by decide +kernel
theorem q_hi7 : ∀ t : Nat, t < 28 → q_hi t < 7 := by decide +kernel
theorem q_lohi : ∀ t : Nat, t < 28 → q_lo t ≤ q_hi t := by decide +kernel
theorem q_cnt_ex : ∃ g : (Nat → Int32) → Int32 → Nat, ∀ f v, g f v = q_S (fun t => if f t = v then 1 else 0) 0 28 := ⟨fun f v => q_S (fun t => if f t = v then 1 else 0) 0 28, fun _ _ => rfl⟩
noncomputable def q_cnt (f : Nat → Int32) (v : Int32) : Nat := Classical.choose q_cnt_ex f v
theorem q_cnt_def (f : Nat → Int32) (v : Int32) : q_cnt f v = q_S (fun t => if f t = v then 1 else 0) 0 28 := Classical.choose_spec q_cnt_ex f v
theorem q_pips_ex : ∃ g : (Nat → Int32) → Int32 → Nat, ∀ f v, g f v = q_S (fun t => if f t = v then q_pip t else 0) 0 28 := ⟨fun f v => q_S (fun t => if f t = v then q_pip t else 0) 0 28, fun _ _ => rfl⟩
noncomputable def q_pips (f : Nat → Int32) (v : Int32) : Nat := Classical.choose q_pips_ex f v
theorem q_pips_def (f : Nat → Int32) (v : Int32) : q_pips f v = q_S (fun t => if f t = v then q_pip t else 0) 0 28 := Classical.choose_spec q_pips_ex f v
theorem q_dbl_ex : ∃ g : (Nat → Int32) → Int32 → Nat, ∀ f v, g f v = q_S (fun t => if f t = v ∧ q_lo t = q_hi t then 1 else 0) 0 28 := ⟨fun f v => q_S (fun t => if f t = v ∧ q_lo t = q_hi t then 1 else 0) 0 28, fun _ _ => rfl⟩
noncomputable def q_dbl (f : Nat → Int32) (v : Int32) : Nat := Classical.choose q_dbl_ex f v
theorem q_dbl_def (f : Nat → Int32) (v : Int32) : q_dbl f v = q_S (fun t => if f t = v ∧ q_lo t = q_hi t then 1 else 0) 0 28 := Classical.choose_spec q_dbl_ex f v
theorem q_cnt_congr {f g : Nat → Int32} {v : Int32} (h : ∀ t, t < 28 → f t = g t) : q_cnt f v = q_cnt g v := by
  rw [q_cnt_def, q_cnt_def]
  exact q_S_congr 28 0 (fun t _ ht => by rw [h t (by omega)])
theorem q_pips_congr {f g : Nat → Int32} {v : Int32} (h : ∀ t, t < 28 → f t = g t) : q_pips f v = q_pips g v := by
  rw [q_pips_def, q_pips_def]
  exact q_S_congr 28 0 (fun t _ ht => by rw [h t (by omega)])
theorem q_dbl_congr {f g : Nat → Int32} {v : Int32} (h : ∀ t, t < 28 → f t = g t) : q_dbl f v = q_dbl g v := by
  rw [q_dbl_def, q_dbl_def]
  exact q_S_congr 28 0 (fun t _ ht => by rw [h t (by omega)])
theorem q_cnt_le (f : Nat → Int32) (v : Int32) : q_cnt f v ≤ 28 := by
  have := q_S_le (f := fun t => if f t = v then 1 else 0) (g := fun _ => 1) 28 0 (fun t _ _ => by split <;> omega)
  rw [q_S_const] at this
  rw [q_cnt_def]
  exact this
theorem q_pips_le (f : Nat → Int32) (v : Int32) : q_pips f v ≤ 336 := by
  have := q_S_le (f := fun t => if f t = v then q_pip t else 0) (g := fun _ => 12) 28 0 (fun t _ ht => by
    have h1 := q_lo7 t (by omega)
    have h2 := q_hi7 t (by omega)
    unfold q_pip
    split <;> omega)
  rw [q_S_const] at this
  rw [q_pips_def]
  exact this
