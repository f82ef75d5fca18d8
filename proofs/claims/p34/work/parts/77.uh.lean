/-! what the law asks a table: numbers of the round, of a hand, of a lay ahead; a number out of a script's cell; a tile that fits -/
section UH
variable {D D' E F M : am_D} {N : Nat} {n p : Nat} {T V : Nat → Nat}
theorem w_inl {α : Type} (x : α) : am_inl (Sum.inl x) = some x := rfl
theorem u_and31 (v : Int32) : ∃ k, k < 2147483648 ∧ v &&& Int32.ofNat 2147483647 = Int32.ofNat k := by
  refine ⟨v.toBitVec.toNat &&& 2147483647, Nat.lt_of_le_of_lt Nat.and_le_right (by omega), ?_⟩
  apply Int32.toBitVec_inj.mp
  show v.toBitVec &&& BitVec.ofNat 32 2147483647 = BitVec.ofNat 32 (v.toBitVec.toNat &&& 2147483647)
  apply BitVec.eq_of_toNat_eq
  rw [BitVec.toNat_and, BitVec.toNat_ofNat, BitVec.toNat_ofNat]
  have h := Nat.and_le_right (n := v.toBitVec.toNat) (m := 2147483647)
  rw [Nat.mod_eq_of_lt (a := v.toBitVec.toNat &&& 2147483647) (by omega)]
theorem u_up (v : Int32) {m : Nat} (h0 : 0 < m) (hm : m < 2147483648) : ∃ i, i < m ∧ m289 v (Int32.ofNat m) = some (Int32.ofNat i) := by
  obtain ⟨k, hk, e⟩ := u_and31 v
  refine ⟨k % m, Nat.mod_lt _ h0, ?_⟩
  unfold m289
  have c : ¬ Int32.ofNat m = 0 := fun q => absurd (q_ofN (a := m) (b := 0) (by omega) (by omega) q) (by omega)
  rw [e, q_mod hk hm, if_pos c]
theorem w22_0 (D : am_D) : m22 N D (0 : Int32) = some (Sum.inl (D.1 1 6)) := by
  unfold m22
  rw [if_pos (c := (0 : Int32) = Int32.ofNat 0) rfl]
theorem w22_1 (D : am_D) : m22 N D (1 : Int32) = some (Sum.inl (D.1 1 7)) := by
  unfold m22
  rw [if_neg (c := (1 : Int32) = Int32.ofNat 0) (by decide), if_pos (c := (1 : Int32) = Int32.ofNat 1) rfl]
theorem w22_2 (D : am_D) : m22 N D (2 : Int32) = some (Sum.inl (D.1 1 8)) := by
  unfold m22
  rw [if_neg (c := (2 : Int32) = Int32.ofNat 0) (by decide), if_neg (c := (2 : Int32) = Int32.ofNat 1) (by decide), if_pos (c := (2 : Int32) = Int32.ofNat 2) rfl]
theorem w22_3 (D : am_D) : m22 N D (3 : Int32) = some (Sum.inl (D.1 2 4)) := by
  unfold m22
  rw [if_neg (c := (3 : Int32) = Int32.ofNat 0) (by decide), if_neg (c := (3 : Int32) = Int32.ofNat 1) (by decide), if_neg (c := (3 : Int32) = Int32.ofNat 2) (by decide), if_pos (c := (3 : Int32) = Int32.ofNat 3) rfl]
theorem w22_4 (D : am_D) : m22 N D (4 : Int32) = some (Sum.inl (m156 D (0 : Int32))) := by
  unfold m22
  rw [if_neg (c := (4 : Int32) = Int32.ofNat 0) (by decide), if_neg (c := (4 : Int32) = Int32.ofNat 1) (by decide), if_neg (c := (4 : Int32) = Int32.ofNat 2) (by decide), if_neg (c := (4 : Int32) = Int32.ofNat 3) (by decide), if_pos (c := (4 : Int32) = Int32.ofNat 4) rfl]
theorem w22_5 (D : am_D) : m22 N D (5 : Int32) = some (Sum.inl (m156 D (1 : Int32))) := by
  unfold m22
  rw [if_neg (c := (5 : Int32) = Int32.ofNat 0) (by decide), if_neg (c := (5 : Int32) = Int32.ofNat 1) (by decide), if_neg (c := (5 : Int32) = Int32.ofNat 2) (by decide), if_neg (c := (5 : Int32) = Int32.ofNat 3) (by decide), if_neg (c := (5 : Int32) = Int32.ofNat 4) (by decide), if_pos (c := (5 : Int32) = Int32.ofNat 5) rfl]
theorem w22_6 (D : am_D) : m22 N D (6 : Int32) = some (Sum.inl (m160 D)) := by
  unfold m22
  rw [if_neg (c := (6 : Int32) = Int32.ofNat 0) (by decide), if_neg (c := (6 : Int32) = Int32.ofNat 1) (by decide), if_neg (c := (6 : Int32) = Int32.ofNat 2) (by decide), if_neg (c := (6 : Int32) = Int32.ofNat 3) (by decide), if_neg (c := (6 : Int32) = Int32.ofNat 4) (by decide), if_neg (c := (6 : Int32) = Int32.ofNat 5) (by decide), if_pos (c := (6 : Int32) = Int32.ofNat 6) rfl]
theorem w22_7 (D : am_D) : m22 N D (7 : Int32) = some (Sum.inl (am_rat (D.1 11) 2 (0 : Int32))) := by
  unfold m22
  rw [if_neg (c := (7 : Int32) = Int32.ofNat 0) (by decide), if_neg (c := (7 : Int32) = Int32.ofNat 1) (by decide), if_neg (c := (7 : Int32) = Int32.ofNat 2) (by decide), if_neg (c := (7 : Int32) = Int32.ofNat 3) (by decide), if_neg (c := (7 : Int32) = Int32.ofNat 4) (by decide), if_neg (c := (7 : Int32) = Int32.ofNat 5) (by decide), if_neg (c := (7 : Int32) = Int32.ofNat 6) (by decide), if_pos (c := (7 : Int32) = Int32.ofNat 7) rfl]
theorem w22_8 (D : am_D) : m22 N D (8 : Int32) = some (Sum.inl (am_rat (D.1 11) 2 (1 : Int32))) := by
  unfold m22
  rw [if_neg (c := (8 : Int32) = Int32.ofNat 0) (by decide), if_neg (c := (8 : Int32) = Int32.ofNat 1) (by decide), if_neg (c := (8 : Int32) = Int32.ofNat 2) (by decide), if_neg (c := (8 : Int32) = Int32.ofNat 3) (by decide), if_neg (c := (8 : Int32) = Int32.ofNat 4) (by decide), if_neg (c := (8 : Int32) = Int32.ofNat 5) (by decide), if_neg (c := (8 : Int32) = Int32.ofNat 6) (by decide), if_neg (c := (8 : Int32) = Int32.ofNat 7) (by decide), if_pos (c := (8 : Int32) = Int32.ofNat 8) rfl]
theorem w22_9 (D : am_D) : m22 N D (9 : Int32) = some (Sum.inl (D.1 1 12)) := by
  unfold m22
  rw [if_neg (c := (9 : Int32) = Int32.ofNat 0) (by decide), if_neg (c := (9 : Int32) = Int32.ofNat 1) (by decide), if_neg (c := (9 : Int32) = Int32.ofNat 2) (by decide), if_neg (c := (9 : Int32) = Int32.ofNat 3) (by decide), if_neg (c := (9 : Int32) = Int32.ofNat 4) (by decide), if_neg (c := (9 : Int32) = Int32.ofNat 5) (by decide), if_neg (c := (9 : Int32) = Int32.ofNat 6) (by decide), if_neg (c := (9 : Int32) = Int32.ofNat 7) (by decide), if_neg (c := (9 : Int32) = Int32.ofNat 8) (by decide), if_pos (c := (9 : Int32) = Int32.ofNat 9) rfl]
theorem w22_10 (D : am_D) : m22 N D (10 : Int32) = some (Sum.inl (D.1 1 13)) := by
  unfold m22
  rw [if_neg (c := (10 : Int32) = Int32.ofNat 0) (by decide), if_neg (c := (10 : Int32) = Int32.ofNat 1) (by decide), if_neg (c := (10 : Int32) = Int32.ofNat 2) (by decide), if_neg (c := (10 : Int32) = Int32.ofNat 3) (by decide), if_neg (c := (10 : Int32) = Int32.ofNat 4) (by decide), if_neg (c := (10 : Int32) = Int32.ofNat 5) (by decide), if_neg (c := (10 : Int32) = Int32.ofNat 6) (by decide), if_neg (c := (10 : Int32) = Int32.ofNat 7) (by decide), if_neg (c := (10 : Int32) = Int32.ofNat 8) (by decide), if_neg (c := (10 : Int32) = Int32.ofNat 9) (by decide), if_pos (c := (10 : Int32) = Int32.ofNat 10) rfl]
theorem w22_11 (D : am_D) : m22 N D (11 : Int32) = some (Sum.inl (D.1 1 14)) := by
  unfold m22
  rw [if_neg (c := (11 : Int32) = Int32.ofNat 0) (by decide), if_neg (c := (11 : Int32) = Int32.ofNat 1) (by decide), if_neg (c := (11 : Int32) = Int32.ofNat 2) (by decide), if_neg (c := (11 : Int32) = Int32.ofNat 3) (by decide), if_neg (c := (11 : Int32) = Int32.ofNat 4) (by decide), if_neg (c := (11 : Int32) = Int32.ofNat 5) (by decide), if_neg (c := (11 : Int32) = Int32.ofNat 6) (by decide), if_neg (c := (11 : Int32) = Int32.ofNat 7) (by decide), if_neg (c := (11 : Int32) = Int32.ofNat 8) (by decide), if_neg (c := (11 : Int32) = Int32.ofNat 9) (by decide), if_neg (c := (11 : Int32) = Int32.ofNat 10) (by decide), if_pos (c := (11 : Int32) = Int32.ofNat 11) rfl]
theorem w22_12 (D : am_D) : m22 N D (12 : Int32) = some (Sum.inl (D.1 1 11)) := by
  unfold m22
  rw [if_neg (c := (12 : Int32) = Int32.ofNat 0) (by decide), if_neg (c := (12 : Int32) = Int32.ofNat 1) (by decide), if_neg (c := (12 : Int32) = Int32.ofNat 2) (by decide), if_neg (c := (12 : Int32) = Int32.ofNat 3) (by decide), if_neg (c := (12 : Int32) = Int32.ofNat 4) (by decide), if_neg (c := (12 : Int32) = Int32.ofNat 5) (by decide), if_neg (c := (12 : Int32) = Int32.ofNat 6) (by decide), if_neg (c := (12 : Int32) = Int32.ofNat 7) (by decide), if_neg (c := (12 : Int32) = Int32.ofNat 8) (by decide), if_neg (c := (12 : Int32) = Int32.ofNat 9) (by decide), if_neg (c := (12 : Int32) = Int32.ofNat 10) (by decide), if_neg (c := (12 : Int32) = Int32.ofNat 11) (by decide), if_pos (c := (12 : Int32) = Int32.ofNat 12) rfl]
theorem w22_13 (D : am_D) : m22 N D (13 : Int32) = some (Sum.inl (D.1 1 15)) := by
  unfold m22
  rw [if_neg (c := (13 : Int32) = Int32.ofNat 0) (by decide), if_neg (c := (13 : Int32) = Int32.ofNat 1) (by decide), if_neg (c := (13 : Int32) = Int32.ofNat 2) (by decide), if_neg (c := (13 : Int32) = Int32.ofNat 3) (by decide), if_neg (c := (13 : Int32) = Int32.ofNat 4) (by decide), if_neg (c := (13 : Int32) = Int32.ofNat 5) (by decide), if_neg (c := (13 : Int32) = Int32.ofNat 6) (by decide), if_neg (c := (13 : Int32) = Int32.ofNat 7) (by decide), if_neg (c := (13 : Int32) = Int32.ofNat 8) (by decide), if_neg (c := (13 : Int32) = Int32.ofNat 9) (by decide), if_neg (c := (13 : Int32) = Int32.ofNat 10) (by decide), if_neg (c := (13 : Int32) = Int32.ofNat 11) (by decide), if_neg (c := (13 : Int32) = Int32.ofNat 12) (by decide), if_pos (c := (13 : Int32) = Int32.ofNat 13) rfl]
theorem w22_14 (D : am_D) : m22 N D (14 : Int32) = ((m204 N D (5 : Int32)).bind fun q16 => (some (Sum.inl q16))) := by
  unfold m22
  rw [if_neg (c := (14 : Int32) = Int32.ofNat 0) (by decide), if_neg (c := (14 : Int32) = Int32.ofNat 1) (by decide), if_neg (c := (14 : Int32) = Int32.ofNat 2) (by decide), if_neg (c := (14 : Int32) = Int32.ofNat 3) (by decide), if_neg (c := (14 : Int32) = Int32.ofNat 4) (by decide), if_neg (c := (14 : Int32) = Int32.ofNat 5) (by decide), if_neg (c := (14 : Int32) = Int32.ofNat 6) (by decide), if_neg (c := (14 : Int32) = Int32.ofNat 7) (by decide), if_neg (c := (14 : Int32) = Int32.ofNat 8) (by decide), if_neg (c := (14 : Int32) = Int32.ofNat 9) (by decide), if_neg (c := (14 : Int32) = Int32.ofNat 10) (by decide), if_neg (c := (14 : Int32) = Int32.ofNat 11) (by decide), if_neg (c := (14 : Int32) = Int32.ofNat 12) (by decide), if_neg (c := (14 : Int32) = Int32.ofNat 13) (by decide), if_pos (c := (14 : Int32) = Int32.ofNat 14) rfl]
theorem w22_15 (D : am_D) : m22 N D (15 : Int32) = (if (m219 D) = 0 then (some (Sum.inl (0 : Int32))) else (some (Sum.inl (1 : Int32)))) := by
  unfold m22
  rw [if_neg (c := (15 : Int32) = Int32.ofNat 0) (by decide), if_neg (c := (15 : Int32) = Int32.ofNat 1) (by decide), if_neg (c := (15 : Int32) = Int32.ofNat 2) (by decide), if_neg (c := (15 : Int32) = Int32.ofNat 3) (by decide), if_neg (c := (15 : Int32) = Int32.ofNat 4) (by decide), if_neg (c := (15 : Int32) = Int32.ofNat 5) (by decide), if_neg (c := (15 : Int32) = Int32.ofNat 6) (by decide), if_neg (c := (15 : Int32) = Int32.ofNat 7) (by decide), if_neg (c := (15 : Int32) = Int32.ofNat 8) (by decide), if_neg (c := (15 : Int32) = Int32.ofNat 9) (by decide), if_neg (c := (15 : Int32) = Int32.ofNat 10) (by decide), if_neg (c := (15 : Int32) = Int32.ofNat 11) (by decide), if_neg (c := (15 : Int32) = Int32.ofNat 12) (by decide), if_neg (c := (15 : Int32) = Int32.ofNat 13) (by decide), if_neg (c := (15 : Int32) = Int32.ofNat 14) (by decide), if_pos (c := (15 : Int32) = Int32.ofNat 15) rfl]
theorem w22_16 (D : am_D) : m22 N D (16 : Int32) = some (Sum.inl (D.1 1 9)) := by
  unfold m22
  rw [if_neg (c := (16 : Int32) = Int32.ofNat 0) (by decide), if_neg (c := (16 : Int32) = Int32.ofNat 1) (by decide), if_neg (c := (16 : Int32) = Int32.ofNat 2) (by decide), if_neg (c := (16 : Int32) = Int32.ofNat 3) (by decide), if_neg (c := (16 : Int32) = Int32.ofNat 4) (by decide), if_neg (c := (16 : Int32) = Int32.ofNat 5) (by decide), if_neg (c := (16 : Int32) = Int32.ofNat 6) (by decide), if_neg (c := (16 : Int32) = Int32.ofNat 7) (by decide), if_neg (c := (16 : Int32) = Int32.ofNat 8) (by decide), if_neg (c := (16 : Int32) = Int32.ofNat 9) (by decide), if_neg (c := (16 : Int32) = Int32.ofNat 10) (by decide), if_neg (c := (16 : Int32) = Int32.ofNat 11) (by decide), if_neg (c := (16 : Int32) = Int32.ofNat 12) (by decide), if_neg (c := (16 : Int32) = Int32.ofNat 13) (by decide), if_neg (c := (16 : Int32) = Int32.ofNat 14) (by decide), if_neg (c := (16 : Int32) = Int32.ofNat 15) (by decide), if_pos (c := (16 : Int32) = Int32.ofNat 16) rfl]
theorem w22_17 (D : am_D) : m22 N D (17 : Int32) = some (Sum.inl (D.1 1 10)) := by
  unfold m22
  rw [if_neg (c := (17 : Int32) = Int32.ofNat 0) (by decide), if_neg (c := (17 : Int32) = Int32.ofNat 1) (by decide), if_neg (c := (17 : Int32) = Int32.ofNat 2) (by decide), if_neg (c := (17 : Int32) = Int32.ofNat 3) (by decide), if_neg (c := (17 : Int32) = Int32.ofNat 4) (by decide), if_neg (c := (17 : Int32) = Int32.ofNat 5) (by decide), if_neg (c := (17 : Int32) = Int32.ofNat 6) (by decide), if_neg (c := (17 : Int32) = Int32.ofNat 7) (by decide), if_neg (c := (17 : Int32) = Int32.ofNat 8) (by decide), if_neg (c := (17 : Int32) = Int32.ofNat 9) (by decide), if_neg (c := (17 : Int32) = Int32.ofNat 10) (by decide), if_neg (c := (17 : Int32) = Int32.ofNat 11) (by decide), if_neg (c := (17 : Int32) = Int32.ofNat 12) (by decide), if_neg (c := (17 : Int32) = Int32.ofNat 13) (by decide), if_neg (c := (17 : Int32) = Int32.ofNat 14) (by decide), if_neg (c := (17 : Int32) = Int32.ofNat 15) (by decide), if_neg (c := (17 : Int32) = Int32.ofNat 16) (by decide), if_pos (c := (17 : Int32) = Int32.ofNat 17) rfl]
theorem w22_18 (D : am_D) : m22 N D (18 : Int32) = some (Sum.inl (D.1 23 2)) := by
  unfold m22
  rw [if_neg (c := (18 : Int32) = Int32.ofNat 0) (by decide), if_neg (c := (18 : Int32) = Int32.ofNat 1) (by decide), if_neg (c := (18 : Int32) = Int32.ofNat 2) (by decide), if_neg (c := (18 : Int32) = Int32.ofNat 3) (by decide), if_neg (c := (18 : Int32) = Int32.ofNat 4) (by decide), if_neg (c := (18 : Int32) = Int32.ofNat 5) (by decide), if_neg (c := (18 : Int32) = Int32.ofNat 6) (by decide), if_neg (c := (18 : Int32) = Int32.ofNat 7) (by decide), if_neg (c := (18 : Int32) = Int32.ofNat 8) (by decide), if_neg (c := (18 : Int32) = Int32.ofNat 9) (by decide), if_neg (c := (18 : Int32) = Int32.ofNat 10) (by decide), if_neg (c := (18 : Int32) = Int32.ofNat 11) (by decide), if_neg (c := (18 : Int32) = Int32.ofNat 12) (by decide), if_neg (c := (18 : Int32) = Int32.ofNat 13) (by decide), if_neg (c := (18 : Int32) = Int32.ofNat 14) (by decide), if_neg (c := (18 : Int32) = Int32.ofNat 15) (by decide), if_neg (c := (18 : Int32) = Int32.ofNat 16) (by decide), if_neg (c := (18 : Int32) = Int32.ofNat 17) (by decide), if_pos (c := (18 : Int32) = Int32.ofNat 18) rfl]
theorem w21c (hN : 2000 ≤ N) (D : am_D) {u : Nat} (hu : u < 4) : m21 N D (Int32.ofNat u) 0 = some (Sum.inl (Int32.ofNat (q_cnt (D.1 7) (Int32.ofNat u))), D) := by
  have := w21_0 (N := N) D (Int32.ofNat u)
  rw [if_neg (q_m40 hu), q204 hN, Option.bind_some] at this
  exact this
theorem w21t (D : am_D) {u : Nat} (hu : u < 4) : m21 N D (Int32.ofNat u) 2 = some (Sum.inl (D.1 8 u), D) := by
  have := w21_2 (N := N) D (Int32.ofNat u)
  rw [if_neg (q_m40 hu), q_rt4 _ hu] at this
  exact this
theorem w21f (hN : 2000 ≤ N) (D : am_D) {u : Nat} (hu : u < 4) : m21 N D (Int32.ofNat u) 4 = some (Sum.inl (Int32.ofNat (q_fit D (Int32.ofNat u))), D) := by
  have := w21_4 (N := N) D (Int32.ofNat u)
  rw [if_neg (q_m40 hu), q208 hN, Option.bind_some] at this
  exact this
theorem w21p (hN : 2000 ≤ N) (hK : q_K D n p T V) {u : Nat} (hu : u < 4) : m21 N D (Int32.ofNat u) 8 = some (Sum.inl (Int32.ofNat (q_np D p u)), D) := by
  have := w21_8 (N := N) D (Int32.ofNat u)
  rw [if_neg (q_m40 hu), q221 hN hK hu, Option.bind_some] at this
  exact this
theorem w18p (D : am_D) {t : Nat} (ht : t < 28) : m18 N D (Int32.ofNat t) 3 = some (Sum.inl (D.1 7 t)) := by
  show m18 N D (Int32.ofNat t) (Int32.ofNat 3) = _
  unfold m18
  rw [if_neg (by rw [q_m41 ht]; decide), if_neg (c := Int32.ofNat 3 = Int32.ofNat 0) (by decide), if_neg (c := Int32.ofNat 3 = Int32.ofNat 1) (by decide), if_neg (c := Int32.ofNat 3 = Int32.ofNat 2) (by decide), if_pos (c := Int32.ofNat 3 = Int32.ofNat 3) rfl, q203 D ht]
/-- the tile fits that end, out of that hand -/
def u_ft (D : am_D) (u t e : Nat) : Prop := D.1 1 6 = 1 ∧ D.1 7 t = Int32.ofNat u ∧ ¬ m158 D (Int32.ofNat t) (Int32.ofNat e) = 0
theorem w28n {u t e : Nat} (hu : u < 4) (ht : t < 28) (he : e < 2) {w : Nat} (hw : w ≤ 2) (h : ¬ u_ft D u t e) : m28 N D (Int32.ofNat u) (Int32.ofNat t) (Int32.ofNat e) (Int32.ofNat w) = some (Sum.inl (-1)) := by
  unfold m28
  rw [if_neg (q_m40 hu), if_neg (by rw [q_m41 ht]; decide), if_neg (q_m43 he), if_neg (show ¬ Int32.ofNat w < 0 from q_nlt (a := 0) (by omega) (by omega)), if_pos (show Int32.ofNat w ≤ 2 from q_yle (b := 2) (by omega) hw), q203 D ht]
  by_cases c1 : D.1 1 6 = 1
  · rw [if_pos c1]
    by_cases c2 : D.1 7 t = Int32.ofNat u
    · rw [if_pos c2]
      by_cases c3 : m158 D (Int32.ofNat t) (Int32.ofNat e) = 0
      · rw [if_pos c3]
      · exact absurd ⟨c1, c2, c3⟩ h
    · rw [if_neg c2]
  · rw [if_neg c1]
theorem u_ft_q (hK : q_K D n p T V) {u t e : Nat} (ht : t < 28) (h : u_ft D u t e) : p = 1 ∧ q_P D t = Int32.ofNat u ∧ (n = 0 ∨ q_sh t (m156 D (Int32.ofNat e))) := by
  obtain ⟨h1, h2, h3⟩ := h
  refine ⟨u_p hK (by omega) h1, by rw [← k_pl hK t ht]; exact h2, ?_⟩
  rw [q158 hK ht] at h3
  by_cases c : n = 0 ∨ q_sh t (m156 D (Int32.ofNat e))
  · exact c
  · rw [if_neg c] at h3
    exact absurd rfl h3
theorem w28s {u t e : Nat} (hu : u < 4) (ht : t < 28) (he : e < 2) {w : Nat} (hw : w ≤ 2) (h : u_ft D u t e) : m28 N D (Int32.ofNat u) (Int32.ofNat t) (Int32.ofNat e) (Int32.ofNat w) = if Int32.ofNat w = Int32.ofNat 0 then ((m222 N D (Int32.ofNat u) (Int32.ofNat t) (Int32.ofNat e)).bind fun q10 => (some (Sum.inl q10))) else (if Int32.ofNat w = Int32.ofNat 1 then (some (Sum.inl (m161 D (Int32.ofNat t) (Int32.ofNat e)))) else ((m209 N D (m185 (Int32.ofNat u)) (Int32.ofNat t) (Int32.ofNat e)).bind fun q13 => (some (Sum.inl q13)))) := by
  unfold m28
  rw [if_neg (q_m40 hu), if_neg (by rw [q_m41 ht]; decide), if_neg (q_m43 he), if_neg (show ¬ Int32.ofNat w < 0 from q_nlt (a := 0) (by omega) (by omega)), if_pos (show Int32.ofNat w ≤ 2 from q_yle (b := 2) (by omega) hw), q203 D ht, if_pos h.1, if_pos h.2.1, if_neg h.2.2]
theorem w28g (hN : 2000 ≤ N) (hK : q_K D n p T V) {u t e w : Nat} (hu : u < 4) (ht : t < 28) (he : e < 2) (h : u_ft D u t e) (hw : w ≤ 24) (h161 : m161 D (Int32.ofNat t) (Int32.ofNat e) = Int32.ofNat w) : m28 N D (Int32.ofNat u) (Int32.ofNat t) (Int32.ofNat e) 0 = some (Sum.inl (Int32.ofNat (q_gain D u w))) := by
  have := w28s (N := N) hu ht he (w := 0) (by omega) h
  rw [if_pos rfl, q222 hN hK hu hw h161, Option.bind_some] at this
  exact this
theorem w28o {u t e : Nat} (hu : u < 4) (ht : t < 28) (he : e < 2) (h : u_ft D u t e) : m28 N D (Int32.ofNat u) (Int32.ofNat t) (Int32.ofNat e) 1 = some (Sum.inl (m161 D (Int32.ofNat t) (Int32.ofNat e))) := by
  have := w28s (N := N) hu ht he (w := 1) (by omega) h
  rw [if_neg (by decide), if_pos rfl] at this
  exact this
theorem w28f (hN : 2000 ≤ N) {u t e : Nat} (hu : u < 4) (ht : t < 28) (he : e < 2) (h : u_ft D u t e) : m28 N D (Int32.ofNat u) (Int32.ofNat t) (Int32.ofNat e) 2 = some (Sum.inl (Int32.ofNat (q_S (fun j => if D.1 7 j = Int32.ofNat ((u + 1) % 4) ∧ (q_sh j (m162 D (Int32.ofNat t) (Int32.ofNat e)) ∨ q_sh j (m163 D (Int32.ofNat t) (Int32.ofNat e))) then 1 else 0) 0 28))) := by
  have := w28s (N := N) hu ht he (w := 2) (by omega) h
  rw [if_neg (by decide), if_neg (by decide), (q_md4 u hu).1, q209 hN, Option.bind_some] at this
  exact this
/-- a tile that fits, looked for from a number on -/
theorem u_choice_L (hN : 2000 ≤ N) (hK : q_K D n p T V) {u f : Nat} (hu : u < 4) (hf : f < 56) : ∀ (k i m : Nat), i + k = 56 → k < m → (∀ j, j < i → ¬ u_ft D u ((f + j) % 56 / 2) ((f + j) % 56 % 2)) → (m291_L2 N D (Int32.ofNat u) (Int32.ofNat f) m (Int32.ofNat i) = some (0, 0) ∧ ∀ j, j < 56 → ¬ u_ft D u ((f + j) % 56 / 2) ((f + j) % 56 % 2)) ∨ ∃ e, e < 56 ∧ u_ft D u (e / 2) (e % 2) ∧ m291_L2 N D (Int32.ofNat u) (Int32.ofNat f) m (Int32.ofNat i) = some (1, Int32.ofNat e)
  | 0, i, m + 1, hi, hm, h => by
    obtain rfl : i = 56 := by omega
    left
    refine ⟨?_, h⟩
    rw [m291_L2, if_pos (by decide)]
  | k + 1, i, m + 1, hi, hm, h => by
    rw [m291_L2, if_neg (show ¬ (56 : Int32) ≤ Int32.ofNat i from q_nle (b := 56) (by omega) (by omega))]
    simp only [am_lt]
    have e56 : (Int32.ofNat f + Int32.ofNat i) - (Int32.ofNat f + Int32.ofNat i) / (56 : Int32) * (56 : Int32) = Int32.ofNat ((f + i) % 56) := by
      rw [q_add]
      exact q_mod (a := f + i) (b := 56) (by omega) (by omega)
    have el : (f + i) % 56 < 56 := Nat.mod_lt _ (by omega)
    have ed : Int32.ofNat ((f + i) % 56) / (2 : Int32) = Int32.ofNat ((f + i) % 56 / 2) := q_div (b := 2) (by omega) (by omega)
    have em : Int32.ofNat ((f + i) % 56) - Int32.ofNat ((f + i) % 56 / 2) * (2 : Int32) = Int32.ofNat ((f + i) % 56 % 2) := by
      rw [← ed]
      exact q_mod (a := (f + i) % 56) (b := 2) (by omega) (by omega)
    rw [e56, ed, em]
    have ht : (f + i) % 56 / 2 < 28 := by omega
    have he : (f + i) % 56 % 2 < 2 := by omega
    by_cases c : u_ft D u ((f + i) % 56 / 2) ((f + i) % 56 % 2)
    · right
      obtain ⟨-, -, hs⟩ := u_ft_q hK ht c
      obtain ⟨w, hw, h161⟩ := q161s hK ht he hs
      refine ⟨(f + i) % 56, el, c, ?_⟩
      rw [w28o hu ht he c, Option.bind_some, w_inl, Option.bind_some, h161, if_neg (q_nm (by omega))]
    · have e1 : m28 N D (Int32.ofNat u) (Int32.ofNat ((f + i) % 56 / 2)) (Int32.ofNat ((f + i) % 56 % 2)) 1 = some (Sum.inl (-1)) := w28n hu ht he (w := 1) (by omega) c
      rw [e1, Option.bind_some, w_inl, Option.bind_some, if_pos rfl, show Int32.ofNat i + 1 = Int32.ofNat (i + 1) from q_add i 1]
      exact u_choice_L hN hK hu hf k (i + 1) m (by omega) (by omega) (fun j hj => by
        by_cases cj : j = i
        · subst cj; exact c
        · exact h j (by omega))
  | _, _, 0, _, hm, _ => by omega
theorem u_choice (hN : 2000 ≤ N) (hK : q_K D n p T V) {u f : Nat} (hu : u < 4) (hf : f < 56) : (m291 N D (Int32.ofNat u) (Int32.ofNat f) = some (-1) ∧ ∀ t e, t < 28 → e < 2 → ¬ u_ft D u t e) ∨ ∃ e, e < 56 ∧ u_ft D u (e / 2) (e % 2) ∧ m291 N D (Int32.ofNat u) (Int32.ofNat f) = some (Int32.ofNat e) := by
  rcases u_choice_L hN hK hu hf 56 0 N (by omega) (by omega) (fun j hj => by omega) with ⟨h1, h2⟩ | ⟨e, h1, h2, h3⟩
  · left
    have h1' : m291_L2 N D (Int32.ofNat u) (Int32.ofNat f) N 0 = some (0, 0) := h1
    refine ⟨?_, fun t e ht he c => ?_⟩
    · unfold m291
      rw [h1', Option.bind_some]
      rfl
    · have := h2 ((2 * t + e + 56 - f) % 56) (Nat.mod_lt _ (by omega))
      rw [show (f + (2 * t + e + 56 - f) % 56) % 56 = 2 * t + e by omega, show (2 * t + e) / 2 = t by omega, show (2 * t + e) % 2 = e by omega] at this
      exact this c
  · right
    have h3' : m291_L2 N D (Int32.ofNat u) (Int32.ofNat f) N 0 = some (1, Int32.ofNat e) := h3
    refine ⟨e, h1, h2, ?_⟩
    unfold m291
    rw [h3', Option.bind_some]
    rfl
theorem hz291_L (a b : Int32) : ∀ (m : Nat) (i : Int32), m291_L2 N (u_hz D M) a b m i = m291_L2 N D a b m i
  | 0, _ => rfl
  | m + 1, i => by
    rw [m291_L2, m291_L2]
    simp only [hz291_L a b m, hz28]
theorem hz291 (a b : Int32) : m291 N (u_hz D M) a b = m291 N D a b := by
  unfold m291
  rw [hz291_L]
/-- none of a hand's tiles fits: it has none that fits -/
theorem u_nofit (hK : q_K D n p T V) (hp : p = 1) {u : Nat} (h : ∀ t e, t < 28 → e < 2 → ¬ u_ft D u t e) : q_fit D (Int32.ofNat u) = 0 := by
  rw [q_fit_def, q_S_zero]
  intro t _ ht
  by_cases c : D.1 7 t = Int32.ofNat u ∧ ¬ m159 D (Int32.ofNat t) = 0
  · exfalso
    obtain ⟨c1, c2⟩ := c
    have hp' : D.1 1 6 = 1 := by rw [k_p' hK, hp]; rfl
    rw [q159 hK (by omega)] at c2
    have hs : n = 0 ∨ q_sh t (D.1 2 5) ∨ q_sh t (D.1 2 6) := by
      by_cases q : n = 0 ∨ q_sh t (D.1 2 5) ∨ q_sh t (D.1 2 6)
      · exact q
      · rw [if_neg q] at c2; exact absurd rfl c2
    have k0 : m158 D (Int32.ofNat t) (Int32.ofNat 0) = Int32.ofNat (if n = 0 ∨ q_sh t (D.1 2 5) then 1 else 0) := q158 hK (by omega) _
    have k1 : m158 D (Int32.ofNat t) (Int32.ofNat 1) = Int32.ofNat (if n = 0 ∨ q_sh t (D.1 2 6) then 1 else 0) := q158 hK (by omega) _
    rcases hs with hs | hs | hs
    · exact h t 0 (by omega) (by omega) ⟨hp', c1, by rw [k0, if_pos (Or.inl hs)]; decide⟩
    · exact h t 0 (by omega) (by omega) ⟨hp', c1, by rw [k0, if_pos (Or.inr hs)]; decide⟩
    · exact h t 1 (by omega) (by omega) ⟨hp', c1, by rw [k1, if_pos (Or.inr hs)]; decide⟩
  · rw [if_neg c]
end UH
