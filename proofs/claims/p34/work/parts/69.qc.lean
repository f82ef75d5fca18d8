/-! open hands: the model's loop -/
section QC
variable {D E : am_D} {N : Nat}
/-- a lay comes back -/
theorem q140 {d t h : Nat} (hd : d < 63) (ht : t < 28) (h118 : D.1 118 d = Int32.ofNat t) (x : Int32) : ∃ E, m140 D (Int32.ofNat d) (Int32.ofNat h) x = some E ∧ (∀ s, E.1 115 s = if s = t then Int32.ofNat h else D.1 115 s) ∧ E.1 122 d = 1 ∧ (∀ j, j ≠ d → E.1 122 j = D.1 122 j) ∧ (∀ j, j ≠ d → E.1 117 j = D.1 117 j) ∧
    (if D.1 122 d = 0 ∨ ¬ D.1 119 d + x ≤ D.1 117 d then (E.1 117 d = D.1 119 d + x ∧ E.1 106 24 = if d = 0 then D.1 116 0 - 1 else D.1 106 24) else (E.1 117 d = D.1 117 d ∧ E.1 106 24 = D.1 106 24)) ∧ (∀ j, j ≠ 24 → E.1 106 j = D.1 106 j) ∧ (∀ a, a ≠ 106 → a ≠ 115 → a ≠ 117 → a ≠ 122 → E.1 a = D.1 a) ∧ E.2 = D.2 := by
  have i64 : 0 ≤ Int32.ofNat d ∧ Int32.ofNat d < 64 := q_in (n := 64) (by omega) (by omega)
  have i28 : 0 ≤ Int32.ofNat t ∧ Int32.ofNat t < 28 := q_in (n := 28) (by omega) ht
  have n64 : (Int32.ofNat d).toNatClampNeg = d := q_tn (by omega)
  have n28 : (Int32.ofNat t).toNatClampNeg = t := q_tn (by omega)
  obtain ⟨D2, hD2⟩ : ∃ D2, D2 = am_uI D 115 t (Int32.ofNat h) := ⟨_, rfl⟩
  have e0 : (Int32.ofNat d = 0) ↔ d = 0 := ⟨fun q => q_ofN (b := 0) (by omega) (by omega) q, fun q => by rw [q]; rfl⟩
  have g119 : D2.1 119 d = D.1 119 d := by rw [hD2, q_uI_ne _ (by omega)]
  have g122 : D2.1 122 = D.1 122 := by rw [hD2, q_uI_ne _ (by omega)]
  have g117 : D2.1 117 = D.1 117 := by rw [hD2, q_uI_ne _ (by omega)]
  have hun : m140 D (Int32.ofNat d) (Int32.ofNat h) x = (if D.1 122 d = 0 ∨ ¬ D.1 119 d + x ≤ D.1 117 d then some (am_uI (am_uI (am_uI D2 117 d (D.1 119 d + x)) 106 24 (if d = 0 then D.1 116 0 - 1 else D.1 106 24)) 122 d 1) else some (am_uI D2 122 d 1)) := by
    have u0 : (if Int32.ofNat d = 0 then (am_uI D2 117 d (D.1 119 d + x)).1 116 0 - (1 : Int32) else (am_uI D2 117 d (D.1 119 d + x)).1 106 24) = (if d = 0 then D.1 116 0 - 1 else D.1 106 24) := by
      rw [q_uI_ne _ (by omega), q_uI_ne _ (by omega), hD2, q_uI_ne _ (by omega), q_uI_ne _ (by omega)]
      by_cases c : d = 0
      · rw [if_pos (e0.mpr c), if_pos c]
      · rw [if_neg (fun q => c (e0.mp q)), if_neg c]
    unfold m140
    simp only [am_lt]
    rw [if_pos i64, n64, h118, if_pos i28, n28, ← hD2, if_pos i64, if_pos i64, g119, g122, g117]
    simp only [i64, and_self, if_true]
    rw [u0]
    by_cases c : D.1 122 d = 0
    · rw [if_pos c, if_pos (Or.inl c), Option.bind_some]
    · rw [if_neg c]
      by_cases f : D.1 119 d + x ≤ D.1 117 d
      · rw [if_pos f, if_neg (fun q => q.elim c (fun z => z f)), Option.bind_some]
      · rw [if_neg f, if_pos (Or.inr f), Option.bind_some]
  by_cases c : D.1 122 d = 0 ∨ ¬ D.1 119 d + x ≤ D.1 117 d
  · rw [if_pos c] at hun
    refine ⟨_, hun, fun s => ?_, q_uIs _ _ _ _, fun j hj => ?_, fun j hj => ?_, ?_, fun j hj => ?_, fun a h1 h2 h3 h4 => ?_, by rw [hD2]; rfl⟩
    · rw [q_uI_ne _ (by omega), q_uI_ne _ (by omega), q_uI_ne _ (by omega), hD2, q_uI_at]
      by_cases q : s = t
      · rw [if_pos ⟨rfl, q⟩, if_pos q]
      · rw [if_neg (fun z => q z.2), if_neg q]
    · rw [q_uI_at, if_neg (fun z => hj z.2), q_uI_ne _ (by omega), q_uI_ne _ (by omega), g122]
    · rw [q_uI_ne _ (by omega), q_uI_ne _ (by omega), q_uI_at, if_neg (fun z => hj z.2), g117]
    · rw [if_pos c]
      constructor
      · rw [q_uI_ne _ (by omega), q_uI_ne _ (by omega), q_uIs]
      · rw [q_uI_ne _ (by omega), q_uIs]
    · rw [q_uI_ne _ (by omega), q_uI_at, if_neg (fun z => hj z.2), q_uI_ne _ (by omega), hD2, q_uI_ne _ (by omega)]
    · rw [q_uI_ne _ h4, q_uI_ne _ h1, q_uI_ne _ h3, hD2, q_uI_ne _ h2]
  · rw [if_neg c] at hun
    refine ⟨_, hun, fun s => ?_, q_uIs _ _ _ _, fun j hj => ?_, fun j hj => ?_, ?_, fun j hj => ?_, fun a h1 h2 h3 h4 => ?_, by rw [hD2]; rfl⟩
    · rw [q_uI_ne _ (by omega), hD2, q_uI_at]
      by_cases q : s = t
      · rw [if_pos ⟨rfl, q⟩, if_pos q]
      · rw [if_neg (fun z => q z.2), if_neg q]
    · rw [q_uI_at, if_neg (fun z => hj z.2), g122]
    · rw [q_uI_ne _ (by omega), g117]
    · rw [if_neg c]
      constructor
      · rw [q_uI_ne _ (by omega), g117]
      · rw [q_uI_ne _ (by omega), hD2, q_uI_ne _ (by omega)]
    · rw [q_uI_ne _ (by omega), hD2, q_uI_ne _ (by omega)]
    · rw [q_uI_ne _ h4, hD2, q_uI_ne _ h2]
theorem q311_0 (f : Nat) (E : am_D) (v1 v3 : Int32) : m141_L311 N (f + 1) E v1 v3 0 = some (0, v1, 0, E) := by
  rw [m141_L311, if_pos rfl]
theorem q311_f : ∀ (d f f' : Nat) (E : am_D) (v b : Int32), d + 2 ≤ f → d + 2 ≤ f' → d < 64 → m141_L311 N f E (Int32.ofNat d) v b = m141_L311 N f' E (Int32.ofNat d) v b
  | 0, f + 1, f' + 1, E, v, b, h1, h2, h3 => by
    rw [m141_L311, m141_L311, if_pos (show Int32.ofNat 0 = 0 from rfl), if_pos (show Int32.ofNat 0 = 0 from rfl)]
  | d + 1, f + 1, f' + 1, E, v, b, h1, h2, h3 => by
    have ih : ∀ E v b, m141_L311 N f E (Int32.ofNat d) v b = m141_L311 N f' E (Int32.ofNat d) v b := fun E v b => q311_f d f f' E v b (by omega) (by omega) (by omega)
    rw [m141_L311, m141_L311, q_dec]
    simp only [am_lt, ih]
  | 0, 0, _, _, _, _, h1, _, _ => by omega
  | 0, _, 0, _, _, _, _, h2, _ => by omega
  | d + 1, 0, _, _, _, _, h1, _, _ => by omega
  | d + 1, _, 0, _, _, _, _, h2, _ => by omega
/-- a value goes back from a depth, and the loop goes on -/
def q_rt' (N n : Nat) (E : am_D) (d : Nat) (v : Int32) : Option (Int32 × am_D) := (m141_L311 N N E (Int32.ofNat d) v 1).bind fun q105 => (if q105.1 = 0 then (m141_L75 N n q105.2.2.2 q105.2.1) else (some (q105.2.2.1, q105.2.2.2)))
/-- what stands at a depth -/
def q_nd1 (D0 : am_D) (own : Nat → Int32) (le re r d : Nat) (E : am_D) : Prop := (∀ t, t < 28 → E.1 115 t = own t) ∧ E.1 120 d = Int32.ofNat le ∧ E.1 121 d = Int32.ofNat re ∧ E.1 123 d = Int32.ofNat r ∧ E.1 107 = D0.1 107 ∧ E.1 109 = D0.1 109 ∧ E.1 110 = D0.1 110
/-- what is left as it was, from a depth on -/
def q_f2 (d : Nat) (E E' : am_D) : Prop := (∀ a, a < 115 → a ≠ 106 → E'.1 a = E.1 a) ∧ (∀ a, 123 < a → E'.1 a = E.1 a) ∧ (∀ j, j ≠ 24 → E'.1 106 j = E.1 106 j) ∧ (0 < d → E'.1 106 24 = E.1 106 24) ∧ (∀ a i, 116 ≤ a → a ≤ 123 → i < d → E'.1 a i = E.1 a i) ∧ (E'.1 120 d = E.1 120 d ∧ E'.1 121 d = E.1 121 d ∧ E'.1 123 d = E.1 123 d) ∧ (∀ t, t < 28 → E'.1 115 t = E.1 115 t) ∧ E'.2 = E.2
theorem q_f2.rf (d : Nat) (E : am_D) : q_f2 d E E := ⟨fun _ _ _ => rfl, fun _ _ => rfl, fun _ _ => rfl, fun _ => rfl, fun _ _ _ _ _ => rfl, ⟨rfl, rfl, rfl⟩, fun _ _ => rfl, rfl⟩
theorem q_f2.tr {d : Nat} {E F G : am_D} (h : q_f2 d E F) (k : q_f2 d F G) : q_f2 d E G := by
  obtain ⟨h1, h2, h3, h4, h5, ⟨h6, h7, h8⟩, h9, h10⟩ := h
  obtain ⟨k1, k2, k3, k4, k5, ⟨k6, k7, k8⟩, k9, k10⟩ := k
  exact ⟨fun a x y => (k1 a x y).trans (h1 a x y), fun a x => (k2 a x).trans (h2 a x), fun j x => (k3 j x).trans (h3 j x), fun x => (k4 x).trans (h4 x), fun a i x y z => (k5 a i x y z).trans (h5 a i x y z), ⟨k6.trans h6, k7.trans h7, k8.trans h8⟩, fun t x => (k9 t x).trans (h9 t x), k10.trans h10⟩
theorem q_nd1_f {D0 : am_D} {own : Nat → Int32} {le re r d : Nat} {E E' : am_D} (h : q_nd1 D0 own le re r d E) (k : q_f2 d E E') : q_nd1 D0 own le re r d E' := by
  obtain ⟨h1, h2, h3, h4, h5, h6, h7⟩ := h
  obtain ⟨k1, k2, k3, k4, k5, ⟨k6, k7, k8⟩, k9, k10⟩ := k
  exact ⟨fun t ht => (k9 t ht).trans (h1 t ht), k6.trans h2, k7.trans h3, k8.trans h4, (k1 107 (by omega) (by omega)).trans h5, (k1 109 (by omega) (by omega)).trans h6, (k1 110 (by omega) (by omega)).trans h7⟩
def q_cd (acc : Option (Int32 × Nat)) : Int32 := match acc with
  | none => -1
  | some b => Int32.ofNat b.2
/-- what was found so far, at a depth -/
def q_ac (d : Nat) (acc : Option (Int32 × Nat)) (E : am_D) : Prop := (match acc with
  | none => E.1 122 d = 0
  | some b => E.1 122 d = 1 ∧ E.1 117 d = b.1) ∧ (d = 0 → E.1 106 24 = q_cd acc)
def q_Cc : Nat → Nat
  | 0 => 0
  | k + 1 => 57 * (q_Cc k + 1) + q_Cc k + 2
noncomputable def q_vl (k : Nat) (own : Nat → Int32) (le re h r : Nat) (acc : Option (Int32 × Nat)) : Int32 := match acc with
  | some b => b.1
  | none => if r = 3 then q_bk own h else -q_op k own le re ((h + 1) % 4) (r + 1)
/-- a node is played to its end -/
def q_NP (N : Nat) (D0 : am_D) (u k : Nat) : Prop := ∀ (d : Nat) (E : am_D) (own : Nat → Int32) (le re r : Nat), d + k ≤ 60 → (∀ t, t < 28 → ∃ w, w < 5 ∧ own t = Int32.ofNat w) → le < 16 → re < 16 → le % 8 < 7 → re % 8 < 7 → r ≤ 3 → 4 * q_all (q_cnt own) + 3 - r < k → q_nd1 D0 own le re r d E → E.1 116 d = 0 → E.1 122 d = 0 → (d = 0 → E.1 106 24 = -1) → ∃ c E', c ≤ q_Cc k ∧ (∀ n, m141_L75 N (n + c) E (Int32.ofNat d) = q_rt' N n E' d (q_op k own le re ((u + d) % 4) r)) ∧ q_f2 d E E' ∧ (d = 0 → E'.1 106 24 = q_cd (q_fd (q_op (k - 1)) own le re ((u + d) % 4) 56 0 none))
end QC
