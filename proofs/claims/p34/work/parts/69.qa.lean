/-! open hands: what is played, as a function -/
section QA
abbrev q_lg (own : Nat → Int32) (le re h o : Nat) : Prop := own (o / 2) = Int32.ofNat h ∧ (q_lo (o / 2) = (if o % 2 = 0 then le else re) % 8 ∨ q_hi (o / 2) = (if o % 2 = 0 then le else re) % 8)
def q_eb (t e : Nat) : Nat := if q_lo t = q_hi t then 8 + q_lo t else q_pip t - e % 8
def q_wt (e : Nat) : Nat := e % 8 * (e / 8 + 1)
def q_l1' (le o : Nat) : Nat := if o % 2 = 0 then q_eb (o / 2) le else le
def q_r1' (re o : Nat) : Nat := if o % 2 = 1 then q_eb (o / 2) re else re
def q_gn (le re o : Nat) : Nat := q_fi (q_wt (q_l1' le o) + q_wt (q_r1' re o))
abbrev q_ot4' : Nat → Nat := fun h => (h + 1) % 4
noncomputable def q_ov (rec : (Nat → Int32) → Nat → Nat → Nat → Nat → Int32) (own : Nat → Int32) (le re h o : Nat) : Int32 := Int32.ofNat (q_gn le re o) + (if q_cnt (upd own (o / 2) (Int32.ofNat 4)) (Int32.ofNat h) = 0 then Int32.ofNat (q_all (q_pips (upd own (o / 2) (Int32.ofNat 4))) / 5) else -rec (upd own (o / 2) (Int32.ofNat 4)) (q_l1' le o) (q_r1' re o) ((h + 1) % 4) 0)
noncomputable def q_pk (rec : (Nat → Int32) → Nat → Nat → Nat → Nat → Int32) (own : Nat → Int32) (le re h o : Nat) (acc : Option (Int32 × Nat)) : Option (Int32 × Nat) := match acc with
  | none => some (q_ov rec own le re h o, o)
  | some b => if q_ov rec own le re h o ≤ b.1 then some b else some (q_ov rec own le re h o, o)
noncomputable def q_fd (rec : (Nat → Int32) → Nat → Nat → Nat → Nat → Int32) (own : Nat → Int32) (le re h : Nat) : Nat → Nat → Option (Int32 × Nat) → Option (Int32 × Nat)
  | 0, _, acc => acc
  | j + 1, o, acc => q_fd rec own le re h j (o + 1) (if q_lg own le re h o then q_pk rec own le re h o acc else acc)
/-- what a block brings to the hand's team -/
noncomputable def q_mo (own : Nat → Int32) (h : Nat) : Int32 := Int32.ofNat (q_pips own (Int32.ofNat ((h + 1) % 4))) + Int32.ofNat (q_pips own (Int32.ofNat ((h + 3) % 4))) - Int32.ofNat (q_pips own (Int32.ofNat h)) - Int32.ofNat (q_pips own (Int32.ofNat ((h + 2) % 4)))
noncomputable def q_bk (own : Nat → Int32) (h : Nat) : Int32 := if 0 ≤ q_mo own h then q_mo own h / 5 else -(-(q_mo own h) / 5)
noncomputable def q_op : Nat → (Nat → Int32) → Nat → Nat → Nat → Nat → Int32
  | 0 => fun _ _ _ _ _ => 0
  | k + 1 => fun own le re h r => match q_fd (q_op k) own le re h 56 0 none with
    | some b => b.1
    | none => if r = 3 then q_bk own h else -q_op k own le re ((h + 1) % 4) (r + 1)
theorem q_fd_skip (rec : (Nat → Int32) → Nat → Nat → Nat → Nat → Int32) (own : Nat → Int32) (le re h : Nat) : ∀ (i j o : Nat) (acc : Option (Int32 × Nat)), (∀ o', o ≤ o' → o' < o + i → ¬ q_lg own le re h o') → q_fd rec own le re h (i + j) o acc = q_fd rec own le re h j (o + i) acc
  | 0, j, o, acc, _ => by rw [Nat.zero_add]; rfl
  | i + 1, j, o, acc, hn => by
    rw [show i + 1 + j = (i + j) + 1 by omega]
    show q_fd rec own le re h (i + j) (o + 1) (if q_lg own le re h o then q_pk rec own le re h o acc else acc) = _
    rw [if_neg (hn o (Nat.le_refl _) (by omega)), q_fd_skip rec own le re h i j (o + 1) acc (fun o' h1 h2 => hn o' (by omega) (by omega)), show o + 1 + i = o + (i + 1) by omega]
theorem q_fd_some (rec : (Nat → Int32) → Nat → Nat → Nat → Nat → Int32) (own : Nat → Int32) (le re h : Nat) : ∀ (j o : Nat) (b : Int32 × Nat), ∃ b', q_fd rec own le re h j o (some b) = some b'
  | 0, _, b => ⟨b, rfl⟩
  | j + 1, o, b => by
    show ∃ b', q_fd rec own le re h j (o + 1) (if q_lg own le re h o then q_pk rec own le re h o (some b) else some b) = some b'
    by_cases c : q_lg own le re h o
    · rw [if_pos c]
      unfold q_pk
      by_cases d : q_ov rec own le re h o ≤ b.1
      · simp only [d, if_true]; exact q_fd_some rec own le re h j (o + 1) b
      · simp only [d, if_false]; exact q_fd_some rec own le re h j (o + 1) _
    · rw [if_neg c]; exact q_fd_some rec own le re h j (o + 1) b
/-- nothing can be laid just where nothing is found -/
theorem q_fd_none (rec : (Nat → Int32) → Nat → Nat → Nat → Nat → Int32) (own : Nat → Int32) (le re h : Nat) : ∀ (j o : Nat), q_fd rec own le re h j o none = none ↔ ∀ o', o ≤ o' → o' < o + j → ¬ q_lg own le re h o'
  | 0, o => ⟨fun _ o' h1 h2 => by omega, fun _ => rfl⟩
  | j + 1, o => by
    show q_fd rec own le re h j (o + 1) (if q_lg own le re h o then q_pk rec own le re h o none else none) = none ↔ _
    by_cases c : q_lg own le re h o
    · rw [if_pos c]
      constructor
      · intro q
        obtain ⟨b', hb⟩ := q_fd_some rec own le re h j (o + 1) (q_ov rec own le re h o, o)
        have : q_pk rec own le re h o none = some (q_ov rec own le re h o, o) := rfl
        rw [this, hb] at q
        cases q
      · intro q
        exact absurd c (q o (Nat.le_refl _) (by omega))
    · rw [if_neg c, q_fd_none rec own le re h j (o + 1)]
      constructor
      · intro q o' h1 h2
        by_cases d : o' = o
        · rw [d]; exact c
        · exact q o' (by omega) (by omega)
      · intro q o' h1 h2
        exact q o' (by omega) (by omega)
/-- a tile is gone from the hands -/
theorem q_up4 {own : Nat → Int32} (ho : ∀ t, t < 28 → ∃ w, w < 5 ∧ own t = Int32.ofNat w) {t h : Nat} (ht : t < 28) (hh : h < 4) (hot : own t = Int32.ofNat h) : (∀ s, s < 28 → ∃ w, w < 5 ∧ upd own t (Int32.ofNat 4) s = Int32.ofNat w) ∧ q_all (q_cnt (upd own t (Int32.ofNat 4))) + 1 = q_all (q_cnt own) := by
  have hu : ∀ j, j < 28 → upd own t (Int32.ofNat 4) j = if j = t then Int32.ofNat 4 else own j := fun j _ => rfl
  refine ⟨fun s hs => ?_, ?_⟩
  · rw [hu s hs]
    by_cases c : s = t
    · exact ⟨4, by omega, by rw [if_pos c]⟩
    · rw [if_neg c]; exact ho s hs
  · have h1 := (q_out ht hh hot hu).1
    have e0 := h1 0 (by omega)
    have e1 := h1 1 (by omega)
    have e2 := h1 2 (by omega)
    have e3 := h1 3 (by omega)
    rw [q_all_eq, q_all_eq]
    obtain rfl | rfl | rfl | rfl : h = 0 ∨ h = 1 ∨ h = 2 ∨ h = 3 := by omega
    all_goals (
      simp only [if_true, Nat.zero_ne_one, if_false, Nat.one_ne_zero] at e0 e1 e2 e3
      simp (decide := true) only [if_false, if_true] at e0 e1 e2 e3
      omega)
theorem q_eb_ok : ∀ t, t < 28 → ∀ e, e < 16 → e % 8 < 7 → (q_lo t = e % 8 ∨ q_hi t = e % 8) → q_eb t e < 16 ∧ q_eb t e % 8 < 7 ∧ e % 8 ≤ q_pip t := by decide +kernel
theorem q_wt_le : ∀ e, e < 16 → e % 8 < 7 → q_wt e ≤ 12 := by decide +kernel
end QA
