/-! texts: the class's machine of states; how the model reads a character -/
section NF
variable {D : am_D}
/-- what the texts are -/
def q_T (D : am_D) (l : Nat) (tx : Nat → Nat) : Prop := l ≤ 60 ∧ D.1 91 1 = Int32.ofNat l ∧ D.1 106 5 = Int32.ofNat l ∧ ∀ k, k < l → D.1 92 k = Int32.ofNat (tx k) ∧ D.1 108 k = Int32.ofNat (tx k) ∧ 33 ≤ tx k ∧ tx k ≤ 126
theorem q_I_T (hI : q_I D) : ∃ l tx, q_T D l tx := by
  obtain ⟨l, b1, b2, b3, b4⟩ := q_I_tx hI
  refine ⟨l, fun k => (D.1 108 k).toNatClampNeg, b1, b2, b3, fun k hk => ?_⟩
  obtain ⟨c1, w, c2, c3, c4⟩ := b4 k hk
  have e : (D.1 108 k).toNatClampNeg = w := by rw [c4, q_tn (by omega)]
  rw [c1]
  show D.1 108 k = Int32.ofNat (D.1 108 k).toNatClampNeg ∧ D.1 108 k = Int32.ofNat (D.1 108 k).toNatClampNeg ∧ 33 ≤ (D.1 108 k).toNatClampNeg ∧ (D.1 108 k).toNatClampNeg ≤ 126
  rw [e]
  exact ⟨c4, c4, c2, c3⟩
/-- so many characters are read without an error -/
def q_ok (o : Int32) (tx : Nat → Nat) : Int32 → Nat → Nat → Int32 → Prop
  | s, _, 0, s' => s' = s
  | s, i, k + 1, s' => m242 o s (Int32.ofNat (tx i)) ≠ -1 ∧ q_ok o tx (m242 o s (Int32.ofNat (tx i))) (i + 1) k s'
theorem q_ok_tr {o : Int32} {tx : Nat → Nat} : ∀ (k k' i : Nat) {s s' s'' : Int32}, q_ok o tx s i k s' → q_ok o tx s' (i + k) k' s'' → q_ok o tx s i (k + k') s''
  | 0, k', i, s, s', s'', h1, h2 => by
    have e : s' = s := h1
    subst e
    rw [Nat.zero_add]; exact h2
  | k + 1, k', i, s, s', s'', h1, h2 => by
    rw [show k + 1 + k' = (k + k') + 1 by omega]
    exact ⟨h1.1, q_ok_tr k k' (i + 1) h1.2 (by rw [show i + 1 + k = i + (k + 1) by omega]; exact h2)⟩
/-- where the first error is, and in which state -/
def q_err (o : Int32) (tx : Nat → Nat) (l e : Nat) (s' : Int32) : Prop := e ≤ l ∧ q_ok o tx 0 0 e s' ∧ (e < l → m242 o s' (Int32.ofNat (tx e)) = -1)
theorem q_ok_un {o : Int32} {tx : Nat → Nat} : ∀ (k k' i : Nat) {s s1 s2 : Int32}, q_ok o tx s i k s1 → q_ok o tx s i k' s2 → (k < k' → m242 o s1 (Int32.ofNat (tx (i + k))) ≠ -1) ∧ (k = k' → s1 = s2)
  | 0, 0, i, s, s1, s2, h1, h2 => ⟨fun q => by omega, fun _ => h1.trans (show s = s2 from Eq.symm h2)⟩
  | 0, k' + 1, i, s, s1, s2, h1, h2 => by
    have e : s1 = s := h1
    subst e
    exact ⟨fun _ => h2.1, fun q => by omega⟩
  | k + 1, 0, i, s, s1, s2, h1, h2 => ⟨fun q => by omega, fun q => by omega⟩
  | k + 1, k' + 1, i, s, s1, s2, h1, h2 => by
    have := q_ok_un k k' (i + 1) h1.2 h2.2
    rw [show i + 1 + k = i + (k + 1) by omega] at this
    exact ⟨fun q => this.1 (by omega), fun q => this.2 (by omega)⟩
theorem q_err_un {o : Int32} {tx : Nat → Nat} {l e e' : Nat} {s s' : Int32} (h : q_err o tx l e s) (h' : q_err o tx l e' s') : e = e' ∧ s = s' := by
  obtain ⟨a1, a2, a3⟩ := h
  obtain ⟨b1, b2, b3⟩ := h'
  have u := q_ok_un e e' 0 a2 b2
  have u' := q_ok_un e' e 0 b2 a2
  rw [Nat.zero_add] at u u'
  have he : e = e' := by
    rcases Nat.lt_trichotomy e e' with c | c | c
    · exact absurd (a3 (by omega)) (u.1 c)
    · exact c
    · exact absurd (b3 (by omega)) (u'.1 c)
  exact ⟨he, u.2 he⟩
theorem q234 {l : Nat} {tx : Nat → Nat} (hT : q_T D l tx) {k : Nat} (hk : k < l) : m234 D (Int32.ofNat k) = Int32.ofNat (tx k) := by
  obtain ⟨h1, h2, h3, h4⟩ := hT
  unfold m234
  rw [h2, if_neg (q_nle (by omega) hk), q_rt _ (by omega) (by omega)]
  exact (h4 k hk).1
theorem q240_L {N : Nat} {l : Nat} {tx : Nat → Nat} (hT : q_T D l tx) {o : Int32} : ∀ (r i m : Nat) (s : Int32), i + r = l → r < m → q_ok o tx 0 0 i s → ∃ e s' q, m240_L4 N D o m s (Int32.ofNat i) = some q ∧ (if q.1 = 0 then Int32.ofNat l else q.2) = Int32.ofNat e ∧ q_err o tx l e s'
  | 0, i, m + 1, s, hi, hm, h => by
    obtain rfl : i = l := by omega
    refine ⟨i, s, (0, 0), ?_, rfl, Nat.le_refl _, h, fun q => absurd q (Nat.lt_irrefl _)⟩
    have := hT.1
    rw [m240_L4, hT.2.1, if_pos (q_yle (by omega) (Nat.le_refl _))]
  | r + 1, i, m + 1, s, hi, hm, h => by
    have h60 := hT.1
    rw [m240_L4, hT.2.1, if_neg (q_nle (by omega) (by omega))]
    simp only [am_lt]
    rw [q234 hT (by omega), show Int32.ofNat i + 1 = Int32.ofNat (i + 1) from q_add i 1]
    by_cases c : m242 o s (Int32.ofNat (tx i)) = -1
    · rw [if_pos c]
      exact ⟨i, s, (1, Int32.ofNat i), rfl, rfl, by omega, h, fun _ => c⟩
    · rw [if_neg c]
      refine q240_L hT r (i + 1) m _ (by omega) (by omega) (q_ok_tr i 1 0 h ?_)
      rw [Nat.zero_add]
      exact ⟨c, rfl⟩
  | _, _, 0, _, _, hm, _ => by omega
theorem q240 {N : Nat} (hN : 2000 ≤ N) {l : Nat} {tx : Nat → Nat} (hT : q_T D l tx) (o : Int32) : ∃ e s', m240 N D o = some (Int32.ofNat e) ∧ q_err o tx l e s' := by
  have h60 := hT.1
  obtain ⟨e, s', q, h1, h2, h3⟩ := q240_L (N := N) hT (o := o) l 0 N 0 (by omega) (by omega) rfl
  refine ⟨e, s', ?_, h3⟩
  have h1' : m240_L4 N D o N 0 0 = some q := h1
  unfold m240
  rw [h1', Option.bind_some, hT.2.1]
  by_cases c : q.1 = 0
  · rw [if_pos c] at h2 ⊢; rw [h2]
  · rw [if_neg c] at h2 ⊢; rw [h2]
/-! how the model reads -/
def q_ps (D0 D : am_D) (i : Nat) : Prop := (∀ a, a ≠ 106 → D.1 a = D0.1 a) ∧ (∀ j, j ≠ 6 → j ≠ 7 → j ≠ 8 → D.1 106 j = D0.1 106 j) ∧ D.1 106 6 = Int32.ofNat i ∧ D.2 = D0.2
def q_cx (l : Nat) (tx : Nat → Nat) (i : Nat) : Nat := if i < l then tx i else 0
theorem q_ps_6 {D0 : am_D} {i : Nat} (h : q_ps D0 D i) (j : Nat) : q_ps D0 (am_uI D 106 6 (Int32.ofNat j)) j := ⟨fun a ha => by rw [q_uI_ne _ ha]; exact h.1 a ha, fun k h1 h2 h3 => by rw [q_uI_at, if_neg (by omega)]; exact h.2.1 k h1 h2 h3, q_uIs _ _ _ _, h.2.2.2⟩
theorem q_ps_78 {D0 : am_D} {i : Nat} (h : q_ps D0 D i) {j : Nat} (hj : j = 7 ∨ j = 8) (x : Int32) : q_ps D0 (am_uI D 106 j x) i := ⟨fun a ha => by rw [q_uI_ne _ ha]; exact h.1 a ha, fun k h1 h2 h3 => by rw [q_uI_at, if_neg (by omega)]; exact h.2.1 k h1 h2 h3, by rw [q_uI_at, if_neg (by omega)]; exact h.2.2.1, h.2.2.2⟩
variable {D0 : am_D} {l : Nat} {tx : Nat → Nat} {i : Nat}
theorem q91 (hT : q_T D0 l tx) (h : q_ps D0 D i) (hi : i ≤ l) : m91 D = some (Int32.ofNat (q_cx l tx i)) := by
  obtain ⟨h1, h2, h3, h4⟩ := hT
  have e5 : D.1 106 5 = Int32.ofNat l := by rw [h.2.1 5 (by omega) (by omega) (by omega)]; exact h3
  unfold m91 q_cx
  rw [e5, h.2.2.1]
  by_cases c : i < l
  · have i60 : 0 ≤ Int32.ofNat i ∧ Int32.ofNat i < 60 := q_in (n := 60) (by omega) (by omega)
    rw [if_neg (q_nle (by omega) c), if_pos i60, if_pos c, q_tn (by omega), h.1 108 (by omega), (h4 i c).2.1]
  · rw [if_pos (q_yle (by omega) (by omega)), if_neg c]; rfl
theorem q_cx_le (hT : q_T D0 l tx) (i : Nat) : q_cx l tx i ≤ 126 ∧ (i < l → q_cx l tx i = tx i) ∧ (¬ i < l → q_cx l tx i = 0) := by
  unfold q_cx
  by_cases c : i < l
  · rw [if_pos c]
    have := (hT.2.2.2 i c).2.2.2
    exact ⟨this, fun _ => rfl, fun q => absurd c q⟩
  · rw [if_neg c]
    exact ⟨by omega, fun q => absurd q c, fun _ => rfl⟩
theorem q92 (hT : q_T D0 l tx) (h : q_ps D0 D i) (hi : i ≤ l) {c : Nat} (hc : c < 1000) : m92 D (Int32.ofNat c) = some (if q_cx l tx i = c then (1, am_uI D 106 6 (Int32.ofNat (i + 1))) else (0, am_uI D 106 6 (Int32.ofNat i))) := by
  have h126 := (q_cx_le hT i).1
  unfold m92
  rw [q91 hT h hi, Option.bind_some, h.2.2.1]
  by_cases e : q_cx l tx i = c
  · rw [if_pos (show Int32.ofNat (q_cx l tx i) = Int32.ofNat c by rw [e]), if_pos e]
    show (if (1 : Int32) &&& 1 = 1 then some ((1 : Int32), am_uI D 106 6 (Int32.ofNat i + (if (1 : Int32) = 0 then 0 else 1))) else none) = _
    rw [if_neg (show ¬ (1 : Int32) = 0 by decide), if_pos (show (1 : Int32) &&& 1 = 1 by decide), show Int32.ofNat i + 1 = Int32.ofNat (i + 1) from q_add i 1]
  · rw [if_neg (show ¬ Int32.ofNat (q_cx l tx i) = Int32.ofNat c by rw [q_eq (by omega) (by omega)]; exact e), if_neg e]
    show (if (0 : Int32) &&& 1 = 0 then some ((0 : Int32), am_uI D 106 6 (Int32.ofNat i + (if (0 : Int32) = 0 then 0 else 1))) else none) = _
    rw [if_pos (show (0 : Int32) = 0 from rfl), if_pos (show (0 : Int32) &&& 1 = 0 by decide), show Int32.ofNat i + 0 = Int32.ofNat i from Int32.add_zero _]
theorem q93 (hT : q_T D0 l tx) (h : q_ps D0 D i) (hi : i ≤ l) {a b : Nat} (ha : a ≤ b) (hb : b ≤ 9) : m93 D (Int32.ofNat a) (Int32.ofNat b) = some (if 48 + a ≤ q_cx l tx i ∧ q_cx l tx i ≤ 48 + b then (Int32.ofNat (q_cx l tx i - 48), am_uI D 106 6 (Int32.ofNat (i + 1))) else (-1, am_uI D 106 6 (Int32.ofNat i))) := by
  have h126 := (q_cx_le hT i).1
  unfold m93
  rw [q91 hT h hi, Option.bind_some, q_l48, q_add, q_add, h.2.2.1]
  unfold m46
  by_cases c : 48 + a ≤ q_cx l tx i ∧ q_cx l tx i ≤ 48 + b
  · have hne : ¬ Int32.ofNat (q_cx l tx i - 48) = -1 := fun q => by
      have : (Int32.ofNat (q_cx l tx i - 48)).toInt = (-1 : Int32).toInt := by rw [q]
      rw [q_ti (by omega)] at this
      have e : (-1 : Int32).toInt = -1 := by decide
      omega
    rw [if_neg (q_nlt (by omega) c.1), if_neg (q_nlt (by omega) c.2), if_pos c, if_neg (show ¬ (1 : Int32) = 0 by decide), Option.bind_some, Option.bind_some, q_sub (by omega)]
    simp only [am_lt]
    rw [if_neg hne, show Int32.ofNat i + 1 = Int32.ofNat (i + 1) from q_add i 1]
  · rw [if_neg c]
    have e : (if Int32.ofNat (q_cx l tx i) < Int32.ofNat (48 + a) then (0 : Int32) else if Int32.ofNat (48 + b) < Int32.ofNat (q_cx l tx i) then 0 else 1) = 0 := by
      by_cases c1 : q_cx l tx i < 48 + a
      · rw [if_pos (q_ylt (by omega) c1)]
      · rw [if_neg (q_nlt (by omega) (by omega)), if_pos (q_ylt (by omega) (by omega))]
    rw [e, if_pos rfl, Option.bind_some]
    simp only [am_lt]
    rw [if_pos trivial, show Int32.ofNat i + 0 = Int32.ofNat i from Int32.add_zero _]
end NF
