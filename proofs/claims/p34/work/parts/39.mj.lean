/-! lay: the call -/
section MJ
variable {D : am_D} {n p : Nat} {T V : Nat → Nat}
/-- the class's cells of one state, the model's of another one -/
def q_hy (Dc Dm : am_D) : am_D := (fun a => if a ≤ 105 then Dc.1 a else Dm.1 a, Dm.2)
theorem q_hy_c {Dc Dm : am_D} {a : Nat} (h : a ≤ 105) : (q_hy Dc Dm).1 a = Dc.1 a := if_pos h
theorem q_hy_m {Dc Dm : am_D} {a : Nat} (h : 106 ≤ a) : (q_hy Dc Dm).1 a = Dm.1 a := if_neg (by omega)
theorem q_hy_KC {Dc Dm : am_D} (h : q_ch (q_c Dc 1) (q_s Dm 0) n T V) : q_KC (q_hy Dc Dm) n T V := q_ch_w (fun i j h1 h2 _ => by
  show (q_hy Dc Dm).1 (1 + i) j = Dc.1 (1 + i) j
  rw [q_hy_c (by omega)]) (fun k hk => by
  show (q_hy Dc Dm).1 107 _ = Dm.1 107 _
  rw [q_hy_m (by omega)]) h
theorem q_M59 {D E : am_D} (h : E.1 107 = D.1 107) : m59 E = m59 D := by unfold m59; rw [h]
theorem q_M54 {D E : am_D} (h1 : E.1 109 = D.1 109) (h2 : E.1 110 = D.1 110) (a b : Int32) : m54 E a b = m54 D a b := by unfold m54; rw [h1, h2]
theorem q_M61 {D E : am_D} (h : E.1 107 = D.1 107) (h1 : E.1 109 = D.1 109) (h2 : E.1 110 = D.1 110) : m61 E = m61 D := by
  unfold m61 m60 m54
  rw [h, h1, h2]
theorem q_M64 {D E : am_D} (h : E.1 107 = D.1 107) (h1 : E.1 109 = D.1 109) (h2 : E.1 110 = D.1 110) : m64 E = m64 D := by
  unfold m64
  rw [q_M61 h h1 h2, q_M59 h]
  unfold m52 m51
  rw [h, h1, h2]
/-- what is so where a tile can be laid -/
theorem q220z (hK : q_K D n p T V) {x t e : Nat} (hx : x < 4) (ht : t < 28) (h : m220 D (Int32.ofNat x) (Int32.ofNat t) (Int32.ofNat e) = 0) : p = 1 ∧ D.1 107 1 = Int32.ofNat x ∧ q_P D t = Int32.ofNat x ∧ (n = 0 ∨ q_sh t (m156 D (Int32.ofNat e))) := by
  have hp := k_p3 hK
  obtain ⟨u, hu, e1, e2⟩ := k_tu hK
  unfold m220 at h
  rw [k_p' hK, e2, q203 D ht, k_pl hK t ht, q158 hK ht] at h
  by_cases hp1 : p = 1
  · subst hp1
    rw [if_pos (show Int32.ofNat 1 = 1 from rfl), if_pos rfl] at h
    by_cases c1 : Int32.ofNat x = Int32.ofNat u
    · rw [if_pos c1] at h
      by_cases c2 : q_P D t = Int32.ofNat x
      · rw [if_pos c2] at h
        by_cases c3 : n = 0 ∨ q_sh t (m156 D (Int32.ofNat e))
        · exact ⟨rfl, e1.trans c1.symm, c2, c3⟩
        · rw [if_neg c3, if_pos (show Int32.ofNat 0 = 0 from rfl)] at h
          exact absurd h (by decide)
      · rw [if_neg c2] at h
        exact absurd h (by decide)
    · rw [if_neg c1] at h
      exact absurd h (by decide)
  · rw [if_neg (by rw [q_l1, q_eq (by omega) (by omega)]; exact hp1)] at h
    exact absurd h (by decide)
def q_fi (w : Nat) : Nat := if w % 5 = 0 then w / 5 else 0
theorem q_fi1 : ∀ w, w ≤ 24 → m256 (Int32.ofNat w) = Int32.ofNat (q_fi w) ∧ m65 (Int32.ofNat w) = Int32.ofNat (q_fi w) := by decide +kernel
theorem q_fi_le (w : Nat) (h : w ≤ 24) : q_fi w ≤ 4 := by unfold q_fi; split <;> omega
theorem q_all_eq (g : Int32 → Nat) : q_all g = g (Int32.ofNat 0) + (g (Int32.ofNat 1) + (g (Int32.ofNat 2) + (g (Int32.ofNat 3) + 0))) := rfl
/-- a tile goes out of a hand: tiles, pips -/
theorem q_out {f g : Nat → Int32} {t x : Nat} (ht : t < 28) (hx : x < 4) (hf : f t = Int32.ofNat x) (hg : ∀ j, j < 28 → g j = if j = t then Int32.ofNat 4 else f j) : (∀ y, y < 4 → q_cnt g (Int32.ofNat y) + (if x = y then 1 else 0) = q_cnt f (Int32.ofNat y)) ∧ (∀ y, y < 4 → q_pips g (Int32.ofNat y) + (if x = y then q_pip t else 0) = q_pips f (Int32.ofNat y)) := by
  have gt : g t = Int32.ofNat 4 := by rw [hg t ht, if_pos rfl]
  have gn : ∀ j, j < 28 → j ≠ t → g j = f j := fun j hj hn => by rw [hg j hj, if_neg hn]
  refine ⟨fun y hy => ?_, fun y hy => ?_⟩
  · have := q_cnt_upd ht gn (Int32.ofNat y)
    rw [hf, gt] at this
    simp (disch := omega) only [q_eq] at this
    rw [if_neg (show ¬ 4 = y by omega)] at this
    omega
  · have := q_S_upd (f := fun t => if f t = Int32.ofNat y then q_pip t else 0) (g := fun t => if g t = Int32.ofNat y then q_pip t else 0) (p := t) 28 0 (by omega) (by omega) (fun j _ h2 h3 => by rw [gn j (by omega) h3])
    rw [← q_pips_def, ← q_pips_def, hf, gt] at this
    simp (disch := omega) only [q_eq] at this
    rw [if_neg (show ¬ 4 = y by omega)] at this
    omega
/-- no tile, no pips -/
theorem q_pips_0 {f : Nat → Int32} {v : Int32} (h : q_cnt f v = 0) : q_pips f v = 0 := by
  have h0 := q_cnt_0.mp h
  rw [q_pips_def, q_S_zero]
  intro t _ ht
  rw [if_neg (h0 t (by omega))]
/-- what a lay brings -/
noncomputable def q_gain (D : am_D) (x w : Nat) : Nat := q_fi w + (if q_cnt (q_P D) (Int32.ofNat x) = 1 then (q_all (q_pips (q_P D)) - q_pips (q_P D) (Int32.ofNat x)) / 5 else 0)
theorem q_all_ge (g : Int32 → Nat) {x : Nat} (hx : x < 4) : g (Int32.ofNat x) ≤ q_all g := by
  rw [q_all_eq]
  obtain rfl | rfl | rfl | rfl : x = 0 ∨ x = 1 ∨ x = 2 ∨ x = 3 := by omega
  all_goals omega
theorem q_all_le (f : Nat → Int32) : q_all (q_pips f) ≤ 1344 := by
  have h0 := q_pips_le f (Int32.ofNat 0)
  have h1 := q_pips_le f (Int32.ofNat 1)
  have h2 := q_pips_le f (Int32.ofNat 2)
  have h3 := q_pips_le f (Int32.ofNat 3)
  rw [q_all_eq]
  omega
theorem q222 {N : Nat} (hN : 2000 ≤ N) (hK : q_K D n p T V) {x t e w : Nat} (hx : x < 4) (hw : w ≤ 24) (h : m161 D (Int32.ofNat t) (Int32.ofNat e) = Int32.ofNat w) : m222 N D (Int32.ofNat x) (Int32.ofNat t) (Int32.ofNat e) = some (Int32.ofNat (q_gain D x w)) := by
  have hc := q_cnt_le (q_P D) (Int32.ofNat x)
  have hall := q_all_le (q_P D)
  have hge := q_all_ge (q_pips (q_P D)) hx
  have f1 : q_cnt (D.1 7) (Int32.ofNat x) = q_cnt (q_P D) (Int32.ofNat x) := q_cnt_congr (k_pl hK)
  have f2 : q_pips (D.1 7) = q_pips (q_P D) := funext fun v => q_pips_congr (k_pl hK)
  have hfl := q_fi_le w hw
  unfold m222 q_gain
  rw [h, (q_fi1 w hw).1, q204 hN, f1, q211 hN, q205 hN, f2]
  simp only [am_lt, Option.bind_some]
  by_cases c : q_cnt (q_P D) (Int32.ofNat x) = 1
  · rw [if_pos (by rw [c]; rfl), if_pos c, q_sub hge, q_l5, q_div (by omega) (by omega), q_add]
  · rw [if_neg (by rw [q_l1, q_eq (by omega) (by omega)]; exact c), if_neg c, Nat.add_zero]
end MJ
