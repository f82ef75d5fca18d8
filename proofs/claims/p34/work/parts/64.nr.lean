/-! the class's functions look at the class's cells alone and change no others -/
section NR
variable {D M : am_D} {N : Nat}
theorem h_lt {β γ : Type} {f : β → γ} {h : am_D → am_D} {F : am_D → Option β} {F' : am_D → Option γ} {E E' : am_D} (e : E' = h E) (hF : ∀ E, F' (h E) = (F E).map f) : am_lt E' F' = (am_lt E F).map f := by
  subst e; exact hF E
theorem h_li {α β γ : Type} {f : β → γ} {x x' : α} {F : α → Option β} {F' : α → Option γ} (e : x' = x) (hF : ∀ x, F' x = (F x).map f) : am_lt x' F' = (am_lt x F).map f := by
  subst e; exact hF x'
theorem h_bd {α α' β γ : Type} {f : β → γ} {h : α → α'} {x : Option α} {x' : Option α'} {F : α → Option β} {F' : α' → Option γ} (e : x' = x.map h) (hF : ∀ a, F' (h a) = (F a).map f) : x'.bind F' = (x.bind F).map f := by
  subst e
  cases x with
  | none => rfl
  | some a => exact hF a
theorem h_bi {α β γ : Type} {f : β → γ} {x x' : Option α} {F : α → Option β} {F' : α → Option γ} (e : x' = x) (hF : ∀ a, F' a = (F a).map f) : x'.bind F' = (x.bind F).map f := by
  subst e
  cases x' with
  | none => rfl
  | some a => exact hF a
theorem h_if {β γ : Type} {f : β → γ} {c c' : Prop} [Decidable c] [Decidable c'] {A B : Option β} {A' B' : Option γ} (hc : c' ↔ c) (hA : A' = A.map f) (hB : B' = B.map f) : (if c' then A' else B') = (if c then A else B).map f := by
  by_cases h : c
  · rw [if_pos h, if_pos (hc.mpr h), hA]
  · rw [if_neg h, if_neg (fun q => h (hc.mp q)), hB]
theorem h_uC {a j : Nat} {x : Int32} (h : a ≤ 105) : am_uI (q_hy D M) a j x = q_hy (am_uI D a j x) M := by
  refine Prod.ext (funext fun b => funext fun i => ?_) rfl
  by_cases c : b ≤ 105
  · rw [q_hy_c c, q_uI_at, q_uI_at, q_hy_c c]
  · rw [q_hy_m (by omega), q_uI_ne _ (by omega), q_hy_m (by omega)]
theorem h_uM {a j : Nat} {x : Int32} (h : 106 ≤ a) : am_uI (q_hy D M) a j x = q_hy D (am_uI M a j x) := by
  refine Prod.ext (funext fun b => funext fun i => ?_) rfl
  by_cases c : b ≤ 105
  · rw [q_hy_c c, q_uI_ne _ (by omega), q_hy_c c]
  · rw [q_hy_m (by omega), q_uI_at, q_uI_at, q_hy_m (by omega)]
theorem h_rpC {a n : Nat} {p x : Int32} (h : a ≤ 105) : am_rput (q_hy D M) a n p x = q_hy (am_rput D a n p x) M := by
  unfold am_rput
  by_cases c : 0 ≤ p ∧ p < Int32.ofNat n
  · rw [if_pos c, if_pos c, h_uC h]
  · rw [if_neg c, if_neg c]
theorem h_raC {a n : Nat} {p x : Int32} (h : a ≤ 105) : am_radd (q_hy D M) a n p x = q_hy (am_radd D a n p x) M := by
  unfold am_radd
  rw [q_hy_c h]
  by_cases c : 0 ≤ p ∧ p < Int32.ofNat n
  · rw [if_pos c, if_pos c, h_uC h]
  · rw [if_neg c, if_neg c]
theorem h_self : q_hy D D = D := by
  refine Prod.ext (funext fun b => ?_) rfl
  by_cases c : b ≤ 105
  · exact q_hy_c c
  · exact q_hy_m (by omega)
theorem h156 (v : Int32) : m156 (q_hy D M) v = m156 D v := rfl
theorem h155 (v : Int32) : m155 (q_hy D M) v = m155 D v := rfl
theorem h157 (v : Int32) : m157 (q_hy D M) v = m157 D v := rfl
theorem h158 (v w : Int32) : m158 (q_hy D M) v w = m158 D v w := rfl
theorem h159 (v : Int32) : m159 (q_hy D M) v = m159 D v := rfl
theorem h162 (v w : Int32) : m162 (q_hy D M) v w = m162 D v w := rfl
theorem h161 (v w : Int32) : m161 (q_hy D M) v w = m161 D v w := rfl
theorem h203 (v : Int32) : m203 (q_hy D M) v = m203 D v := rfl
theorem h219 : m219 (q_hy D M) = m219 D := rfl
theorem h220 (a b c : Int32) : m220 (q_hy D M) a b c = m220 D a b c := rfl
theorem h234 (v : Int32) : m234 (q_hy D M) v = m234 D v := rfl
theorem h235 (v : Int32) : m235 (q_hy D M) v = m235 D v := rfl
theorem h236 (v : Int32) : m236 (q_hy D M) v = m236 D v := rfl
theorem h237 (v : Int32) : m237 (q_hy D M) v = m237 D v := rfl
theorem h238 (v : Int32) : m238 (q_hy D M) v = m238 D v := rfl
theorem h204_L (v : Int32) : ∀ (n : Nat) (a b : Int32), m204_L4 N (q_hy D M) v n a b = m204_L4 N D v n a b
  | 0, _, _ => rfl
  | n + 1, a, b => by
    rw [m204_L4, m204_L4]
    simp only [h204_L v n, q_hy_c (show 7 ≤ 105 by omega)]
theorem h204 (v : Int32) : m204 N (q_hy D M) v = m204 N D v := by
  unfold m204
  rw [h204_L]
theorem h205_L (v : Int32) : ∀ (n : Nat) (a b : Int32), m205_L4 N (q_hy D M) v n a b = m205_L4 N D v n a b
  | 0, _, _ => rfl
  | n + 1, a, b => by
    rw [m205_L4, m205_L4]
    simp only [h205_L v n, q_hy_c (show 7 ≤ 105 by omega)]
theorem h205 (v : Int32) : m205 N (q_hy D M) v = m205 N D v := by
  unfold m205
  rw [h205_L]
theorem h208_L (v : Int32) : ∀ (n : Nat) (a b : Int32), m208_L4 N (q_hy D M) v n a b = m208_L4 N D v n a b
  | 0, _, _ => rfl
  | n + 1, a, b => by
    rw [m208_L4, m208_L4]
    simp only [h208_L v n, q_hy_c (show 7 ≤ 105 by omega)]
    rfl
theorem h208 (v : Int32) : m208 N (q_hy D M) v = m208 N D v := by
  unfold m208
  rw [h208_L]
theorem h211_L : ∀ (n : Nat) (a b : Int32), m211_L4 N (q_hy D M) n a b = m211_L4 N D n a b
  | 0, _, _ => rfl
  | n + 1, a, b => by
    rw [m211_L4, m211_L4]
    simp only [h211_L n, h205]
theorem h211 : m211 N (q_hy D M) = m211 N D := by
  unfold m211
  rw [h211_L]
theorem h212 (a b : Int32) : m212 N (q_hy D M) a b = m212 N D a b := by
  unfold m212
  rw [h204, h203, q_hy_c (show 1 ≤ 105 by omega)]
theorem h221 (a : Int32) : m221 N (q_hy D M) a = m221 N D a := by
  unfold m221
  rw [h208, q_hy_c (show 1 ≤ 105 by omega), q_hy_c (show 8 ≤ 105 by omega)]
theorem h222 (a b c : Int32) : m222 N (q_hy D M) a b c = m222 N D a b c := by
  unfold m222
  rw [h161, h204, h211, h205]
theorem h239_L : ∀ (n : Nat) (a : Int32), m239_L2 N (q_hy D M) n a = m239_L2 N D n a
  | 0, _ => rfl
  | n + 1, a => by
    rw [m239_L2, m239_L2]
    simp only [h239_L n, h234, q_hy_c (show 91 ≤ 105 by omega)]
theorem h239 (a : Int32) : m239 N (q_hy D M) a = m239 N D a := by
  unfold m239
  rw [h239_L]
theorem h37 (a : Int32) : m37 N (q_hy D M) a = m37 N D a := by
  unfold m37
  rw [h221, h234, h236, h237, h220, q_hy_c (show 1 ≤ 105 by omega)]
theorem h165 (v : Int32) : m165 (q_hy D M) v = q_hy (m165 D v) M := by
  unfold m165
  simp (disch := omega) only [am_lt, h_rpC, q_hy_c]
theorem h164_L (v1 v2 v3 v4 v5 v6 : Int32) : ∀ (n : Nat) (D : am_D) (v : Int32), m164_L64 N v1 v2 v3 v4 v5 v6 n (q_hy D M) v = (m164_L64 N v1 v2 v3 v4 v5 v6 n D v).map (fun r => q_hy r M)
  | 0, _, _ => rfl
  | n + 1, D, v => by
    rw [m164_L64, m164_L64]
    refine h_if Iff.rfl rfl (h_lt (h165 v) (fun E => h_li rfl (fun x => h164_L v1 v2 v3 v4 v5 v6 n E x)))
theorem h164 (a b c : Int32) : m164 N (q_hy D M) a b c = (m164 N D a b c).map (fun r => q_hy r M) := by
  unfold m164
  refine h_if Iff.rfl (h_li rfl fun q2 => h_li rfl fun q6 => h_li rfl fun x10 => h_li rfl fun q12 => h_li rfl fun x16 => h_bd (h164_L _ _ _ _ _ _ N D x16) fun q23 => h_lt (h := fun r => q_hy r M) (h_rpC (by omega)) fun D25 => h_li rfl fun q27 => h_lt (h := fun r => q_hy r M) (h_rpC (by omega)) fun D32 => h_lt (h := fun r => q_hy r M) (h_rpC (by omega)) fun D34 => h_lt (h := fun r => q_hy r M) (h_uC (by omega)) fun D36 => h_lt (h := fun r => q_hy r M) (h_rpC (by omega)) fun D38 => h_li rfl fun q40 => h_lt (h := fun r => q_hy r M) (h_uC (by omega)) fun D45 => h_lt (h := fun r => q_hy r M) (h_uC (by omega)) fun D47 => rfl) rfl
theorem h227 : m227 (q_hy D M) = q_hy (m227 D) M := by
  unfold m227
  simp (disch := omega) only [am_lt, h_uC]
theorem h223 (a b c : Int32) : m223 N (q_hy D M) a b c = (m223 N D a b c).map (fun r => (r.1, q_hy r.2 M)) := by
  unfold m223
  refine h_bi (h222 a b c) fun q1 => h_bd (h164 b c a) fun q3 => h_lt (h := fun r => q_hy r M) (h_rpC (by omega)) fun D5 => h_lt (h := fun r => q_hy r M) (h_raC (by omega)) fun D7 => h_lt (h := fun r => q_hy r M) (h_uC (by omega)) fun D9 => h_lt (h := fun r => q_hy r M) (h_uC (by omega)) fun D11 => h_lt (h := fun r => q_hy r M) (h_uC (by omega)) fun D13 => h_bi (h204 a) fun q15 => h_if Iff.rfl (h_lt (h := fun r => q_hy r M) h227 fun q18 => rfl) (h_lt (h := fun r => q_hy r M) (h_uC (by omega)) fun D20 => rfl)
theorem h226 : m226 N (q_hy D M) = (m226 N D).map (fun r => q_hy r M) := by
  unfold m226
  refine h_bi (h205 _) fun q1 => h_bi (h205 _) fun q3 => h_li rfl fun x5 => h_bi (h205 _) fun q7 => h_bi (h205 _) fun q9 => h_li rfl fun x11 => h_if Iff.rfl (h_lt (h := fun r => q_hy r M) (h_raC (by omega)) fun _ => rfl) (h_lt (h := fun r => q_hy r M) (h_raC (by omega)) fun _ => rfl)
theorem h224 (a : Int32) : m224 N (q_hy D M) a = (m224 N D a).map (fun r => (r.1, q_hy r.2 M)) := by
  unfold m224
  refine h_lt (h := fun r => q_hy r M) ?_ fun q1 => h_lt (h := fun r => q_hy r M) (h_raC (by omega)) fun D9 => h_lt (h := fun r => q_hy r M) (h_uC (by omega)) fun D11 => h_lt (h := fun r => q_hy r M) (h_uC (by omega)) fun D13 => h_if Iff.rfl (h_lt (h := fun r => q_hy r M) (h_uC (by omega)) fun D16 => rfl) (h_bd h226 fun q18 => h_lt (h := fun r => q_hy r M) h227 fun q20 => rfl)
  rw [q_hy_c (show 8 ≤ 105 by omega), h156, h156, q_hy_c (show 9 ≤ 105 by omega)]
  simp only [am_lt]
  by_cases c : am_rat (D.1 8) 4 a ≤ 0
  · rw [if_pos c, if_pos c]
  · rw [if_neg c, if_neg c, h_rpC (by omega)]
theorem h228 (a : Int32) : m228 (q_hy D M) a = ((m228 D a).1, q_hy (m228 D a).2 M) := by
  unfold m228
  simp (disch := omega) only [am_lt, h_uC, q_hy_c]
theorem h229 (a : Int32) : m229 (q_hy D M) a = ((m229 D a).1, q_hy (m229 D a).2 M) := by
  unfold m229
  simp (disch := omega) only [am_lt, h_rpC, q_hy_c]
theorem h213 (a b : Int32) : m213 (q_hy D M) a b = q_hy (m213 D a b) M := by
  unfold m213
  simp (disch := omega) only [am_lt, h_rpC]
/-- what such a function leaves -/
theorem h_keep {α : Type} {F : am_D → Option (α × am_D)} (h : ∀ D M, F (q_hy D M) = (F D).map (fun r => (r.1, q_hy r.2 M))) {D : am_D} {x : α} {D' : am_D} (e : F D = some (x, D')) : (∀ a, 106 ≤ a → D'.1 a = D.1 a) ∧ D'.2 = D.2 := by
  have h1 := h D D
  rw [h_self, e] at h1
  have h2 : D' = q_hy D' D := by
    have := Option.some.inj h1
    exact congrArg Prod.snd this
  constructor
  · intro a ha
    rw [h2, q_hy_m ha]
  · rw [h2]; rfl
/-- over another state's cells of the model -/
theorem h_mv {α : Type} {F : am_D → Option (α × am_D)} (h : ∀ D M, F (q_hy D M) = (F D).map (fun r => (r.1, q_hy r.2 M))) {D M : am_D} {x : α} {D' : am_D} (e : F (q_hy D M) = some (x, D')) : ∃ E, F D = some (x, E) ∧ D' = q_hy E M := by
  rw [h D M] at e
  cases hF : F D with
  | none => rw [hF] at e; cases e
  | some r =>
    rw [hF] at e
    obtain ⟨y, E⟩ := r
    have h1 : (y, q_hy E M) = (x, D') := Option.some.inj e
    cases h1
    exact ⟨E, rfl, rfl⟩
end NR
