/-! what a table's functions look at: the table in play and the snapshot alone -/
section UB
variable {D M : am_D} {N : Nat}
def u_hz (Dc Dm : am_D) : am_D := (fun a => if a ≤ 22 then Dc.1 a else Dm.1 a, Dm.2)
theorem u_hz_c {Dc Dm : am_D} {a : Nat} (h : a ≤ 22) : (u_hz Dc Dm).1 a = Dc.1 a := if_pos h
theorem u_hz_m {Dc Dm : am_D} {a : Nat} (h : 23 ≤ a) : (u_hz Dc Dm).1 a = Dm.1 a := if_neg (by omega)
theorem u_hz_eq {E : am_D} (h : ∀ a, a ≤ 22 → E.1 a = D.1 a) : E = u_hz D E := by
  refine Prod.ext (funext fun b => ?_) rfl
  by_cases c : b ≤ 22
  · rw [u_hz_c c, h b c]
  · rw [u_hz_m (by omega)]
theorem hz_uR {a : Nat} {f : Nat → Int32} (h : a ≤ 22) : am_uR (u_hz D M) a f = u_hz (am_uR D a f) M := by
  refine Prod.ext (funext fun b => funext fun i => ?_) rfl
  show (if b = a then f i else (u_hz D M).1 b i) = _
  by_cases c : b ≤ 22
  · rw [u_hz_c c, u_hz_c c]; rfl
  · rw [u_hz_m (by omega), u_hz_m (by omega), if_neg (by omega)]
theorem hz_rf {a n : Nat} {x : Int32} (h : a ≤ 22) : am_rfill (u_hz D M) a n x = u_hz (am_rfill D a n x) M := by
  unfold am_rfill
  rw [u_hz_c h, hz_uR h]
theorem hz_uC {a j : Nat} {x : Int32} (h : a ≤ 22) : am_uI (u_hz D M) a j x = u_hz (am_uI D a j x) M := by
  refine Prod.ext (funext fun b => funext fun i => ?_) rfl
  by_cases c : b ≤ 22
  · rw [u_hz_c c, q_uI_at, q_uI_at, u_hz_c c]
  · rw [u_hz_m (by omega), q_uI_ne _ (by omega), u_hz_m (by omega)]
theorem hz_rpC {a n : Nat} {p x : Int32} (h : a ≤ 22) : am_rput (u_hz D M) a n p x = u_hz (am_rput D a n p x) M := by
  unfold am_rput
  by_cases c : 0 ≤ p ∧ p < Int32.ofNat n
  · rw [if_pos c, if_pos c, hz_uC h]
  · rw [if_neg c, if_neg c]
theorem hz_raC {a n : Nat} {p x : Int32} (h : a ≤ 22) : am_radd (u_hz D M) a n p x = u_hz (am_radd D a n p x) M := by
  unfold am_radd
  rw [u_hz_c h]
  by_cases c : 0 ≤ p ∧ p < Int32.ofNat n
  · rw [if_pos c, if_pos c, hz_uC h]
  · rw [if_neg c, if_neg c]
theorem hz_self : u_hz D D = D := by
  refine Prod.ext (funext fun b => ?_) rfl
  by_cases c : b ≤ 22
  · exact u_hz_c c
  · exact u_hz_m (by omega)
theorem hz156 (v : Int32) : m156 (u_hz D M) v = m156 D v := rfl
theorem hz155 (v : Int32) : m155 (u_hz D M) v = m155 D v := rfl
theorem hz157 (v : Int32) : m157 (u_hz D M) v = m157 D v := rfl
theorem hz158 (v w : Int32) : m158 (u_hz D M) v w = m158 D v w := rfl
theorem hz159 (v : Int32) : m159 (u_hz D M) v = m159 D v := rfl
theorem hz162 (v w : Int32) : m162 (u_hz D M) v w = m162 D v w := rfl
theorem hz161 (v w : Int32) : m161 (u_hz D M) v w = m161 D v w := rfl
theorem hz203 (v : Int32) : m203 (u_hz D M) v = m203 D v := rfl
theorem hz219 : m219 (u_hz D M) = m219 D := rfl
theorem hz220 (a b c : Int32) : m220 (u_hz D M) a b c = m220 D a b c := rfl
theorem hz204_L (v : Int32) : ∀ (n : Nat) (a b : Int32), m204_L4 N (u_hz D M) v n a b = m204_L4 N D v n a b
  | 0, _, _ => rfl
  | n + 1, a, b => by
    rw [m204_L4, m204_L4]
    simp only [hz204_L v n, u_hz_c (show 7 ≤ 22 by omega)]
theorem hz204 (v : Int32) : m204 N (u_hz D M) v = m204 N D v := by
  unfold m204
  rw [hz204_L]
theorem hz205_L (v : Int32) : ∀ (n : Nat) (a b : Int32), m205_L4 N (u_hz D M) v n a b = m205_L4 N D v n a b
  | 0, _, _ => rfl
  | n + 1, a, b => by
    rw [m205_L4, m205_L4]
    simp only [hz205_L v n, u_hz_c (show 7 ≤ 22 by omega)]
theorem hz205 (v : Int32) : m205 N (u_hz D M) v = m205 N D v := by
  unfold m205
  rw [hz205_L]
theorem hz208_L (v : Int32) : ∀ (n : Nat) (a b : Int32), m208_L4 N (u_hz D M) v n a b = m208_L4 N D v n a b
  | 0, _, _ => rfl
  | n + 1, a, b => by
    rw [m208_L4, m208_L4]
    simp only [hz208_L v n, u_hz_c (show 7 ≤ 22 by omega)]
    rfl
theorem hz208 (v : Int32) : m208 N (u_hz D M) v = m208 N D v := by
  unfold m208
  rw [hz208_L]
theorem hz211_L : ∀ (n : Nat) (a b : Int32), m211_L4 N (u_hz D M) n a b = m211_L4 N D n a b
  | 0, _, _ => rfl
  | n + 1, a, b => by
    rw [m211_L4, m211_L4]
    simp only [hz211_L n, hz205]
theorem hz211 : m211 N (u_hz D M) = m211 N D := by
  unfold m211
  rw [hz211_L]
theorem hz212 (a b : Int32) : m212 N (u_hz D M) a b = m212 N D a b := by
  unfold m212
  rw [hz204, hz203, u_hz_c (show 1 ≤ 22 by omega)]
theorem hz221 (a : Int32) : m221 N (u_hz D M) a = m221 N D a := by
  unfold m221
  rw [hz208, u_hz_c (show 1 ≤ 22 by omega), u_hz_c (show 8 ≤ 22 by omega)]
theorem hz222 (a b c : Int32) : m222 N (u_hz D M) a b c = m222 N D a b c := by
  unfold m222
  rw [hz161, hz204, hz211, hz205]
theorem hz165 (v : Int32) : m165 (u_hz D M) v = u_hz (m165 D v) M := by
  unfold m165
  simp (disch := omega) only [am_lt, hz_rpC, u_hz_c]
theorem hz164_L (v1 v2 v3 v4 v5 v6 : Int32) : ∀ (n : Nat) (D : am_D) (v : Int32), m164_L64 N v1 v2 v3 v4 v5 v6 n (u_hz D M) v = (m164_L64 N v1 v2 v3 v4 v5 v6 n D v).map (fun r => u_hz r M)
  | 0, _, _ => rfl
  | n + 1, D, v => by
    rw [m164_L64, m164_L64]
    refine h_if Iff.rfl rfl (h_lt (hz165 v) (fun E => h_li rfl (fun x => hz164_L v1 v2 v3 v4 v5 v6 n E x)))
theorem hz164 (a b c : Int32) : m164 N (u_hz D M) a b c = (m164 N D a b c).map (fun r => u_hz r M) := by
  unfold m164
  refine h_if Iff.rfl (h_li rfl fun q2 => h_li rfl fun q6 => h_li rfl fun x10 => h_li rfl fun q12 => h_li rfl fun x16 => h_bd (hz164_L _ _ _ _ _ _ N D x16) fun q23 => h_lt (h := fun r => u_hz r M) (hz_rpC (by omega)) fun D25 => h_li rfl fun q27 => h_lt (h := fun r => u_hz r M) (hz_rpC (by omega)) fun D32 => h_lt (h := fun r => u_hz r M) (hz_rpC (by omega)) fun D34 => h_lt (h := fun r => u_hz r M) (hz_uC (by omega)) fun D36 => h_lt (h := fun r => u_hz r M) (hz_rpC (by omega)) fun D38 => h_li rfl fun q40 => h_lt (h := fun r => u_hz r M) (hz_uC (by omega)) fun D45 => h_lt (h := fun r => u_hz r M) (hz_uC (by omega)) fun D47 => rfl) rfl
theorem hz227 : m227 (u_hz D M) = u_hz (m227 D) M := by
  unfold m227
  simp (disch := omega) only [am_lt, hz_uC]
theorem hz223 (a b c : Int32) : m223 N (u_hz D M) a b c = (m223 N D a b c).map (fun r => (r.1, u_hz r.2 M)) := by
  unfold m223
  refine h_bi (hz222 a b c) fun q1 => h_bd (hz164 b c a) fun q3 => h_lt (h := fun r => u_hz r M) (hz_rpC (by omega)) fun D5 => h_lt (h := fun r => u_hz r M) (hz_raC (by omega)) fun D7 => h_lt (h := fun r => u_hz r M) (hz_uC (by omega)) fun D9 => h_lt (h := fun r => u_hz r M) (hz_uC (by omega)) fun D11 => h_lt (h := fun r => u_hz r M) (hz_uC (by omega)) fun D13 => h_bi (hz204 a) fun q15 => h_if Iff.rfl (h_lt (h := fun r => u_hz r M) hz227 fun q18 => rfl) (h_lt (h := fun r => u_hz r M) (hz_uC (by omega)) fun D20 => rfl)
theorem hz226 : m226 N (u_hz D M) = (m226 N D).map (fun r => u_hz r M) := by
  unfold m226
  refine h_bi (hz205 _) fun q1 => h_bi (hz205 _) fun q3 => h_li rfl fun x5 => h_bi (hz205 _) fun q7 => h_bi (hz205 _) fun q9 => h_li rfl fun x11 => h_if Iff.rfl (h_lt (h := fun r => u_hz r M) (hz_raC (by omega)) fun _ => rfl) (h_lt (h := fun r => u_hz r M) (hz_raC (by omega)) fun _ => rfl)
theorem hz224 (a : Int32) : m224 N (u_hz D M) a = (m224 N D a).map (fun r => (r.1, u_hz r.2 M)) := by
  unfold m224
  refine h_lt (h := fun r => u_hz r M) ?_ fun q1 => h_lt (h := fun r => u_hz r M) (hz_raC (by omega)) fun D9 => h_lt (h := fun r => u_hz r M) (hz_uC (by omega)) fun D11 => h_lt (h := fun r => u_hz r M) (hz_uC (by omega)) fun D13 => h_if Iff.rfl (h_lt (h := fun r => u_hz r M) (hz_uC (by omega)) fun D16 => rfl) (h_bd hz226 fun q18 => h_lt (h := fun r => u_hz r M) hz227 fun q20 => rfl)
  rw [u_hz_c (show 8 ≤ 22 by omega), hz156, hz156, u_hz_c (show 9 ≤ 22 by omega)]
  simp only [am_lt]
  by_cases c : am_rat (D.1 8) 4 a ≤ 0
  · rw [if_pos c, if_pos c]
  · rw [if_neg c, if_neg c, hz_rpC (by omega)]
theorem hz228 (a : Int32) : m228 (u_hz D M) a = ((m228 D a).1, u_hz (m228 D a).2 M) := by
  unfold m228
  simp (disch := omega) only [am_lt, hz_uC, u_hz_c]
theorem hz229 (a : Int32) : m229 (u_hz D M) a = ((m229 D a).1, u_hz (m229 D a).2 M) := by
  unfold m229
  simp (disch := omega) only [am_lt, hz_rpC, u_hz_c]
theorem hz213 (a b : Int32) : m213 (u_hz D M) a b = u_hz (m213 D a b) M := by
  unfold m213
  simp (disch := omega) only [am_lt, hz_rpC]
theorem hz217 (v : Int32) : m217 (u_hz D M) v = u_hz (m217 D v) M := by
  unfold m217
  simp (disch := omega) only [am_lt, hz_uC, hz_rf, u_hz_c]
theorem hz153 : m153 (u_hz D M) = u_hz (m153 D) M := by
  unfold m153
  simp (disch := omega) only [am_lt, hz_uC]
theorem hz218 : m218 N (u_hz D M) = (m218 N D).map (fun r => (r.1, u_hz r.2 M)) := by
  unfold m218
  refine h_bi (hz204 _) fun q1 => ?_
  simp (disch := omega) only [am_lt, hz_uC, hz_rf, hz153]
  rfl
theorem hz215_L (v : Int32) : ∀ (n : Nat) (a b : Int32), m215_L4 N (u_hz D M) v n a b = m215_L4 N D v n a b
  | 0, _, _ => rfl
  | n + 1, a, b => by
    rw [m215_L4, m215_L4]
    simp only [hz215_L v n, u_hz_c (show 7 ≤ 22 by omega)]
theorem hz215 (v : Int32) : m215 N (u_hz D M) v = m215 N D v := by
  unfold m215
  rw [hz215_L]
theorem hz214_1 (v : Int32) : ∀ (n : Nat) (D : am_D) (a b c : Int32), m214_L21 N v n (u_hz D M) a b c = (m214_L21 N v n D a b c).map (fun r => (r.1, r.2.1, u_hz r.2.2 M))
  | 0, _, _, _, _ => rfl
  | n + 1, D, a, b, c => by
    rw [m214_L21, m214_L21]
    refine h_if Iff.rfl rfl (h_li rfl fun x5 => h_bi (hz204 _) fun q7 => h_bd (h := fun r : Int32 × am_D => (r.1, u_hz r.2 M)) ?_ fun q9 => h_li rfl fun x20 => hz214_1 v n q9.2 x5 q9.1 x20)
    refine h_if Iff.rfl rfl (h_if Iff.rfl (h_bi (hz215 _) fun q14 => h_lt (h := fun r => u_hz r M) (hz213 _ _) fun q16 => rfl) rfl)
theorem hz214_L : ∀ (n : Nat) (D : am_D) (a b c : Int32), m214_L7 N n (u_hz D M) a b c = (m214_L7 N n D a b c).map (fun r => (r.1, u_hz r.2 M))
  | 0, _, _, _, _ => rfl
  | n + 1, D, a, b, c => by
    rw [m214_L7, m214_L7]
    refine h_if Iff.rfl rfl (h_bi (hz204 _) fun q2 => h_bd (h := fun r : Int32 × Int32 × am_D => (r.1, r.2.1, u_hz r.2.2 M)) (hz214_1 _ _ _ _ _ _) fun q22 => h_li rfl fun x24 => hz214_L n q22.2.2 q22.1 q22.2.1 x24)
theorem hz214 (v : Int32) : m214 N (u_hz D M) v = (m214 N D v).map (fun r => (r.1, u_hz r.2 M)) := by
  unfold m214
  exact h_bd (h := fun r : Int32 × am_D => (r.1, u_hz r.2 M)) (hz214_L _ _ _ _ _) fun q26 => rfl
theorem hz210_L : ∀ (n : Nat) (a b : Int32), m210_L4 N (u_hz D M) n a b = m210_L4 N D n a b
  | 0, _, _ => rfl
  | n + 1, a, b => by
    rw [m210_L4, m210_L4]
    simp only [hz210_L n, hz204]
theorem hz210 : m210 N (u_hz D M) = m210 N D := by
  unfold m210
  rw [hz210_L]
theorem hz216 : m216 N (u_hz D M) = m216 N D := by
  unfold m216
  rw [hz210]
  rfl
theorem hz154_L (v : Int32) : ∀ (n : Nat) (a : Int32), m154_L2 N (u_hz D M) v n a = m154_L2 N D v n a
  | 0, _ => rfl
  | n + 1, a => by
    rw [m154_L2, m154_L2]
    simp only [hz154_L v n, u_hz_c (show 2 ≤ 22 by omega), u_hz_c (show 3 ≤ 22 by omega)]
theorem hz154 (v : Int32) : m154 N (u_hz D M) v = m154 N D v := by
  unfold m154
  rw [hz154_L]
theorem hz18 (v w : Int32) : m18 N (u_hz D M) v w = m18 N D v w := by
  unfold m18
  rw [hz154]
  rfl
theorem hz20 (v w : Int32) : m20 (u_hz D M) v w = m20 D v w := rfl
theorem hz22 (v : Int32) (hv : ¬ v = Int32.ofNat 18) : m22 N (u_hz D M) v = m22 N D v := by
  unfold m22
  rw [hz204, if_neg hv, if_neg hv]
  rfl
theorem hz23 (a b c : Int32) : m23 (u_hz D M) a b c = m23 D a b c := rfl
theorem hz209_L (v w x : Int32) : ∀ (n : Nat) (a b : Int32), m209_L28 N (u_hz D M) v w x n a b = m209_L28 N D v w x n a b
  | 0, _, _ => rfl
  | n + 1, a, b => by
    rw [m209_L28, m209_L28]
    simp only [hz209_L v w x n, u_hz_c (show 7 ≤ 22 by omega)]
theorem hz209 (a b c : Int32) : m209 N (u_hz D M) a b c = m209 N D a b c := by
  unfold m209
  rw [hz162]
  refine congrArg _ (funext fun x1 => ?_)
  show am_lt (m163 D b c) _ = _
  refine congrArg _ (funext fun x3 => ?_)
  rw [hz209_L]
theorem hz28 (a b c d : Int32) : m28 N (u_hz D M) a b c d = m28 N D a b c d := by
  unfold m28
  rw [hz222, hz209]
  rfl
theorem hz206_L (v : Int32) : ∀ (n : Nat) (a b : Int32), m206_L4 N (u_hz D M) v n a b = m206_L4 N D v n a b
  | 0, _, _ => rfl
  | n + 1, a, b => by
    rw [m206_L4, m206_L4]
    simp only [hz206_L v n, u_hz_c (show 7 ≤ 22 by omega)]
theorem hz206 (v : Int32) : m206 N (u_hz D M) v = m206 N D v := by
  unfold m206
  rw [hz206_L]
theorem w21_0 (D : am_D) (v : Int32) : m21 N D v (Int32.ofNat 0) = if m40 v = 0 then some (Sum.inr 1, D) else (m204 N D v).bind fun q => some (Sum.inl q, D) := by
  unfold m21
  rw [if_pos (c := Int32.ofNat 0 = Int32.ofNat 0) rfl]
theorem w21_1 (D : am_D) (v : Int32) : m21 N D v (Int32.ofNat 1) = if m40 v = 0 then some (Sum.inr 1, D) else (m205 N D v).bind fun q => some (Sum.inl q, D) := by
  unfold m21
  rw [if_neg (c := Int32.ofNat 1 = Int32.ofNat 0) (by decide), if_pos (c := Int32.ofNat 1 = Int32.ofNat 1) rfl]
theorem w21_2 (D : am_D) (v : Int32) : m21 N D v (Int32.ofNat 2) = if m40 v = 0 then some (Sum.inr 1, D) else some (Sum.inl (am_rat (D.1 8) 4 v), D) := by
  unfold m21
  rw [if_neg (c := Int32.ofNat 2 = Int32.ofNat 0) (by decide), if_neg (c := Int32.ofNat 2 = Int32.ofNat 1) (by decide), if_pos (c := Int32.ofNat 2 = Int32.ofNat 2) rfl]
theorem w21_3 (D : am_D) (v : Int32) : m21 N D v (Int32.ofNat 3) = if m40 v = 0 then some (Sum.inr 1, D) else some (Sum.inl (am_rat (D.1 9) 4 v), D) := by
  unfold m21
  rw [if_neg (c := Int32.ofNat 3 = Int32.ofNat 0) (by decide), if_neg (c := Int32.ofNat 3 = Int32.ofNat 1) (by decide), if_neg (c := Int32.ofNat 3 = Int32.ofNat 2) (by decide), if_pos (c := Int32.ofNat 3 = Int32.ofNat 3) rfl]
theorem w21_4 (D : am_D) (v : Int32) : m21 N D v (Int32.ofNat 4) = if m40 v = 0 then some (Sum.inr 1, D) else (m208 N D v).bind fun q => some (Sum.inl q, D) := by
  unfold m21
  rw [if_neg (c := Int32.ofNat 4 = Int32.ofNat 0) (by decide), if_neg (c := Int32.ofNat 4 = Int32.ofNat 1) (by decide), if_neg (c := Int32.ofNat 4 = Int32.ofNat 2) (by decide), if_neg (c := Int32.ofNat 4 = Int32.ofNat 3) (by decide), if_pos (c := Int32.ofNat 4 = Int32.ofNat 4) rfl]
theorem w21_5 (D : am_D) (v : Int32) : m21 N D v (Int32.ofNat 5) = if m40 v = 0 then some (Sum.inr 1, D) else some (Sum.inl (am_rat (D.1 10) 4 v), D) := by
  unfold m21
  rw [if_neg (c := Int32.ofNat 5 = Int32.ofNat 0) (by decide), if_neg (c := Int32.ofNat 5 = Int32.ofNat 1) (by decide), if_neg (c := Int32.ofNat 5 = Int32.ofNat 2) (by decide), if_neg (c := Int32.ofNat 5 = Int32.ofNat 3) (by decide), if_neg (c := Int32.ofNat 5 = Int32.ofNat 4) (by decide), if_pos (c := Int32.ofNat 5 = Int32.ofNat 5) rfl]
theorem w21_6 (D : am_D) (v : Int32) : m21 N D v (Int32.ofNat 6) = if m40 v = 0 then some (Sum.inr 1, D) else (m206 N D v).bind fun q => some (Sum.inl q, D) := by
  unfold m21
  rw [if_neg (c := Int32.ofNat 6 = Int32.ofNat 0) (by decide), if_neg (c := Int32.ofNat 6 = Int32.ofNat 1) (by decide), if_neg (c := Int32.ofNat 6 = Int32.ofNat 2) (by decide), if_neg (c := Int32.ofNat 6 = Int32.ofNat 3) (by decide), if_neg (c := Int32.ofNat 6 = Int32.ofNat 4) (by decide), if_neg (c := Int32.ofNat 6 = Int32.ofNat 5) (by decide), if_pos (c := Int32.ofNat 6 = Int32.ofNat 6) rfl]
theorem w21_7 (D : am_D) (v : Int32) : m21 N D v (Int32.ofNat 7) = if m40 v = 0 then some (Sum.inr 1, D) else (m207 N D v).bind fun q => some (Sum.inl q, D) := by
  unfold m21
  rw [if_neg (c := Int32.ofNat 7 = Int32.ofNat 0) (by decide), if_neg (c := Int32.ofNat 7 = Int32.ofNat 1) (by decide), if_neg (c := Int32.ofNat 7 = Int32.ofNat 2) (by decide), if_neg (c := Int32.ofNat 7 = Int32.ofNat 3) (by decide), if_neg (c := Int32.ofNat 7 = Int32.ofNat 4) (by decide), if_neg (c := Int32.ofNat 7 = Int32.ofNat 5) (by decide), if_neg (c := Int32.ofNat 7 = Int32.ofNat 6) (by decide), if_pos (c := Int32.ofNat 7 = Int32.ofNat 7) rfl]
theorem w21_8 (D : am_D) (v : Int32) : m21 N D v (Int32.ofNat 8) = if m40 v = 0 then some (Sum.inr 1, D) else (m221 N D v).bind fun q => some (Sum.inl q, D) := by
  unfold m21
  rw [if_neg (c := Int32.ofNat 8 = Int32.ofNat 0) (by decide), if_neg (c := Int32.ofNat 8 = Int32.ofNat 1) (by decide), if_neg (c := Int32.ofNat 8 = Int32.ofNat 2) (by decide), if_neg (c := Int32.ofNat 8 = Int32.ofNat 3) (by decide), if_neg (c := Int32.ofNat 8 = Int32.ofNat 4) (by decide), if_neg (c := Int32.ofNat 8 = Int32.ofNat 5) (by decide), if_neg (c := Int32.ofNat 8 = Int32.ofNat 6) (by decide), if_neg (c := Int32.ofNat 8 = Int32.ofNat 7) (by decide), if_pos (c := Int32.ofNat 8 = Int32.ofNat 8) rfl]
theorem w21_9 (D : am_D) (v : Int32) : m21 N D v (Int32.ofNat 9) = if m40 v = 0 then some (Sum.inr 1, D) else (m258 N D v).bind fun q => some (Sum.inl q.1, q.2) := by
  unfold m21
  rw [if_neg (c := Int32.ofNat 9 = Int32.ofNat 0) (by decide), if_neg (c := Int32.ofNat 9 = Int32.ofNat 1) (by decide), if_neg (c := Int32.ofNat 9 = Int32.ofNat 2) (by decide), if_neg (c := Int32.ofNat 9 = Int32.ofNat 3) (by decide), if_neg (c := Int32.ofNat 9 = Int32.ofNat 4) (by decide), if_neg (c := Int32.ofNat 9 = Int32.ofNat 5) (by decide), if_neg (c := Int32.ofNat 9 = Int32.ofNat 6) (by decide), if_neg (c := Int32.ofNat 9 = Int32.ofNat 7) (by decide), if_neg (c := Int32.ofNat 9 = Int32.ofNat 8) (by decide), if_pos (c := Int32.ofNat 9 = Int32.ofNat 9) rfl]
theorem hz21 (v : Int32) {w : Nat} (hw : w ≤ 5) : m21 N (u_hz D M) v (Int32.ofNat w) = (m21 N D v (Int32.ofNat w)).map (fun r => (r.1, u_hz r.2 M)) := by
  have : w = 0 ∨ w = 1 ∨ w = 2 ∨ w = 3 ∨ w = 4 ∨ w = 5 := by omega
  rcases this with rfl | rfl | rfl | rfl | rfl | rfl
  · rw [w21_0, w21_0]; exact h_if Iff.rfl rfl (h_bi (hz204 _) fun q => rfl)
  · rw [w21_1, w21_1]; exact h_if Iff.rfl rfl (h_bi (hz205 _) fun q => rfl)
  · rw [w21_2, w21_2]; exact h_if Iff.rfl rfl rfl
  · rw [w21_3, w21_3]; exact h_if Iff.rfl rfl rfl
  · rw [w21_4, w21_4]; exact h_if Iff.rfl rfl (h_bi (hz208 _) fun q => rfl)
  · rw [w21_5, w21_5]; exact h_if Iff.rfl rfl rfl
end UB
