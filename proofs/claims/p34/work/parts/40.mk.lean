/-! lay: the change of both sides, from any states alike; the call -/
section MK
variable {D : am_D} {n p : Nat} {T V : Nat → Nat}
theorem q_ra_at (D : am_D) (a m p : Nat) (hm : m < 2147483648) (hp : p < m) (x : Int32) : am_radd D a m (Int32.ofNat p) x = am_uI D a p (D.1 a p + x) := by
  unfold am_radd
  rw [if_pos (q_in hm hp), q_tn (by omega)]
theorem q187 : ∀ x, x < 4 → m187 (Int32.ofNat x) = Int32.ofNat (x % 2) := by decide +kernel
/-- the class lays -/
theorem q223 {N : Nat} (hN : 2000 ≤ N) (hK : q_K D n 1 T V) {x t e w : Nat} (hx : x < 4) (ht : t < 28) (he : e < 2) (hn : n ≤ 27) (hf : n = 0 ∨ q_sh t (m156 D (Int32.ofNat e))) (hP : q_P D t = Int32.ofNat x) (hw : w ≤ 24) (h161 : m161 D (Int32.ofNat t) (Int32.ofNat e) = Int32.ofNat w) :
    ∃ D', m223 N D (Int32.ofNat x) (Int32.ofNat t) (Int32.ofNat e) = some (Int32.ofNat (q_gain D x w), D') ∧
      (D'.1 2 4 = Int32.ofNat (n + 1) ∧
      (∀ k, k < n + 1 → D'.1 3 k = Int32.ofNat (q_T1 e n t T k) ∧ D'.1 4 k = Int32.ofNat (q_V1 e n t T V k) ∧ D'.1 5 k = (if k = (if e = 0 then 0 else n) then Int32.ofNat x else D.1 5 (if e = 0 then k - 1 else k)) ∧ D'.1 6 k = (if k = (if e = 0 then 0 else n) then Int32.ofNat (n + 1) else D.1 6 (if e = 0 then k - 1 else k))) ∧
      D'.1 2 5 = Int32.ofNat (q_V1 e n t T V 0) ∧ D'.1 2 6 = Int32.ofNat (q_pip (q_T1 e n t T n) - q_V1 e n t T V n)) ∧
      (∀ b, D'.1 1 b = if b = 7 then (if q_cnt (q_P D) (Int32.ofNat x) = 1 then q_nn else Int32.ofNat ((x + 1) % 4)) else if b = 6 then (if q_cnt (q_P D) (Int32.ofNat x) = 1 then Int32.ofNat 2 else Int32.ofNat 1) else if b = 13 then D.1 1 13 + 1 else if b = 11 then 0 else if b = 9 then Int32.ofNat x else D.1 1 b) ∧
      (∀ b, D'.1 7 b = if b = t then Int32.ofNat 4 else D.1 7 b) ∧ (∀ b, D'.1 11 b = if b = x % 2 then D.1 11 (x % 2) + Int32.ofNat (q_gain D x w) else D.1 11 b) ∧
      (∀ a, a = 0 ∨ (8 ≤ a ∧ a ≤ 10) ∨ 12 ≤ a → D'.1 a = D.1 a) ∧ D'.2 = D.2 := by
  obtain ⟨F, f1, f2, f3, f4, f5, f6, f7⟩ := q164 (x := x) hN hK ht he hn hf
  obtain ⟨G, hG⟩ : ∃ G, G = am_uI (am_uI (am_uI (am_uI (am_uI F 7 t 4) 11 (x % 2) ((am_uI F 7 t 4).1 11 (x % 2) + Int32.ofNat (q_gain D x w))) 1 9 (Int32.ofNat x)) 1 11 0) 1 13 ((am_uI (am_uI (am_uI (am_uI F 7 t 4) 11 (x % 2) ((am_uI F 7 t 4).1 11 (x % 2) + Int32.ofNat (q_gain D x w))) 1 9 (Int32.ofNat x)) 1 11 0).1 1 13 + 1) := ⟨_, rfl⟩
  have g1 : ∀ b, G.1 1 b = if b = 13 then D.1 1 13 + 1 else if b = 11 then 0 else if b = 9 then Int32.ofNat x else D.1 1 b := fun b => by
    rw [hG]
    simp only [q_uI_at, true_and, f6 1 (by omega)]
    simp (decide := true) only [false_and, if_false]
  have g7 : ∀ b, G.1 7 b = if b = t then Int32.ofNat 4 else D.1 7 b := fun b => by
    rw [hG]
    simp only [q_uI_at, true_and, f6 7 (by omega)]
    simp (decide := true) only [false_and, if_false]
    rfl
  have g11 : ∀ b, G.1 11 b = if b = x % 2 then D.1 11 (x % 2) + Int32.ofNat (q_gain D x w) else D.1 11 b := fun b => by
    rw [hG]
    simp only [q_uI_at, true_and, f6 11 (by omega)]
    simp (decide := true) only [false_and, if_false]
  have gch : ∀ a, 2 ≤ a → a ≤ 6 → G.1 a = F.1 a := fun a h1 h2 => by
    rw [hG, q_uI_ne _ (by omega), q_uI_ne _ (by omega), q_uI_ne _ (by omega), q_uI_ne _ (by omega), q_uI_ne _ (by omega)]
  have go : ∀ a, a = 0 ∨ (8 ≤ a ∧ a ≤ 10) ∨ 12 ≤ a → G.1 a = D.1 a := fun a ha => by
    rw [hG, q_uI_ne _ (by omega), q_uI_ne _ (by omega), q_uI_ne _ (by omega), q_uI_ne _ (by omega), q_uI_ne _ (by omega), f6 a (by omega)]
  have g2 : G.2 = D.2 := by rw [hG]; exact f7
  have hcnt := (q_out (f := q_P D) (g := G.1 7) ht hx hP (fun j hj => by rw [g7 j, k_pl hK j hj])).1 x hx
  rw [if_pos rfl] at hcnt
  have hc28 := q_cnt_le (q_P D) (Int32.ofNat x)
  have e1 : m223 N D (Int32.ofNat x) (Int32.ofNat t) (Int32.ofNat e) = (m204 N G (Int32.ofNat x)).bind fun q15 => (if q15 = 0 then (am_lt (m227 G) fun q18 => (some (Int32.ofNat (q_gain D x w), q18))) else (am_lt (am_uI G 1 7 (m185 (Int32.ofNat x))) fun D20 => (some (Int32.ofNat (q_gain D x w), D20)))) := by
    unfold m223
    rw [q222 hN hK hx hw h161, Option.bind_some, f1, Option.bind_some, q187 x hx]
    simp only [am_lt]
    rw [q_rp_at _ _ _ _ (by omega) (by omega), q_ra_at _ _ _ _ (by omega) (by omega)]
    have : (am_uI F 7 t (4 : Int32)) = am_uI F 7 t 4 := rfl
    rw [← hG]
  rw [e1, q204 hN, Option.bind_some]
  by_cases c : q_cnt (q_P D) (Int32.ofNat x) = 1
  · have c0 : q_cnt (G.1 7) (Int32.ofNat x) = 0 := by omega
    rw [c0, if_pos (show Int32.ofNat 0 = 0 from rfl)]
    refine ⟨am_uI (am_uI G 1 6 2) 1 7 (-1), rfl, ⟨?_, fun k hk => ?_, ?_, ?_⟩, fun b => ?_, fun b => ?_, fun b => ?_, fun a ha => ?_, g2⟩
    · rw [q_uI_ne _ (by omega), q_uI_ne _ (by omega), gch 2 (by omega) (by omega)]; exact f2
    · rw [q_uI_ne _ (by omega), q_uI_ne _ (by omega), q_uI_ne _ (by omega), q_uI_ne _ (by omega), q_uI_ne _ (by omega), q_uI_ne _ (by omega), q_uI_ne _ (by omega), q_uI_ne _ (by omega), gch 3 (by omega) (by omega), gch 4 (by omega) (by omega), gch 5 (by omega) (by omega), gch 6 (by omega) (by omega)]; exact f3 k hk
    · rw [q_uI_ne _ (by omega), q_uI_ne _ (by omega), gch 2 (by omega) (by omega)]; exact f4
    · rw [q_uI_ne _ (by omega), q_uI_ne _ (by omega), gch 2 (by omega) (by omega)]; exact f5
    · rw [q_uI_at, q_uI_at, g1 b, if_pos c, if_pos c]
      simp only [true_and]
      rfl
    · rw [q_uI_ne _ (by omega), q_uI_ne _ (by omega)]; exact g7 b
    · rw [q_uI_ne _ (by omega), q_uI_ne _ (by omega)]; exact g11 b
    · rw [q_uI_ne _ (by omega), q_uI_ne _ (by omega)]; exact go a ha
  · have c0 : ¬ Int32.ofNat (q_cnt (G.1 7) (Int32.ofNat x)) = 0 := by rw [q_l0, q_eq (by omega) (by omega)]; omega
    rw [if_neg c0]
    refine ⟨am_uI G 1 7 (m185 (Int32.ofNat x)), rfl, ⟨?_, fun k hk => ?_, ?_, ?_⟩, fun b => ?_, fun b => ?_, fun b => ?_, fun a ha => ?_, g2⟩
    · rw [q_uI_ne _ (by omega), gch 2 (by omega) (by omega)]; exact f2
    · rw [q_uI_ne _ (by omega), q_uI_ne _ (by omega), q_uI_ne _ (by omega), q_uI_ne _ (by omega), gch 3 (by omega) (by omega), gch 4 (by omega) (by omega), gch 5 (by omega) (by omega), gch 6 (by omega) (by omega)]; exact f3 k hk
    · rw [q_uI_ne _ (by omega), gch 2 (by omega) (by omega)]; exact f4
    · rw [q_uI_ne _ (by omega), gch 2 (by omega) (by omega)]; exact f5
    · rw [q_uI_at, g1 b, if_neg c, if_neg c, (q_md4 x hx).1]
      simp only [true_and]
      by_cases hb : b = 6
      · subst hb
        rw [if_neg (by omega), if_neg (by omega), if_neg (by omega), if_neg (by omega), if_neg (by omega), if_pos rfl]
        exact k_p' hK
      · by_cases hb7 : b = 7
        · rw [if_pos hb7, if_pos hb7]
        · rw [if_neg hb7, if_neg hb7, if_neg hb]
    · rw [q_uI_ne _ (by omega)]; exact g7 b
    · rw [q_uI_ne _ (by omega)]; exact g11 b
    · rw [q_uI_ne _ (by omega)]; exact go a ha
/-- the model lays: over a state E whose row is the one of D -/
theorem q71 {N : Nat} (hN : 2000 ≤ N) (hK : q_K D n 1 T V) {E : am_D} (hB : q_B E) (hs : ∀ k, k < 165 → E.1 107 k = D.1 107 k) {x t e w : Nat} (hx : x < 4) (ht : t < 28) (he : e < 2) (hn : n ≤ 27) (hf : n = 0 ∨ q_sh t (m156 D (Int32.ofNat e))) (hP : q_P D t = Int32.ofNat x) (hw : w ≤ 24) (h161 : m161 D (Int32.ofNat t) (Int32.ofNat e) = Int32.ofNat w) :
    ∃ D2, m71 N E (Int32.ofNat x) (Int32.ofNat t) (Int32.ofNat e) = some (Int32.ofNat (q_gain D x w), D2) ∧
      (∀ k, k < n + 1 → D2.1 107 (109 + k) = Int32.ofNat (q_T1 e n t T k) ∧ D2.1 107 (137 + k) = Int32.ofNat (q_V1 e n t T V k)) ∧
      (∀ j, j < 109 ∨ 165 ≤ j → D2.1 107 j = if j = 1 then Int32.ofNat ((x + 1) % 4) else if j = 6 + x % 2 then E.1 107 (6 + x % 2) + Int32.ofNat (q_gain D x w) else if j = 0 then (if q_cnt (q_P D) (Int32.ofNat x) = 1 then Int32.ofNat 2 else Int32.ofNat 1) else if j = 4 then 0 else if j = 5 then Int32.ofNat x else if j = 9 then E.1 107 9 + 1 else if j = 81 + t then Int32.ofNat (n + 1) else if j = 53 + t then Int32.ofNat x else if j = 25 + t then Int32.ofNat 4 else if j = 12 then Int32.ofNat (n + 1) else E.1 107 j) ∧
      (∀ a, a ≠ 107 → D2.1 a = E.1 a) ∧ D2.2 = E.2 := by
  have htv := q_tv hK ht he hf
  have hnt : ∀ k, k < n → T k ≠ t := fun k hk q => by
    have := (k_in hK t ht).mpr ⟨k, hk, q⟩
    rw [hP] at this
    have := q_ofN (by omega) (by omega) this
    omega
  have hchE : q_ch (q_c D 1) (q_s E 0) n T V := q_ch_w (fun _ _ _ _ _ => rfl) (fun k hk => hs k (by omega)) hK.1
  have hH1 := q_hy_KC hchE
  have r1 : (q_hy D E).1 107 = E.1 107 := q_hy_m (by omega)
  have r2 : (q_hy D E).1 109 = E.1 109 := q_hy_m (by omega)
  have r3 : (q_hy D E).1 110 = E.1 110 := q_hy_m (by omega)
  have hBH : q_B (q_hy D E) := by intro t ht; rw [r2, r3]; exact hB t ht
  obtain ⟨pl, hpl⟩ : ∃ pl, pl = if e = 0 then 0 else n := ⟨_, rfl⟩
  have hpl27 : pl ≤ n := by rw [hpl]; split <;> omega
  -- the value at the chain
  have hval : (if n = 0 then some (Int32.ofNat (q_lo t)) else if e = 0 then m54 E (Int32.ofNat t) (m59 E) else m61 E) = some (Int32.ofNat (q_V1 e n t T V pl)) := by
    rw [hpl]
    unfold q_V1
    by_cases h0 : n = 0
    · simp only [h0, if_true]
    · simp only [h0, if_false]
      obtain rfl | rfl : e = 0 ∨ e = 1 := by omega
      · simp only [if_true]
        have z : m59 E = Int32.ofNat (V 0) := by
          rw [← q_M59 r1, q59C hH1, kc_e0 hH1, if_neg h0]
        rw [z, q54 hB ht, q_vfr (q_ft0 hK ht (by omega) hf)]
      · simp only [Nat.one_ne_zero, if_false, if_true]
        rw [← q_M61 r1 r2 r3, q61C hBH hH1, kc_e1 hH1, if_neg h0]
  obtain ⟨G, g1, g2, g3, g4, g5, g6⟩ := q70 hN hB ht he hn (by rw [hs 12 (by omega)]; exact k_n hK) hval
  -- the row behind all but points, turn, phase
  obtain ⟨F, hF⟩ : ∃ F, F = am_uI (am_uI (am_uI (am_uI (am_uI (am_uI G 107 (25 + t) 4) 107 (53 + t) (Int32.ofNat x)) 107 (81 + t) (Int32.ofNat (n + 1))) 107 9 (E.1 107 9 + 1)) 107 5 (Int32.ofNat x)) 107 4 0 := ⟨_, rfl⟩
  have fr : ∀ j, F.1 107 j = if j = 4 then 0 else if j = 5 then Int32.ofNat x else if j = 9 then E.1 107 9 + 1 else if j = 81 + t then Int32.ofNat (n + 1) else if j = 53 + t then Int32.ofNat x else if j = 25 + t then Int32.ofNat 4 else G.1 107 j := fun j => by
    rw [hF]
    simp only [q_uI_at, true_and]
    rfl
  have fo : ∀ a, a ≠ 107 → F.1 a = E.1 a := fun a ha => by
    rw [hF, q_uI_ne _ ha, q_uI_ne _ ha, q_uI_ne _ ha, q_uI_ne _ ha, q_uI_ne _ ha, q_uI_ne _ ha, g5 a ha]
  have f2 : F.2 = E.2 := by rw [hF]; exact g6
  have fch : ∀ k, k < n + 1 → F.1 107 (109 + k) = Int32.ofNat (q_T1 e n t T k) ∧ F.1 107 (137 + k) = Int32.ofNat (q_V1 e n t T V k) := fun k hk => by
    obtain ⟨a1, a2⟩ := g3 k hk
    rw [fr, fr, if_neg (by omega), if_neg (by omega), if_neg (by omega), if_neg (by omega), if_neg (by omega), if_neg (by omega), if_neg (by omega), if_neg (by omega), if_neg (by omega), if_neg (by omega), if_neg (by omega), if_neg (by omega), a1, a2]
    rw [← hpl]
    by_cases hkp : k = pl
    · rw [if_pos hkp, if_pos hkp, hkp]
      refine ⟨?_, rfl⟩
      rw [hpl]
      unfold q_T1
      obtain rfl | rfl : e = 0 ∨ e = 1 := by omega
      · simp
      · simp
    · rw [if_neg hkp, if_neg hkp]
      have h0 : ¬ n = 0 := by
        rw [hpl] at hkp
        obtain rfl | rfl : e = 0 ∨ e = 1 := by omega
        · rw [if_pos rfl] at hkp; omega
        · rw [if_neg (by omega)] at hkp; omega
      unfold q_T1 q_V1
      rw [hpl] at hkp
      obtain rfl | rfl : e = 0 ∨ e = 1 := by omega
      · rw [if_pos rfl] at hkp
        simp only [if_true, h0, hkp, if_false]
        have := k_k hK (k - 1) (by omega)
        rw [hs _ (by omega), hs _ (by omega)]
        exact ⟨this.2.2.1, this.2.2.2.1⟩
      · rw [if_neg (by omega)] at hkp
        simp only [Nat.one_ne_zero, h0, hkp, if_false]
        have := k_k hK k (by omega)
        rw [hs _ (by omega), hs _ (by omega)]
        exact ⟨this.2.2.1, this.2.2.2.1⟩
  have fP : ∀ j, j < 28 → q_P F j = if j = t then Int32.ofNat 4 else q_P D j := fun j hj => by
    show F.1 107 (25 + j) = _
    rw [fr, if_neg (by omega), if_neg (by omega), if_neg (by omega), if_neg (by omega), if_neg (by omega)]
    by_cases c : j = t
    · rw [if_pos (by omega), if_pos c]
    · rw [if_neg (by omega), if_neg c, g4 _ (by omega) (by omega), hs _ (by omega)]; rfl
  obtain ⟨hcn, hpn⟩ := q_out (f := q_P D) (g := q_P F) ht hx hP fP
  have hcx := hcn x hx
  rw [if_pos rfl] at hcx
  -- the open sum
  obtain ⟨Dc, d1, d2, d3, d4, d5, -, -⟩ := q164 (x := x) hN hK ht he hn hf
  have hch2 : q_ch (q_c Dc 1) (q_s F 0) (n + 1) (q_T1 e n t T) (q_V1 e n t T V) := c_chn hK.1 ht he hn hnt htv d2 d3 d4 d5 (by
      show F.1 107 12 = _
      rw [fr, if_neg (by omega), if_neg (by omega), if_neg (by omega), if_neg (by omega), if_neg (by omega), if_neg (by omega)]; exact g2) fch (fun j hj => fP j hj) (fun j hj => by
      show F.1 107 (53 + j) = if j = t then Int32.ofNat x else D.1 107 (53 + j)
      rw [fr, if_neg (by omega), if_neg (by omega), if_neg (by omega), if_neg (by omega)]
      by_cases c : j = t
      · rw [if_pos (by omega), if_pos c]
      · rw [if_neg (by omega), if_neg (by omega), if_neg c, g4 _ (by omega) (by omega), hs _ (by omega)]) (fun j hj => by
      show F.1 107 (81 + j) = if j = t then Int32.ofNat (n + 1) else D.1 107 (81 + j)
      rw [fr, if_neg (by omega), if_neg (by omega), if_neg (by omega)]
      by_cases c : j = t
      · rw [if_pos (by omega), if_pos c]
      · rw [if_neg (by omega), if_neg (by omega), if_neg (by omega), if_neg c, g4 _ (by omega) (by omega), hs _ (by omega)])
  have hBF : q_B F := by intro t ht; rw [fo 109 (by omega), fo 110 (by omega)]; exact hB t ht
  have h64 : m64 F = some (Int32.ofNat w) := by
    have hH2 := q_hy_KC hch2
    have u1 : (q_hy Dc F).1 107 = F.1 107 := q_hy_m (by omega)
    have u2 : (q_hy Dc F).1 109 = F.1 109 := q_hy_m (by omega)
    have u3 : (q_hy Dc F).1 110 = F.1 110 := q_hy_m (by omega)
    rw [← q_M64 u1 u2 u3, q64C (by intro t ht; rw [u2, u3]; exact hBF t ht) hH2, q_sum1 hK ht he hn hf hH2, h161]
  have hi6 : 0 ≤ (6 : Int32) + Int32.ofNat (x % 2) ∧ (6 : Int32) + Int32.ofNat (x % 2) < 1320 := by
    rw [q_l6, q_add]; exact q_in (n := 1320) (by omega) (by omega)
  have hi6' : ((6 : Int32) + Int32.ofNat (x % 2)).toNatClampNeg = 6 + x % 2 := by rw [q_l6, q_add, q_tn (by omega)]
  have i1 : ∀ a, a < 1320 → 0 ≤ Int32.ofNat a ∧ Int32.ofNat a < 1320 := fun a ha => q_in (n := 1320) (by omega) ha
  have em : m71 N E (Int32.ofNat x) (Int32.ofNat t) (Int32.ofNat e) = (m57 N F (Int32.ofNat x)).bind fun q22 => (((if q22 = 0 then (am_lt (am_uI F 107 0 (2 : Int32)) fun D28 => ((m58 N D28 (0 : Int32)).bind fun q30 => ((m58 N D28 (1 : Int32)).bind fun q32 => ((m58 N D28 (2 : Int32)).bind fun q34 => ((m58 N D28 (3 : Int32)).bind fun q36 => (am_lt (Int32.ofNat (q_fi w) + ((((q30 + q32) + q34) + q36) / (5 : Int32))) fun x38 => (some (x38, D28)))))))) else (some (Int32.ofNat (q_fi w), F)))).bind fun q24 => some (q24.1, am_uI (am_uI q24.2 107 (6 + x % 2) (q24.2.1 107 (6 + x % 2) + q24.1)) 107 1 (Int32.ofNat ((x + 1) % 4)))) := by
    have a1 : (25 : Int32) + Int32.ofNat t = Int32.ofNat (25 + t) := by rw [q_l25, q_add]
    have a2 : (53 : Int32) + Int32.ofNat t = Int32.ofNat (53 + t) := by rw [q_l53, q_add]
    have a3 : (81 : Int32) + Int32.ofNat t = Int32.ofNat (81 + t) := by rw [q_l81, q_add]
    have a4 : (Int32.ofNat x - Int32.ofNat x / (2 : Int32) * (2 : Int32)) = Int32.ofNat (x % 2) := q187 x hx
    have a5 : ((Int32.ofNat x + (1 : Int32)) - (Int32.ofNat x + (1 : Int32)) / (4 : Int32) * (4 : Int32)) = Int32.ofNat ((x + 1) % 4) := q_md4' x hx 1 (by omega)
    have a6 : (am_uI (am_uI G 107 (25 + t) 4) 107 (53 + t) (Int32.ofNat x)).1 107 12 = Int32.ofNat (n + 1) := by
      rw [q_uI_at, if_neg (by omega), q_uI_at, if_neg (by omega)]; exact g2
    have a7 : (am_uI (am_uI (am_uI G 107 (25 + t) 4) 107 (53 + t) (Int32.ofNat x)) 107 (81 + t) (Int32.ofNat (n + 1))).1 107 9 = E.1 107 9 := by
      rw [q_uI_at, if_neg (by omega), q_uI_at, if_neg (by omega), q_uI_at, if_neg (by omega), g4 9 (by omega) (by omega)]
    unfold m71
    rw [g1, Option.bind_some, a1, a2, a3, a4, a5]
    simp only [am_lt]
    rw [if_pos (i1 (25 + t) (by omega)), if_pos (i1 (53 + t) (by omega)), if_pos (i1 (81 + t) (by omega)), q_tn (show 25 + t < 2147483648 by omega), q_tn (show 53 + t < 2147483648 by omega), q_tn (show 81 + t < 2147483648 by omega)]
    simp only [a6, a7]
    rw [← hF, h64, Option.bind_some, (q_fi1 w hw).2]
    simp only [if_pos hi6, hi6']
  rw [em, q57 hN, Option.bind_some]
  have hgl := q_fi_le w hw
  by_cases c : q_cnt (q_P D) (Int32.ofNat x) = 1
  · have c0 : q_cnt (q_P F) (Int32.ofNat x) = 0 := by omega
    have hp0 := q_pips_0 c0
    have fP28 : q_P (am_uI F 107 0 2) = q_P F := by
      funext j
      show (if 107 = 107 ∧ 25 + j = 0 then 2 else F.1 107 (25 + j)) = F.1 107 (25 + j)
      rw [if_neg (by omega)]
    have hB28 : q_B (am_uI F 107 0 2) := by intro t ht; rw [q_uI_ne _ (by omega), q_uI_ne _ (by omega)]; exact hBF t ht
    have p0 := hpn 0 (by omega)
    have p1 := hpn 1 (by omega)
    have p2 := hpn 2 (by omega)
    have p3 := hpn 3 (by omega)
    have hsum : q_pips (q_P F) (Int32.ofNat 0) + q_pips (q_P F) (Int32.ofNat 1) + q_pips (q_P F) (Int32.ofNat 2) + q_pips (q_P F) (Int32.ofNat 3) = q_all (q_pips (q_P D)) - q_pips (q_P D) (Int32.ofNat x) := by
      rw [q_all_eq]
      obtain rfl | rfl | rfl | rfl : x = 0 ∨ x = 1 ∨ x = 2 ∨ x = 3 := by omega
      all_goals simp (decide := true) only [if_true, if_false] at p0 p1 p2 p3
      all_goals omega
    have hall := q_all_le (q_P D)
    have hgn : Int32.ofNat (q_fi w) + ((((Int32.ofNat (q_pips (q_P F) (Int32.ofNat 0)) + Int32.ofNat (q_pips (q_P F) (Int32.ofNat 1))) + Int32.ofNat (q_pips (q_P F) (Int32.ofNat 2))) + Int32.ofNat (q_pips (q_P F) (Int32.ofNat 3))) / (5 : Int32)) = Int32.ofNat (q_gain D x w) := by
      rw [q_add, q_add, q_add, hsum, q_l5, q_div (by omega) (by omega), q_add]
      unfold q_gain
      rw [if_pos c]
    rw [c0, if_pos (show Int32.ofNat 0 = 0 from rfl)]
    refine ⟨am_uI (am_uI (am_uI F 107 0 2) 107 (6 + x % 2) ((am_uI F 107 0 2).1 107 (6 + x % 2) + Int32.ofNat (q_gain D x w))) 107 1 (Int32.ofNat ((x + 1) % 4)), ?_, ?_, ?_, ?_, ?_⟩
    · simp only [am_lt, q58 hN hB28, fP28, Option.bind_some]
      rw [show (0 : Int32) = Int32.ofNat 0 from rfl, show (1 : Int32) = Int32.ofNat 1 from rfl, show (2 : Int32) = Int32.ofNat 2 from rfl, show (3 : Int32) = Int32.ofNat 3 from rfl, hgn]
    · intro k hk
      rw [q_uI_at, if_neg (by omega), q_uI_at, if_neg (by omega), q_uI_at, if_neg (by omega), q_uI_at, if_neg (by omega), q_uI_at, if_neg (by omega), q_uI_at, if_neg (by omega)]
      exact fch k hk
    · intro j hj
      rw [q_uI_at, q_uI_at, q_uI_at, q_uI_at, if_pos c]
      simp only [true_and]
      rw [if_neg (show ¬ 6 + x % 2 = 0 by omega), fr, fr j, g4 (6 + x % 2) (by omega) (by omega)]
      rw [if_neg (show ¬ 6 + x % 2 = 4 by omega), if_neg (show ¬ 6 + x % 2 = 5 by omega), if_neg (show ¬ 6 + x % 2 = 9 by omega), if_neg (show ¬ 6 + x % 2 = 81 + t by omega), if_neg (show ¬ 6 + x % 2 = 53 + t by omega), if_neg (show ¬ 6 + x % 2 = 25 + t by omega)]
      by_cases h12 : j = 12
      · subst h12
        rw [g2]; rfl
      · rw [g4 j h12 hj, if_neg h12]; rfl
    · intro a ha
      rw [q_uI_ne _ ha, q_uI_ne _ ha, q_uI_ne _ ha, fo a ha]
    · exact f2
  · have hc28 := q_cnt_le (q_P F) (Int32.ofNat x)
    have c0 : ¬ Int32.ofNat (q_cnt (q_P F) (Int32.ofNat x)) = 0 := by rw [q_l0, q_eq (by omega) (by omega)]; omega
    have hgn : q_gain D x w = q_fi w := by unfold q_gain; rw [if_neg c, Nat.add_zero]
    rw [if_neg c0, Option.bind_some, hgn]
    refine ⟨_, rfl, ?_, ?_, ?_, ?_⟩
    · intro k hk
      rw [q_uI_at, if_neg (by omega), q_uI_at, if_neg (by omega), q_uI_at, if_neg (by omega), q_uI_at, if_neg (by omega)]
      exact fch k hk
    · intro j hj
      rw [q_uI_at, q_uI_at, if_neg c]
      simp only [true_and]
      rw [fr, fr j, g4 (6 + x % 2) (by omega) (by omega)]
      rw [if_neg (show ¬ 6 + x % 2 = 4 by omega), if_neg (show ¬ 6 + x % 2 = 5 by omega), if_neg (show ¬ 6 + x % 2 = 9 by omega), if_neg (show ¬ 6 + x % 2 = 81 + t by omega), if_neg (show ¬ 6 + x % 2 = 53 + t by omega), if_neg (show ¬ 6 + x % 2 = 25 + t by omega)]
      by_cases h0 : j = 0
      · subst h0
        rw [if_neg (by omega), if_neg (by omega), if_neg (by omega), if_neg (by omega), if_neg (by omega), if_neg (by omega), if_neg (by omega), if_neg (by omega), if_neg (by omega), if_neg (by omega), if_pos rfl, g4 0 (by omega) hj, hs 0 (by omega)]
        exact k_p hK
      · rw [if_neg h0]
        by_cases h12 : j = 12
        · subst h12
          rw [g2]; rfl
        · rw [g4 j h12 hj, if_neg h12]
    · intro a ha
      rw [q_uI_ne _ ha, q_uI_ne _ ha, fo a ha]
    · exact f2
end MK
