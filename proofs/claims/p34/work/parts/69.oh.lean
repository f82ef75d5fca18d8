/-! deals: the class looks into a hand -/
section OH
variable {D : am_D} {N n p : Nat} {T V : Nat → Nat}
theorem q_in_ka : ∀ k, k < 8 → (0 ≤ Int32.ofNat k ∧ Int32.ofNat k < Int32.ofNat 8) := fun k hk => q_in (by omega) hk
/-- so far the tiles below t are looked at -/
def q_lk1 (D E : am_D) (x t : Nat) : Prop := E.1 93 5 = Int32.ofNat x ∧ (∀ j, j < 3 → E.1 94 j = Int32.ofNat (q_cnt (D.1 7) (Int32.ofNat ((x + 1 + j) % 4)))) ∧ (∀ s, s < t → E.1 95 s = if q_sc (D.1 7) x s = 1 then Int32.ofNat (q_ka D x s) else -1) ∧ (∀ k, k < 8 → E.1 96 k = Int32.ofNat (q_kc (q_ka D x) (q_ls (D.1 7) x t) k)) ∧ (∀ a, a < 93 ∨ 96 < a → E.1 a = D.1 a) ∧ E.2 = D.2
theorem q189_L (hN : 2000 ≤ N) (hK : q_K D n p T V) {x : Nat} (hx : x < 4) : ∀ (k t m : Nat) (E : am_D), t + k = 28 → k < m → q_lk1 D E x t → ∃ E', m189_L47 N (Int32.ofNat x) m E (Int32.ofNat t) = some E' ∧ q_lk1 D E' x 28
  | 0, t, m + 1, E, ht, hm, h => by
    obtain rfl : t = 28 := by omega
    rw [m189_L47, if_pos (show (28 : Int32) ≤ Int32.ofNat 28 by decide)]
    exact ⟨E, rfl, h⟩
  | k + 1, t, m + 1, E, ht, hm, h => by
    have ht28 : t < 28 := by omega
    obtain ⟨h1, h2, h3, h4, h5, h6⟩ := h
    obtain ⟨w, hw, ew⟩ := k_pw hK t ht28
    have e7 : D.1 7 t = Int32.ofNat w := (k_pl hK t ht28).trans ew
    have hsc := q_sc_w (x := x) hw e7
    have hka := q_ka_lt D x t
    have eq17 : (if Int32.ofNat w = Int32.ofNat x then (0 : Int32) else (if Int32.ofNat w < 0 then (0 : Int32) else (if (4 : Int32) ≤ Int32.ofNat w then (0 : Int32) else (1 : Int32)))) = Int32.ofNat (q_sc (D.1 7) x t) := by
      rw [hsc]
      by_cases c : w = x
      · rw [if_pos (by rw [c]), if_neg (fun q => q.2 c)]; rfl
      · rw [if_neg (show ¬ Int32.ofNat w = Int32.ofNat x from fun q => c (q_ofN (by omega) (by omega) q)), if_neg (show ¬ Int32.ofNat w < 0 from q_nlt (a := 0) (b := w) (by omega) (by omega))]
        by_cases d : w < 4
        · rw [if_neg (show ¬ (4 : Int32) ≤ Int32.ofNat w from q_nle (a := w) (b := 4) (by omega) d), if_pos ⟨d, c⟩]; rfl
        · rw [if_pos (show (4 : Int32) ≤ Int32.ofNat w from q_yle (a := 4) (b := w) (by omega) (by omega)), if_neg (fun q => d q.1)]; rfl
    have hsc1 : q_sc (D.1 7) x t = 0 ∨ q_sc (D.1 7) x t = 1 := by rw [hsc]; split <;> omega
    rw [m189_L47, if_neg (show ¬ (28 : Int32) ≤ Int32.ofNat t from q_nle (a := t) (b := 28) (by omega) ht28)]
    simp only [am_lt]
    rw [q203 E ht28, h5 7 (by omega), e7, eq17, show Int32.ofNat t + 1 = Int32.ofNat (t + 1) from q_add t 1]
    rcases hsc1 with c | c
    · rw [c, if_pos (show Int32.ofNat 0 = 0 from rfl), Option.bind_some, q_rp_at _ _ _ _ (by omega) ht28]
      have e : am_radd (am_uI E 95 t (-1)) 96 8 (-1) 1 = am_uI E 95 t (-1) := by
        unfold am_radd
        rw [if_neg (fun q => absurd q.1 (by decide))]
      rw [e]
      refine q189_L hN hK hx k (t + 1) m _ (by omega) (by omega) ⟨?_, fun j hj => ?_, fun s hs => ?_, fun k' hk' => ?_, fun a ha => ?_, h6⟩
      · rw [q_uI_ne _ (by omega)]; exact h1
      · rw [q_uI_ne _ (by omega)]; exact h2 j hj
      · rw [q_uI_at]
        by_cases d : s = t
        · rw [if_pos ⟨rfl, d⟩, d, c, if_neg (by omega)]
        · rw [if_neg (fun q => d q.2)]; exact h3 s (by omega)
      · rw [q_uI_ne _ (by omega), h4 k' hk']
        show _ = Int32.ofNat (q_kc (q_ka D x) (if q_sc (D.1 7) x t = 1 then t :: q_ls (D.1 7) x t else q_ls (D.1 7) x t) k')
        rw [if_neg (by omega)]
      · rw [q_uI_ne _ (by omega)]; exact h5 a ha
    · rw [c, if_neg (show ¬ Int32.ofNat 1 = 0 by decide), q191 hN hK hx ht28 h1 (h5 9 (by omega)), Option.bind_some, Option.bind_some, q_rp_at _ _ _ _ (by omega) ht28, q_ra_at _ _ _ _ (by omega) hka]
      refine q189_L hN hK hx k (t + 1) m _ (by omega) (by omega) ⟨?_, fun j hj => ?_, fun s hs => ?_, fun k' hk' => ?_, fun a ha => ?_, h6⟩
      · rw [q_uI_ne _ (by omega), q_uI_ne _ (by omega)]; exact h1
      · rw [q_uI_ne _ (by omega), q_uI_ne _ (by omega)]; exact h2 j hj
      · rw [q_uI_ne _ (by omega), q_uI_at]
        by_cases d : s = t
        · rw [if_pos ⟨rfl, d⟩, d, c, if_pos rfl]
        · rw [if_neg (fun q => d q.2)]; exact h3 s (by omega)
      · show _ = Int32.ofNat (q_kc (q_ka D x) (if q_sc (D.1 7) x t = 1 then t :: q_ls (D.1 7) x t else q_ls (D.1 7) x t) k')
        rw [if_pos c]
        show _ = Int32.ofNat (q_ad (q_kc (q_ka D x) (q_ls (D.1 7) x t)) (q_ka D x t) k')
        unfold q_ad
        rw [q_uI_at, q_uI_ne _ (by omega), h4 _ hka]
        by_cases d : k' = q_ka D x t
        · rw [if_pos ⟨rfl, d⟩, if_pos d, d]; exact q_add _ 1
        · rw [if_neg (fun q => d q.2), if_neg d]; exact h4 k' hk'
      · rw [q_uI_ne _ (by omega), q_uI_ne _ (by omega)]; exact h5 a ha
  | _, _, 0, _, _, hm, _ => by omega
theorem q189_7 (hN : 2000 ≤ N) {x : Nat} (hx : x < 4) : ∀ (k j m : Nat) (E : am_D), j + k = 3 → k < m → E.1 7 = D.1 7 → ∃ E', m189_L7 N (Int32.ofNat x) m E (Int32.ofNat j) = some E' ∧ (∀ i, i < 3 → E'.1 94 i = if i < j then E.1 94 i else Int32.ofNat (q_cnt (D.1 7) (Int32.ofNat ((x + 1 + i) % 4)))) ∧ (∀ a, a ≠ 94 → E'.1 a = E.1 a) ∧ E'.2 = E.2
  | 0, j, m + 1, E, hj, hm, h7 => by
    obtain rfl : j = 3 := by omega
    rw [m189_L7, if_pos (show (3 : Int32) ≤ Int32.ofNat 3 by decide)]
    exact ⟨E, rfl, fun i hi => by rw [if_pos hi], fun _ _ => rfl, rfl⟩
  | k + 1, j, m + 1, E, hj, hm, h7 => by
    have hj3 : j < 3 := by omega
    rw [m189_L7, if_neg (show ¬ (3 : Int32) ≤ Int32.ofNat j from q_nle (a := j) (b := 3) (by omega) hj3), show Int32.ofNat x + 1 = Int32.ofNat (x + 1) from q_add x 1, q_add, show (4 : Int32) = Int32.ofNat 4 from rfl, q_mod (by omega) (by omega), q204 hN, Option.bind_some]
    simp only [am_lt]
    rw [q_rp_at _ _ _ _ (by omega) hj3, show Int32.ofNat j + 1 = Int32.ofNat (j + 1) from q_add j 1, h7]
    obtain ⟨E', e1, e2, e3, e4⟩ := q189_7 hN hx k (j + 1) m (am_uI E 94 j (Int32.ofNat (q_cnt (D.1 7) (Int32.ofNat ((x + 1 + j) % 4))))) (by omega) (by omega) (by rw [q_uI_ne _ (by omega)]; exact h7)
    refine ⟨E', e1, fun i hi => ?_, fun a ha => by rw [e3 a ha, q_uI_ne _ ha], e4⟩
    rw [e2 i hi, q_uI_at]
    by_cases c : i < j
    · rw [if_pos (by omega), if_neg (by omega), if_pos c]
    · by_cases d : i = j
      · subst d
        rw [if_pos (by omega), if_pos ⟨rfl, rfl⟩, if_neg c]
      · rw [if_neg (by omega), if_neg c]
  | _, _, 0, _, _, hm, _ => by omega
/-- the class looks -/
theorem q189 (hN : 2000 ≤ N) (hK : q_K D n p T V) {x : Nat} (hx : x < 4) : ∃ E, m189 N D (Int32.ofNat x) = some E ∧ q_lk1 D E x 28 := by
  obtain ⟨E1, a1, a2, a3, a4⟩ := q189_7 (N := N) (D := D) hN hx 3 0 N (am_uI D 93 5 (Int32.ofNat x)) (by omega) (by omega) (q_uI_ne _ (by omega))
  have a1' : m189_L7 N (Int32.ofNat x) N (am_uI D 93 5 (Int32.ofNat x)) 0 = _ := a1
  obtain ⟨E2, b1, b2⟩ := q189_L (N := N) hN hK hx 28 0 N (am_rfill E1 96 8 0) (by omega) (by omega) ⟨by rw [q_rf_ne _ (by omega), a3 93 (by omega)]; exact q_uIs _ _ _ _, fun j hj => by rw [q_rf_ne _ (by omega), a2 j hj, if_neg (by omega)], fun s hs => by omega, fun k hk => by rw [q_rf_at, if_pos rfl, if_pos hk]; rfl, fun a ha => by rw [q_rf_ne _ (by omega), a3 a (by omega), q_uI_ne _ (by omega)], a4⟩
  have b1' : m189_L47 N (Int32.ofNat x) N (am_rfill E1 96 8 0) 0 = _ := b1
  refine ⟨E2, ?_, b2⟩
  unfold m189
  simp only [am_lt]
  rw [a1', Option.bind_some, b1', Option.bind_some]
/-- what has been looked at leaves the rest as it was -/
theorem q_lk1_E {E : am_D} {x t : Nat} (h : q_lk1 D E x t) : q_E D E := ⟨fun a ha => h.2.2.2.2.1 a (by omega), ⟨by rw [h.2.2.2.2.1 106 (by omega)], by rw [h.2.2.2.2.1 106 (by omega)], by rw [h.2.2.2.2.1 106 (by omega)]⟩, by rw [h.2.2.2.2.2]⟩
end OH
