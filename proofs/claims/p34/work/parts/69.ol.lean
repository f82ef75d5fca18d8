/-! deals: the model counts all tiles -/
section OL
variable {D : am_D} {N n p : Nat} {T V : Nat → Nat}
theorem q121_6 {v1' v2' : Int32} {x : Nat} (hx : x < 4) : ∀ (k i m : Nat) (E : am_D), i + k = 4 → k < m → (∀ j, j < (if x < i then i - 1 else i) → E.1 112 j = Int32.ofNat (q_ot x j)) → ∃ E', m121_L6 N (Int32.ofNat x) v1' v2' m E (Int32.ofNat (if x < i then i - 1 else i)) (Int32.ofNat i) = some E' ∧ (∀ j, j < 3 → E'.1 112 j = Int32.ofNat (q_ot x j)) ∧ (∀ a, a ≠ 112 → E'.1 a = E.1 a) ∧ E'.2 = E.2
  | 0, i, m + 1, E, hi, hm, h => by
    obtain rfl : i = 4 := by omega
    rw [m121_L6, if_pos (show (4 : Int32) ≤ Int32.ofNat 4 by decide)]
    rw [if_pos hx] at h
    exact ⟨E, rfl, fun j hj => h j (by omega), fun _ _ => rfl, rfl⟩
  | k + 1, i, m + 1, E, hi, hm, h => by
    rw [m121_L6, if_neg (show ¬ (4 : Int32) ≤ Int32.ofNat i from q_nle (a := i) (b := 4) (by omega) (by omega))]
    simp only [am_lt]
    rw [show Int32.ofNat i + 1 = Int32.ofNat (i + 1) from q_add i 1]
    by_cases c : i = x
    · have e : (if x < i then i - 1 else i) = (if x < i + 1 then i + 1 - 1 else i + 1) := by rw [if_neg (by omega), if_pos (by omega)]; omega
      rw [if_pos (show Int32.ofNat i = Int32.ofNat x by rw [c]), Option.bind_some]
      dsimp only
      rw [e]
      exact q121_6 hx k (i + 1) m E (by omega) (by omega) (by rw [← e]; exact h)
    · have h3 : (if x < i then i - 1 else i) < 3 := by split <;> omega
      have e : (if x < i then i - 1 else i) + 1 = (if x < i + 1 then i + 1 - 1 else i + 1) := by
        by_cases d : x < i
        · rw [if_pos d, if_pos (by omega)]; omega
        · rw [if_neg d, if_neg (by omega)]
      have eo : q_ot x (if x < i then i - 1 else i) = i := by
        unfold q_ot
        by_cases d : x < i
        · rw [if_pos d, if_neg (by omega)]; omega
        · rw [if_neg d, if_pos (by omega)]
      rw [if_neg (show ¬ Int32.ofNat i = Int32.ofNat x from fun q => c (q_ofN (by omega) (by omega) q)), if_pos (show 0 ≤ Int32.ofNat (if x < i then i - 1 else i) ∧ Int32.ofNat (if x < i then i - 1 else i) < 3 from q_in (n := 3) (by omega) h3), Option.bind_some]
      dsimp only
      rw [q_tn (by omega), show Int32.ofNat (if x < i then i - 1 else i) + 1 = Int32.ofNat ((if x < i then i - 1 else i) + 1) from q_add _ 1, e]
      obtain ⟨E', e1, e2, e3, e4⟩ := q121_6 (v1' := v1') (v2' := v2') hx k (i + 1) m (am_uI E 112 (if x < i then i - 1 else i) (Int32.ofNat i)) (by omega) (by omega) (fun j hj => by
        rw [← e] at hj
        rw [q_uI_at]
        by_cases d : j = (if x < i then i - 1 else i)
        · rw [if_pos ⟨rfl, d⟩, d, eo]
        · rw [if_neg (fun q => d q.2)]
          exact h j (by omega))
      exact ⟨E', e1, e2, fun a ha => by rw [e3 a ha, q_uI_ne _ ha], e4⟩
  | _, _, 0, _, _, hm, _ => by omega
theorem q121_75 {v1 v2 v3 v5 v6 v7 : Int32} : ∀ (k i m : Nat) (E : am_D), i + k = 64 → k < m → ∃ E', m121_L75 N v1 v2 v3 v5 v6 v7 m E (Int32.ofNat i) = some E' ∧ (∀ j, E'.1 111 j = if i ≤ j ∧ j < 64 then Int32.ofNat (if j = 0 then 1 else 0) else E.1 111 j) ∧ (∀ a, a ≠ 111 → E'.1 a = E.1 a) ∧ E'.2 = E.2
  | 0, i, m + 1, E, hi, hm => by
    obtain rfl : i = 64 := by omega
    rw [m121_L75, if_pos (show (64 : Int32) ≤ Int32.ofNat 64 by decide)]
    exact ⟨E, rfl, fun j => by rw [if_neg (by omega)], fun _ _ => rfl, rfl⟩
  | k + 1, i, m + 1, E, hi, hm => by
    have h64 : i < 64 := by omega
    have e0 : (if Int32.ofNat i = 0 then (1 : Int32) else 0) = Int32.ofNat (if i = 0 then 1 else 0) := by
      by_cases c : i = 0
      · rw [if_pos c, c]; rfl
      · rw [if_neg c, if_neg (show ¬ Int32.ofNat i = 0 from fun q => c (q_ofN (b := 0) (by omega) (by omega) q))]; rfl
    rw [m121_L75, if_neg (show ¬ (64 : Int32) ≤ Int32.ofNat i from q_nle (a := i) (b := 64) (by omega) h64), e0]
    simp only [am_lt]
    rw [if_pos (show 0 ≤ Int32.ofNat i ∧ Int32.ofNat i < 64 from q_in (n := 64) (by omega) h64), q_tn (by omega), show Int32.ofNat i + 1 = Int32.ofNat (i + 1) from q_add i 1]
    obtain ⟨E', e1, e2, e3, e4⟩ := q121_75 (v1 := v1) (v2 := v2) (v3 := v3) (v5 := v5) (v6 := v6) (v7 := v7) k (i + 1) m (am_uI E 111 i (Int32.ofNat (if i = 0 then 1 else 0))) (by omega) (by omega)
    refine ⟨E', e1, fun j => ?_, fun a ha => by rw [e3 a ha, q_uI_ne _ ha], e4⟩
    rw [e2, q_uI_at]
    by_cases c : j = i
    · subst c
      rw [if_neg (by omega), if_pos ⟨rfl, rfl⟩, if_pos (show j ≤ j ∧ j < 64 by omega)]
    · rw [if_neg (show ¬ (111 = 111 ∧ j = i) from fun q => c q.2)]
      by_cases d : i + 1 ≤ j ∧ j < 64
      · rw [if_pos d, if_pos (show i ≤ j ∧ j < 64 by omega)]
      · rw [if_neg d, if_neg (show ¬ (i ≤ j ∧ j < 64) by omega)]
  | _, _, 0, _, _, hm => by omega
theorem q_pm_cg {D E : am_D} (h : E.1 107 = D.1 107) (r h' : Int32) (o t : Nat) : q_pm E r h' o t = q_pm D r h' o t := by
  unfold q_pm q_lkm
  rw [h]
/-- the model's number of a place -/
def q_dn (D : am_D) (r h : Int32) (x n3 : Nat) (L : List Nat) (i : Nat) : Nat := if i / 8 + i % 8 ≤ L.length ∧ L.length - (i / 8 + i % 8) ≤ n3 then q_W (fun t => q_pm D r h (q_ot x 0) t = 1) (fun t => q_pm D r h (q_ot x 1) t = 1) (fun t => q_pm D r h (q_ot x 2) t = 1) L (i / 8) (i % 8) (L.length - (i / 8 + i % 8)) else 0
theorem q_dn_s (D : am_D) (r h : Int32) (x n3 : Nat) (L : List Nat) (t i : Nat) (hi : i < 64) : q_nw (q_dn D r h x n3 L) L.length n3 (q_pm D r h (q_ot x 0) t) (q_pm D r h (q_ot x 1) t) (q_pm D r h (q_ot x 2) t) i = q_dn D r h x n3 (t :: L) i := by
  have h1 := q_pm_le D r h (q_ot x 0) t
  have h2 := q_pm_le D r h (q_ot x 1) t
  have h3 := q_pm_le D r h (q_ot x 2) t
  have el : (t :: L).length = L.length + 1 := List.length_cons
  unfold q_nw
  rw [show q_dn D r h x n3 (t :: L) i = if i / 8 + i % 8 ≤ (t :: L).length ∧ (t :: L).length - (i / 8 + i % 8) ≤ n3 then q_W (fun t => q_pm D r h (q_ot x 0) t = 1) (fun t => q_pm D r h (q_ot x 1) t = 1) (fun t => q_pm D r h (q_ot x 2) t = 1) (t :: L) (i / 8) (i % 8) ((t :: L).length - (i / 8 + i % 8)) else 0 from rfl, el]
  by_cases c : i / 8 + i % 8 ≤ L.length + 1 ∧ L.length + 1 - (i / 8 + i % 8) ≤ n3
  · rw [if_pos c, if_pos c]
    show _ = (if q_pm D r h (q_ot x 0) t = 1 ∧ 0 < i / 8 then q_W _ _ _ L (i / 8 - 1) (i % 8) (L.length + 1 - (i / 8 + i % 8)) else 0) + (if q_pm D r h (q_ot x 1) t = 1 ∧ 0 < i % 8 then q_W _ _ _ L (i / 8) (i % 8 - 1) (L.length + 1 - (i / 8 + i % 8)) else 0) + (if q_pm D r h (q_ot x 2) t = 1 ∧ 0 < L.length + 1 - (i / 8 + i % 8) then q_W _ _ _ L (i / 8) (i % 8) (L.length + 1 - (i / 8 + i % 8) - 1) else 0)
    have e3 : (if q_pm D r h (q_ot x 2) t = 1 ∧ 1 ≤ L.length + 1 - (i / 8 + i % 8) then q_dn D r h x n3 L i else 0) = (if q_pm D r h (q_ot x 2) t = 1 ∧ 0 < L.length + 1 - (i / 8 + i % 8) then q_W (fun t => q_pm D r h (q_ot x 0) t = 1) (fun t => q_pm D r h (q_ot x 1) t = 1) (fun t => q_pm D r h (q_ot x 2) t = 1) L (i / 8) (i % 8) (L.length + 1 - (i / 8 + i % 8) - 1) else 0) := by
      by_cases d : q_pm D r h (q_ot x 2) t = 1 ∧ 0 < L.length + 1 - (i / 8 + i % 8)
      · rw [if_pos d, if_pos ⟨d.1, by omega⟩]
        unfold q_dn
        rw [if_pos (by omega), show L.length + 1 - (i / 8 + i % 8) - 1 = L.length - (i / 8 + i % 8) by omega]
      · rw [if_neg d, if_neg (fun q => d ⟨q.1, by omega⟩)]
    have e1 : (if q_pm D r h (q_ot x 0) t = 1 ∧ 0 < i / 8 then q_dn D r h x n3 L (i - 8) else 0) = (if q_pm D r h (q_ot x 0) t = 1 ∧ 0 < i / 8 then q_W (fun t => q_pm D r h (q_ot x 0) t = 1) (fun t => q_pm D r h (q_ot x 1) t = 1) (fun t => q_pm D r h (q_ot x 2) t = 1) L (i / 8 - 1) (i % 8) (L.length + 1 - (i / 8 + i % 8)) else 0) := by
      by_cases d : q_pm D r h (q_ot x 0) t = 1 ∧ 0 < i / 8
      · have d2 := d.2
        rw [if_pos d, if_pos d]
        unfold q_dn
        rw [show (i - 8) / 8 = i / 8 - 1 by omega, show (i - 8) % 8 = i % 8 by omega, if_pos (by omega), show L.length - (i / 8 - 1 + i % 8) = L.length + 1 - (i / 8 + i % 8) by omega]
      · rw [if_neg d, if_neg d]
    have e2 : (if q_pm D r h (q_ot x 1) t = 1 ∧ 0 < i % 8 then q_dn D r h x n3 L (i - 1) else 0) = (if q_pm D r h (q_ot x 1) t = 1 ∧ 0 < i % 8 then q_W (fun t => q_pm D r h (q_ot x 0) t = 1) (fun t => q_pm D r h (q_ot x 1) t = 1) (fun t => q_pm D r h (q_ot x 2) t = 1) L (i / 8) (i % 8 - 1) (L.length + 1 - (i / 8 + i % 8)) else 0) := by
      by_cases d : q_pm D r h (q_ot x 1) t = 1 ∧ 0 < i % 8
      · have d2 := d.2
        rw [if_pos d, if_pos d]
        unfold q_dn
        rw [show (i - 1) / 8 = i / 8 by omega, show (i - 1) % 8 = i % 8 - 1 by omega, if_pos (by omega), show L.length - (i / 8 + (i % 8 - 1)) = L.length + 1 - (i / 8 + i % 8) by omega]
      · rw [if_neg d, if_neg d]
    rw [e1, e2, e3]
    omega
  · rw [if_neg c, if_neg c]
theorem q121_111 (hN : 2000 ≤ N) (hB : q_B D) (hK : q_K D n p T V) {x n3 : Nat} {r h : Int32} {q15 q17 : Int32} (hx : x < 4) (hn : n3 < 100) (hr : ∀ t, t < 28 → Int32.ofNat t = r → ∃ w, w < 4 ∧ h = Int32.ofNat w) : ∀ (k t m : Nat) (E : am_D), t + k = 28 → k < m → (∀ a, a ≠ 111 → a ≠ 112 → E.1 a = D.1 a) → E.2 = D.2 → (∀ j, j < 3 → E.1 112 j = Int32.ofNat (q_ot x j)) → (∀ i, i < 64 → E.1 111 i = Int32.ofNat (q_dn D r h x n3 (q_ls (q_P D) x t) i)) → ∃ E', m121_L111 N (Int32.ofNat x) r h q15 q17 (Int32.ofNat n3) m E (Int32.ofNat (q_ls (q_P D) x t).length) (Int32.ofNat t) = some E' ∧ (∀ a, a ≠ 111 → a ≠ 112 → E'.1 a = D.1 a) ∧ E'.2 = D.2 ∧ (∀ i, i < 64 → E'.1 111 i = Int32.ofNat (q_dn D r h x n3 (q_ls (q_P D) x 28) i))
  | 0, t, m + 1, E, ht, hm, hE, hE2, h112, h111 => by
    obtain rfl : t = 28 := by omega
    rw [m121_L111, if_pos (show (28 : Int32) ≤ Int32.ofNat 28 by decide)]
    exact ⟨E, rfl, hE, hE2, h111⟩
  | k + 1, t, m + 1, E, ht, hm, hE, hE2, h112, h111 => by
    have ht28 : t < 28 := by omega
    obtain ⟨w, hw, ew⟩ := k_pw hK t ht28
    have hqE : q_E D E := ⟨fun a ha => hE a (by omega) (by omega), ⟨by rw [hE 106 (by omega) (by omega)], by rw [hE 106 (by omega) (by omega)], by rw [hE 106 (by omega) (by omega)]⟩, by rw [hE2]⟩
    have eP : E.1 107 (25 + t) = Int32.ofNat w := by rw [hE 107 (by omega) (by omega)]; exact ew
    have hsc := q_sc_w (x := x) hw ew
    have hlen : (q_ls (q_P D) x t).length < 100 := by
      have := q_sub_len (q_P D) x t (by omega)
      rw [q_ls_28 hx (k_pw hK)] at this
      have b1 := k_h7 hK ((x + 1) % 4) (by omega)
      have b2 := k_h7 hK ((x + 2) % 4) (by omega)
      have b3 := k_h7 hK ((x + 3) % 4) (by omega)
      omega
    have i25 : 0 ≤ (25 : Int32) + Int32.ofNat t ∧ (25 : Int32) + Int32.ofNat t < 1320 := by
      rw [q_l25, q_add]; exact q_in (n := 1320) (by omega) (by omega)
    have n25 : ((25 : Int32) + Int32.ofNat t).toNatClampNeg = 25 + t := by rw [q_l25, q_add, q_tn (by omega)]
    have e48 : m48 (Int32.ofNat w) = if w < 4 then 1 else 0 := by
      have : ∀ w, w < 6 → m48 (Int32.ofNat w) = if w < 4 then 1 else 0 := by decide +kernel
      exact this w hw
    have hls : q_ls (q_P D) x (t + 1) = if q_sc (q_P D) x t = 1 then t :: q_ls (q_P D) x t else q_ls (q_P D) x t := rfl
    rw [m121_L111, if_neg (show ¬ (28 : Int32) ≤ Int32.ofNat t from q_nle (a := t) (b := 28) (by omega) ht28), if_pos i25, n25, eP, e48]
    simp only [am_lt]
    rw [show Int32.ofNat t + 1 = Int32.ofNat (t + 1) from q_add t 1]
    by_cases c : w < 4 ∧ w ≠ x
    · rw [if_pos c] at hsc
      rw [if_pos hsc] at hls
      rw [if_pos c.1, if_neg (show ¬ (1 : Int32) = 0 by decide), if_pos i25, if_neg (show ¬ Int32.ofNat w = Int32.ofNat x from fun q => c.2 (q_ofN (by omega) (by omega) q))]
      obtain ⟨E1, f1, f2, f3, f4⟩ := q122 (J := q_dn D r h x n3 (q_ls (q_P D) x t)) (x := x) (r := r) (h := h) hN hlen hn ht28 (q_E_B hqE hB) (q_E_K hqE hK) h112 (hr t ht28) h111
      rw [f1, Option.bind_some, Option.bind_some]
      dsimp only
      rw [show Int32.ofNat (q_ls (q_P D) x t).length + 1 = Int32.ofNat ((q_ls (q_P D) x t).length + 1) from q_add _ 1]
      have hl1 : (q_ls (q_P D) x (t + 1)).length = (q_ls (q_P D) x t).length + 1 := by rw [hls, List.length_cons]
      rw [← hl1]
      refine q121_111 hN hB hK hx hn hr k (t + 1) m E1 (by omega) (by omega) (fun a h1 h2 => by rw [f3 a h1, hE a h1 h2]) (f4.trans hE2) (fun j hj => by rw [f3 112 (by omega)]; exact h112 j hj) (fun i hi => ?_)
      rw [f2 i hi, hls, ← q_dn_s D r h x n3 (q_ls (q_P D) x t) t i hi]
      rw [q_pm_cg (hE 107 (by omega) (by omega)), q_pm_cg (hE 107 (by omega) (by omega)), q_pm_cg (hE 107 (by omega) (by omega))]
    · rw [if_neg c] at hsc
      rw [if_neg (by omega)] at hls
      have eskip : (if (if w < 4 then (1 : Int32) else 0) = 0 then some (Int32.ofNat (q_ls (q_P D) x t).length, E) else if 0 ≤ (25 : Int32) + Int32.ofNat t ∧ (25 : Int32) + Int32.ofNat t < 1320 then (if Int32.ofNat w = Int32.ofNat x then some (Int32.ofNat (q_ls (q_P D) x t).length, E) else ((m122 N E (Int32.ofNat t) (if Int32.ofNat t = r then h else (-1 : Int32)) (Int32.ofNat (q_ls (q_P D) x t).length) (Int32.ofNat n3)).bind fun q45 => some (Int32.ofNat (q_ls (q_P D) x t).length + 1, q45))) else none) = some (Int32.ofNat (q_ls (q_P D) x t).length, E) := by
        by_cases d : w < 4
        · have : w = x := by
            by_cases q : w = x
            · exact q
            · exact absurd ⟨d, q⟩ c
          rw [if_pos d, if_neg (show ¬ (1 : Int32) = 0 by decide), if_pos i25, if_pos (by rw [this])]
        · rw [if_neg d, if_pos rfl]
      rw [eskip, Option.bind_some]
      dsimp only
      rw [← hls]
      refine q121_111 hN hB hK hx hn hr k (t + 1) m E (by omega) (by omega) hE hE2 h112 (fun i hi => ?_)
      rw [hls]
      exact h111 i hi
  | _, _, 0, _, _, hm, _, _, _, _ => by omega
/-- the number of deals, in the model -/
theorem q121 (hN : 2000 ≤ N) (hB : q_B D) (hK : q_K D n p T V) {x : Nat} {r h : Int32} (hx : x < 4) (hr : ∀ t, t < 28 → Int32.ofNat t = r → ∃ w, w < 4 ∧ h = Int32.ofNat w) : ∃ E, m121 N D (Int32.ofNat x) r h = some (Int32.ofNat (q_W (fun t => q_pm D r h (q_ot x 0) t = 1) (fun t => q_pm D r h (q_ot x 1) t = 1) (fun t => q_pm D r h (q_ot x 2) t = 1) (q_ls (q_P D) x 28) (q_cnt (q_P D) (Int32.ofNat (q_ot x 0))) (q_cnt (q_P D) (Int32.ofNat (q_ot x 1))) (q_cnt (q_P D) (Int32.ofNat (q_ot x 2)))), E) ∧ (∀ a, a ≠ 111 → a ≠ 112 → E.1 a = D.1 a) ∧ E.2 = D.2 := by
  obtain ⟨E1, a1, a2, a3, a4⟩ := q121_6 (N := N) (v1' := r) (v2' := h) hx 4 0 N D (by omega) (by omega) (fun j hj => by simp at hj)
  have a1' : m121_L6 N (Int32.ofNat x) r h N D 0 0 = some E1 := a1
  have b1 := k_h7 hK (q_ot x 0) (q_ot4 (by omega))
  have b2 := k_h7 hK (q_ot x 1) (q_ot4 (by omega))
  have b3 := k_h7 hK (q_ot x 2) (q_ot4 (by omega))
  have eP : q_P E1 = q_P D := by unfold q_P; rw [a3 107 (by omega)]
  obtain ⟨E2, c1, c2, c3, c4⟩ := q121_75 (N := N) (v1 := Int32.ofNat x) (v2 := r) (v3 := h) (v5 := Int32.ofNat (q_cnt (q_P D) (Int32.ofNat (q_ot x 0)))) (v6 := Int32.ofNat (q_cnt (q_P D) (Int32.ofNat (q_ot x 1)))) (v7 := Int32.ofNat (q_cnt (q_P D) (Int32.ofNat (q_ot x 2)))) 64 0 N E1 (by omega) (by omega)
  obtain ⟨E3, d1, d2, d3, d4⟩ := q121_111 (N := N) (n3 := q_cnt (q_P D) (Int32.ofNat (q_ot x 2))) (q15 := Int32.ofNat (q_cnt (q_P D) (Int32.ofNat (q_ot x 0)))) (q17 := Int32.ofNat (q_cnt (q_P D) (Int32.ofNat (q_ot x 1)))) hN hB hK hx (by omega) hr 28 0 N E2 (by omega) (by omega) (fun a h1 h2 => by rw [c3 a h1, a3 a h2]) (c4.trans a4) (fun j hj => by rw [c3 112 (by omega)]; exact a2 j hj) (fun i hi => by
    rw [c2, if_pos (by omega)]
    congr 1
    show _ = if i / 8 + i % 8 ≤ 0 ∧ 0 - (i / 8 + i % 8) ≤ _ then (if i / 8 = 0 ∧ i % 8 = 0 ∧ 0 - (i / 8 + i % 8) = 0 then 1 else 0) else 0
    by_cases e : i = 0
    · subst e
      rw [if_pos rfl, if_pos (by omega), if_pos (by omega)]
    · rw [if_neg e, if_neg (by omega)])
  have c1' : m121_L75 N (Int32.ofNat x) r h (Int32.ofNat (q_cnt (q_P D) (Int32.ofNat (q_ot x 0)))) (Int32.ofNat (q_cnt (q_P D) (Int32.ofNat (q_ot x 1)))) (Int32.ofNat (q_cnt (q_P D) (Int32.ofNat (q_ot x 2)))) N E1 0 = some E2 := c1
  have d1' : m121_L111 N (Int32.ofNat x) r h (Int32.ofNat (q_cnt (q_P D) (Int32.ofNat (q_ot x 0)))) (Int32.ofNat (q_cnt (q_P D) (Int32.ofNat (q_ot x 1)))) (Int32.ofNat (q_cnt (q_P D) (Int32.ofNat (q_ot x 2)))) N E2 0 0 = some E3 := d1
  have hlen : (q_ls (q_P D) x 28).length = q_cnt (q_P D) (Int32.ofNat (q_ot x 0)) + q_cnt (q_P D) (Int32.ofNat (q_ot x 1)) + q_cnt (q_P D) (Int32.ofNat (q_ot x 2)) := by
    rw [q_ls_28 hx (k_pw hK)]
    obtain rfl | rfl | rfl | rfl : x = 0 ∨ x = 1 ∨ x = 2 ∨ x = 3 := by omega
    · rfl
    · show q_cnt (q_P D) (Int32.ofNat 2) + q_cnt (q_P D) (Int32.ofNat 3) + q_cnt (q_P D) (Int32.ofNat 0) = q_cnt (q_P D) (Int32.ofNat 0) + q_cnt (q_P D) (Int32.ofNat 2) + q_cnt (q_P D) (Int32.ofNat 3)
      omega
    · show q_cnt (q_P D) (Int32.ofNat 3) + q_cnt (q_P D) (Int32.ofNat 0) + q_cnt (q_P D) (Int32.ofNat 1) = q_cnt (q_P D) (Int32.ofNat 0) + q_cnt (q_P D) (Int32.ofNat 1) + q_cnt (q_P D) (Int32.ofNat 3)
      omega
    · rfl
  refine ⟨E3, ?_, d2, d3⟩
  have e8 : (8 : Int32) * Int32.ofNat (q_cnt (q_P D) (Int32.ofNat (q_ot x 0))) + Int32.ofNat (q_cnt (q_P D) (Int32.ofNat (q_ot x 1))) = Int32.ofNat (8 * q_cnt (q_P D) (Int32.ofNat (q_ot x 0)) + q_cnt (q_P D) (Int32.ofNat (q_ot x 1))) := by
    rw [show (8 : Int32) = Int32.ofNat 8 from rfl, q_mul, q_add]
  unfold m121
  rw [a1', Option.bind_some, a2 0 (by omega), a2 1 (by omega), a2 2 (by omega), q57 hN, Option.bind_some, q57 hN, Option.bind_some, q57 hN, Option.bind_some, eP, c1', Option.bind_some, d1', Option.bind_some, e8, if_pos (show 0 ≤ Int32.ofNat (8 * q_cnt (q_P D) (Int32.ofNat (q_ot x 0)) + q_cnt (q_P D) (Int32.ofNat (q_ot x 1))) ∧ Int32.ofNat (8 * q_cnt (q_P D) (Int32.ofNat (q_ot x 0)) + q_cnt (q_P D) (Int32.ofNat (q_ot x 1))) < 64 from q_in (n := 64) (by omega) (by omega)), q_tn (by omega), d4 _ (by omega)]
  unfold q_dn
  rw [show (8 * q_cnt (q_P D) (Int32.ofNat (q_ot x 0)) + q_cnt (q_P D) (Int32.ofNat (q_ot x 1))) / 8 = q_cnt (q_P D) (Int32.ofNat (q_ot x 0)) by omega, show (8 * q_cnt (q_P D) (Int32.ofNat (q_ot x 0)) + q_cnt (q_P D) (Int32.ofNat (q_ot x 1))) % 8 = q_cnt (q_P D) (Int32.ofNat (q_ot x 1)) by omega, if_pos (by omega), show (q_ls (q_P D) x 28).length - (q_cnt (q_P D) (Int32.ofNat (q_ot x 0)) + q_cnt (q_P D) (Int32.ofNat (q_ot x 1))) = q_cnt (q_P D) (Int32.ofNat (q_ot x 2)) by omega]
end OL
