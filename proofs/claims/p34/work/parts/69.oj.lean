/-! deals: the class counts all tiles, tile by tile -/
section OJ
variable {D : am_D} {N n p : Nat} {T V : Nat → Nat}
theorem q192_2 : ∀ (k i m : Nat) (E : am_D), i + k = 64 → k < m → ∃ E', m192_L2 N m E (Int32.ofNat i) = some E' ∧ E'.1 = E.1 ∧ E'.2.2 = E.2.2 ∧ (∀ r, r ≠ 97 → E'.2.1 r = E.2.1 r) ∧ ∀ j, E'.2.1 97 j = if i ≤ j ∧ j < 64 then Int64.ofNat 0 else E.2.1 97 j
  | 0, i, m + 1, E, hi, hm => by
    obtain rfl : i = 64 := by omega
    rw [m192_L2, if_pos (show (64 : Int32) ≤ Int32.ofNat 64 by decide)]
    exact ⟨E, rfl, rfl, rfl, fun _ _ => rfl, fun j => by rw [if_neg (by omega)]⟩
  | k + 1, i, m + 1, E, hi, hm => by
    have h64 : i < 64 := by omega
    rw [m192_L2, if_neg (show ¬ (64 : Int32) ≤ Int32.ofNat i from q_nle (a := i) (b := 64) (by omega) h64), if_pos (show 0 ≤ Int32.ofNat i ∧ Int32.ofNat i < 64 from q_in (n := 64) (by omega) h64)]
    simp only [am_lt]
    rw [q_tn (by omega), show Int32.ofNat i + 1 = Int32.ofNat (i + 1) from q_add i 1]
    obtain ⟨E', e1, e2, e3, e4, e5⟩ := q192_2 k (i + 1) m (am_uJ E 97 i (Int64.ofNat 0)) (by omega) (by omega)
    refine ⟨E', e1, e2, e3, fun r hr => ?_, fun j => ?_⟩
    · rw [e4 r hr]
      funext j
      rw [q_uJ_at, if_neg (fun q => hr q.1)]
    · rw [e5, q_uJ_at]
      by_cases c : j = i
      · subst c
        rw [if_neg (by omega), if_pos ⟨rfl, rfl⟩, if_pos (by omega)]
      · rw [if_neg (show ¬ (97 = 97 ∧ j = i) from fun q => c q.2)]
        by_cases d : i + 1 ≤ j ∧ j < 64
        · rw [if_pos d, if_pos (by omega)]
        · rw [if_neg d, if_neg (by omega)]
  | _, _, 0, _, _, hm => by omega
/-- how many tiles the others have, in the class's order -/
noncomputable def q_nd (D : am_D) (x j : Nat) : Nat := q_cnt (D.1 7) (Int32.ofNat ((x + 1 + j) % 4))
theorem q_nd_le (hK : q_K D n p T V) (x j : Nat) : q_nd D x j ≤ 7 := by
  have h := k_h7 hK ((x + 1 + j) % 4) (by omega)
  unfold q_nd
  rw [q_cnt_congr (k_pl hK)]
  exact h
theorem q_nd_s (hK : q_K D n p T V) {x : Nat} (hx : x < 4) : (q_ls (D.1 7) x 28).length = q_nd D x 0 + q_nd D x 1 + q_nd D x 2 := by
  rw [q_ls_28 hx (fun t ht => by rw [k_pl hK t ht]; exact k_pw hK t ht)]
  rfl
theorem q_sub_len (f : Nat → Int32) (x : Nat) : ∀ t, t ≤ 28 → (q_ls f x t).length ≤ (q_ls f x 28).length := fun t ht => by
  rw [q_ls_len, q_ls_len]
  have := q_S_split (fun s => q_sc f x s) t (28 - t) 0
  rw [show t + (28 - t) = 28 by omega] at this
  omega
theorem q192_L (hN : 2000 ≤ N) (hK : q_K D n p T V) {x : Nat} (hx : x < 4) {E0 : am_D} (hL : q_lk1 D E0 x 28) : ∀ (k t m : Nat) (E : am_D), t + k = 28 → k < m → (E.1 = E0.1 ∧ E.2.2 = E0.2.2 ∧ ∀ r, r ≠ 97 → E.2.1 r = E0.2.1 r) → (∀ a b, a ≤ q_nd D x 0 → b ≤ q_nd D x 1 → q_cl (q_V (q_ka D x) (q_ls (D.1 7) x t)) (E.2.1 97) (q_nd D x 2) (q_ls (D.1 7) x t).length a b) → ∃ E', m192_L35 N m E (Int32.ofNat (q_ls (D.1 7) x t).length) (Int32.ofNat t) = some E' ∧ (E'.1 = E0.1 ∧ E'.2.2 = E0.2.2 ∧ ∀ r, r ≠ 97 → E'.2.1 r = E0.2.1 r) ∧ (∀ a b, a ≤ q_nd D x 0 → b ≤ q_nd D x 1 → q_cl (q_V (q_ka D x) (q_ls (D.1 7) x 28)) (E'.2.1 97) (q_nd D x 2) (q_ls (D.1 7) x 28).length a b)
  | 0, t, m + 1, E, ht, hm, hE, h => by
    obtain rfl : t = 28 := by omega
    rw [m192_L35, if_pos (show (28 : Int32) ≤ Int32.ofNat 28 by decide)]
    exact ⟨E, rfl, hE, h⟩
  | k + 1, t, m + 1, E, ht, hm, hE, h => by
    have ht28 : t < 28 := by omega
    have i28 : 0 ≤ Int32.ofNat t ∧ Int32.ofNat t < 28 := q_in (n := 28) (by omega) ht28
    have hlen := q_sub_len (D.1 7) x (t + 1) (by omega)
    have hs := q_nd_s hK hx
    have n0 := q_nd_le hK x 0
    have n1 := q_nd_le hK x 1
    have n2 := q_nd_le hK x 2
    have e95 : E.1 95 t = if q_sc (D.1 7) x t = 1 then Int32.ofNat (q_ka D x t) else -1 := by rw [hE.1]; exact hL.2.2.1 t ht28
    have hka := q_ka_lt D x t
    rw [m192_L35, if_neg (show ¬ (28 : Int32) ≤ Int32.ofNat t from q_nle (a := t) (b := 28) (by omega) ht28), if_pos i28, q_tn (by omega), e95]
    simp only [am_lt]
    rw [show Int32.ofNat t + 1 = Int32.ofNat (t + 1) from q_add t 1]
    have hls : q_ls (D.1 7) x (t + 1) = if q_sc (D.1 7) x t = 1 then t :: q_ls (D.1 7) x t else q_ls (D.1 7) x t := rfl
    by_cases c : q_sc (D.1 7) x t = 1
    · rw [if_pos c] at hls
      rw [if_pos c, if_neg (q_nm (by omega)), if_pos i28]
      have hl1 : (q_ls (D.1 7) x (t + 1)).length = (q_ls (D.1 7) x t).length + 1 := by rw [hls, List.length_cons]
      have g94 : ∀ j, j < 3 → E.1 94 j = Int32.ofNat (q_nd D x j) := fun j hj => by rw [hE.1]; exact hL.2.1 j hj
      obtain ⟨E1, f1, f2, f3⟩ := q193 (D := E) hN (F := q_V (q_ka D x) (q_ls (D.1 7) x t)) (g := (q_ls (D.1 7) x t).length) (k := q_ka D x t) (fun a b hab => q_V_0 _ _ a b hab) hka (by omega) (by omega) (by omega) (by omega) (g94 0 (by omega)) (g94 1 (by omega)) (g94 2 (by omega)) h
      rw [show Int32.ofNat (q_ls (D.1 7) x t).length + 1 = Int32.ofNat ((q_ls (D.1 7) x t).length + 1) from q_add _ 1, f1, Option.bind_some, Option.bind_some, ← hl1]
      refine q192_L hN hK hx hL k (t + 1) m E1 (by omega) (by omega) ⟨f2.1.trans hE.1, f2.2.1.trans hE.2.1, fun r hr => (f2.2.2 r hr).trans (hE.2.2 r hr)⟩ (fun a b ha hb => ?_)
      rw [hls]
      exact f3 a b ha hb
    · rw [if_neg c] at hls
      rw [if_neg c, if_pos rfl, Option.bind_some]
      dsimp only
      rw [← hls]
      refine q192_L hN hK hx hL k (t + 1) m E (by omega) (by omega) hE (fun a b ha hb => ?_)
      rw [hls]
      exact h a b ha hb
  | _, _, 0, _, _, hm, _, _ => by omega
/-- told tile by tile -/
theorem q192 (hN : 2000 ≤ N) (hK : q_K D n p T V) {x : Nat} (hx : x < 4) {E : am_D} (hL : q_lk1 D E x 28) : ∃ E', m192 N E = some (Int64.ofNat (q_V (q_ka D x) (q_ls (D.1 7) x 28) (q_nd D x 0) (q_nd D x 1)), E') ∧ E'.1 = E.1 ∧ E'.2.2 = E.2.2 ∧ ∀ r, r ≠ 97 → E'.2.1 r = E.2.1 r := by
  have n0 := q_nd_le hK x 0
  have n1 := q_nd_le hK x 1
  have n2 := q_nd_le hK x 2
  have hs := q_nd_s hK hx
  obtain ⟨E1, a1, a2, a3, a4, a5⟩ := q192_2 (N := N) 64 0 N E (by omega) (by omega)
  have a1' : m192_L2 N N E 0 = some E1 := a1
  have e195 : m195 E1 0 0 (Int64.ofNat 1) = am_uJ E1 97 0 (Int64.ofNat 1) := q195 (a := 0) (b := 0) (by omega) (by omega) _
  obtain ⟨E2, b1, b2, b3⟩ := q192_L (N := N) hN hK hx hL 28 0 N (am_uJ E1 97 0 (Int64.ofNat 1)) (by omega) (by omega) ⟨a2, a3, fun r hr => by
    rw [← a4 r hr]
    funext j
    rw [q_uJ_at, if_neg (fun q => hr q.1)]⟩ (fun a b ha hb => by
    show q_cl q_dl _ _ 0 a b
    refine ⟨fun h1 _ => ?_, fun h1 => ?_⟩
    · obtain rfl : a = 0 := by omega
      obtain rfl : b = 0 := by omega
      rw [q_uJ_at, if_pos ⟨rfl, rfl⟩]; rfl
    · rw [q_uJ_at, if_neg (by omega), a5, if_pos (by omega)])
  have b1' : m192_L35 N N (am_uJ E1 97 0 (Int64.ofNat 1)) 0 0 = some E2 := b1
  have g94 : ∀ j, j < 3 → E2.1 94 j = Int32.ofNat (q_nd D x j) := fun j hj => by rw [b2.1]; exact hL.2.1 j hj
  have r0 : am_rat (E2.1 94) 3 (0 : Int32) = Int32.ofNat (q_nd D x 0) := (q_rt (E2.1 94) (m := 3) (by omega) (x := 0) (by omega)).trans (g94 0 (by omega))
  have r1 : am_rat (E2.1 94) 3 (1 : Int32) = Int32.ofNat (q_nd D x 1) := (q_rt (E2.1 94) (m := 3) (by omega) (x := 1) (by omega)).trans (g94 1 (by omega))
  refine ⟨E2, ?_, b2.1, b2.2.1, b2.2.2⟩
  unfold m192
  rw [a1', Option.bind_some, e195]
  simp only [am_lt]
  rw [b1', Option.bind_some, r0, r1, q194 (by omega) (by omega), Option.bind_some, (b3 _ _ (Nat.le_refl _) (Nat.le_refl _)).1 (by omega) (by omega)]
end OJ
