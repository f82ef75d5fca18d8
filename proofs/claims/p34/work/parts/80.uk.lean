/-! holds: the tiles -/
section UK
variable {D E F M G : am_D} {N : Nat} {n p : Nat} {T V : Nat → Nat}
theorem w_lt {α β : Type} (e : α) (f : α → β) : am_lt e f = f e := rfl
theorem u_kr_self (D : am_D) : u_kr D D = D := by
  refine Prod.ext (funext fun a => ?_) rfl
  show (if a = 200 then D.1 200 else if a = 201 then D.1 201 else D.1 a) = D.1 a
  by_cases c : a = 200
  · rw [if_pos c, c]
  · rw [if_neg c]
    by_cases d : a = 201
    · rw [if_pos d, d]
    · rw [if_neg d]
theorem u_kr_E (h : q_E D E) : q_E D (u_kr E D) := by
  have e : ∀ a, a ≠ 200 → a ≠ 201 → (u_kr E D).1 a = E.1 a := fun a h1 h2 => by
    show (if a = 200 then D.1 200 else if a = 201 then D.1 201 else E.1 a) = E.1 a
    rw [if_neg h1, if_neg h2]
  exact ⟨fun a ha => by rw [e a (by omega) (by omega)]; exact h.1 a ha, by rw [e 106 (by omega) (by omega)]; exact h.2.1, h.2.2⟩
theorem u_kr_r (E D : am_D) : (u_kr E D).1 200 = D.1 200 ∧ (u_kr E D).1 201 = D.1 201 := ⟨rfl, rfl⟩
theorem u_19 : ∀ t, t < 28 → m19 (Int32.ofNat (q_lo t)) (Int32.ofNat (q_hi t)) = Sum.inl (Int32.ofNat t) ∧ m19 (Int32.ofNat (q_hi t)) (Int32.ofNat (q_lo t)) = Sum.inl (Int32.ofNat t) := by decide +kernel
noncomputable def q_hp (f : Nat → Int32) (t : Nat) : Nat := if (f t).toNatClampNeg < 4 then q_pip t else 0
/-- what the two rows hold -/
def u_rw (f : Nat → Int32) (i : Nat) (G : am_D) : Prop := ∀ w, w < 6 → G.1 201 w = Int32.ofNat (q_S (fun t => if f t = Int32.ofNat w then 1 else 0) 0 i) ∧ G.1 200 w = Int32.ofNat (q_S (fun t => if f t = Int32.ofNat w then q_pip t else 0) 0 i)
theorem u_rw_s {f : Nat → Int32} {i w : Nat} (hw : w < 6) (hf : f i = Int32.ofNat w) (h : u_rw f i G) {H : am_D} (hH : H = am_uI (am_uI G 201 w (G.1 201 w + 1)) 200 w ((am_uI G 201 w (G.1 201 w + 1)).1 200 w + Int32.ofNat (q_pip i))) : u_rw f (i + 1) H := by
  intro v hv
  obtain ⟨h1, h2⟩ := h v hv
  subst hH
  have e : (f i = Int32.ofNat v) ↔ v = w := by
    rw [hf]
    exact ⟨fun q => (q_ofN (by omega) (by omega) q).symm, fun q => by rw [q]⟩
  constructor
  · rw [q_uI_ne _ (show (201 : Nat) ≠ 200 by omega), q_uI_at, q_S_last, Nat.zero_add]
    by_cases c : v = w
    · subst c
      rw [if_pos (show (201 : Nat) = 201 ∧ v = v from ⟨rfl, rfl⟩), if_pos hf, h1]
      exact q_add _ 1
    · rw [if_neg (show ¬ ((201 : Nat) = 201 ∧ v = w) from fun q => c q.2), if_neg (show ¬ f i = Int32.ofNat v from fun q => c (e.mp q)), h1]
      rfl
  · rw [q_uI_at, q_uI_ne _ (show (200 : Nat) ≠ 201 by omega), q_S_last, Nat.zero_add]
    by_cases c : v = w
    · subst c
      rw [if_pos (show (200 : Nat) = 200 ∧ v = v from ⟨rfl, rfl⟩), if_pos hf, h2]
      exact q_add _ _
    · rw [if_neg (show ¬ ((200 : Nat) = 200 ∧ v = w) from fun q => c q.2), if_neg (show ¬ f i = Int32.ofNat v from fun q => c (e.mp q)), h2]
      rfl
theorem u293_24 (hN : 2000 ≤ N) (hI : u_I D) (hK : q_K D n p T V) (hX : u_X (q_c D 1) n p T V) : ∀ (k i m : Nat) (G : am_D), i + k = 28 → k < m → q_E D G → u_rw (q_P D) i G → ∃ G', m293_L24 N 0 m G (Int32.ofNat (q_S (q_hp (q_P D)) 0 i)) (Int32.ofNat (q_S (q_ih (q_P D)) 0 i)) 1 (Int32.ofNat i) = some (Int32.ofNat (q_S (q_hp (q_P D)) 0 28), Int32.ofNat (q_S (q_ih (q_P D)) 0 28), 1, G') ∧ q_E D G' ∧ u_rw (q_P D) 28 G'
  | 0, i, m + 1, G, hi, hm, hE, hr => by
    obtain rfl : i = 28 := by omega
    rw [m293_L24, if_pos (by decide)]
    exact ⟨G, rfl, hE, hr⟩
  | k + 1, i, m + 1, G, hi, hm, hE, hr => by
    have hi28 : i < 28 := by omega
    obtain ⟨w, hw, hw'⟩ := k_pw hK i hi28
    have rd : ∀ F : am_D, q_E D F → ∀ v, v ≤ 6 → m18 N F (Int32.ofNat i) (Int32.ofNat v) = some (Sum.inl (q_tl D n T i v)) := fun F hF v hv => by
      rw [q18 hN (q_E_K hF hK) hi28 hv, q_E_tl hF]
    have i6 : (0 : Int32) ≤ Int32.ofNat w ∧ Int32.ofNat w < 6 := q_in (n := 6) (by omega) hw
    have a3 : m18 N G (Int32.ofNat i) 3 = some (Sum.inl (Int32.ofNat w)) := (rd G hE 3 (by omega)).trans (congrArg (fun x => some (Sum.inl x)) hw')
    have a4 : m18 N G (Int32.ofNat i) 4 = some (Sum.inl (q_at T i 0 n)) := rd G hE 4 (by omega)
    rw [m293_L24, if_neg (show ¬ (28 : Int32) ≤ Int32.ofNat i from q_nle (b := 28) (by omega) hi28), a3, Option.bind_some, w_inl, Option.bind_some, a4, Option.bind_some, w_inl, Option.bind_some, if_pos i6, if_pos i6, w_lt, if_pos i6, q_tn (show w < 2147483648 by omega)]
    have hE1 : q_E D (am_uI G 201 w (G.1 201 w + 1)) := hE.tr (q_E_uI (by omega))
    have b2 : m18 N (am_uI G 201 w (G.1 201 w + 1)) (Int32.ofNat i) 2 = some (Sum.inl (Int32.ofNat (q_pip i))) := rd _ hE1 2 (by omega)
    rw [b2, Option.bind_some, w_inl, Option.bind_some, if_pos i6, w_lt]
    obtain ⟨H, hH⟩ : ∃ H, H = am_uI (am_uI G 201 w (G.1 201 w + 1)) 200 w ((am_uI G 201 w (G.1 201 w + 1)).1 200 w + Int32.ofNat (q_pip i)) := ⟨_, rfl⟩
    have hEH : q_E D H := by rw [hH]; exact hE1.tr (q_E_uI (by omega))
    have hrH := u_rw_s hw hw' hr hH
    rw [← hH]
    clear hH
    have c2 : m18 N H (Int32.ofNat i) 2 = some (Sum.inl (Int32.ofNat (q_pip i))) := rd H hEH 2 (by omega)
    have c0 : m18 N H (Int32.ofNat i) 0 = some (Sum.inl (Int32.ofNat (q_lo i))) := rd H hEH 0 (by omega)
    have c1 : m18 N H (Int32.ofNat i) 1 = some (Sum.inl (Int32.ofNat (q_hi i))) := rd H hEH 1 (by omega)
    have c5 : m18 N H (Int32.ofNat i) 5 = some (Sum.inl (if q_P D i = Int32.ofNat 4 then D.1 107 (53 + i) else q_nn)) := rd H hEH 5 (by omega)
    have le4 : (4 : Int32) ≤ Int32.ofNat w ↔ 4 ≤ w := by
      show Int32.ofNat 4 ≤ Int32.ofNat w ↔ _
      rw [q_le (by omega) (by omega)]
    -- how many are held, their pips
    have s1 : (if (4 : Int32) ≤ Int32.ofNat w then (0 : Int32) else (1 : Int32)) = Int32.ofNat (q_ih (q_P D) i) := by
      unfold q_ih
      rw [hw', q_tn (by omega)]
      by_cases c : 4 ≤ w
      · rw [if_pos (le4.mpr c), if_neg (by omega)]; rfl
      · rw [if_neg (fun q => c (le4.mp q)), if_pos (by omega)]; rfl
    have s2 : (if (4 : Int32) ≤ Int32.ofNat w then (some (0 : Int32)) else ((m18 N H (Int32.ofNat i) (2 : Int32)).bind fun q32 => ((am_inl q32).bind fun x34 => (some x34)))) = some (Int32.ofNat (q_hp (q_P D) i)) := by
      unfold q_hp
      rw [hw', q_tn (by omega), c2, Option.bind_some, w_inl, Option.bind_some]
      by_cases c : 4 ≤ w
      · rw [if_pos (le4.mpr c), if_neg (by omega)]; rfl
      · rw [if_neg (fun q => c (le4.mp q)), if_pos (by omega)]
    rw [w_lt, s1, w_lt, q_add, s2, Option.bind_some, w_lt, q_add]
    -- the tile's own numbers
    have s3 : (if (1 : Int32) = 0 then (some (0 : Int32)) else (if Int32.ofNat w < 0 then (some (0 : Int32)) else (if (5 : Int32) < Int32.ofNat w then (some (0 : Int32)) else ((m18 N H (Int32.ofNat i) (0 : Int32)).bind fun q44 => ((am_inl q44).bind fun x46 => ((m18 N H (Int32.ofNat i) (1 : Int32)).bind fun q48 => ((am_inl q48).bind fun x50 => (am_lt (m19 x46 x50) fun q52 => ((am_inl q52).bind fun x54 => (if x54 = Int32.ofNat i then ((m18 N H (Int32.ofNat i) (1 : Int32)).bind fun q57 => ((am_inl q57).bind fun x59 => ((m18 N H (Int32.ofNat i) (0 : Int32)).bind fun q61 => ((am_inl q61).bind fun x63 => (am_lt (m19 x59 x63) fun q65 => ((am_inl q65).bind fun x67 => (if x67 = Int32.ofNat i then ((m18 N H (Int32.ofNat i) (2 : Int32)).bind fun q70 => ((am_inl q70).bind fun x72 => ((m18 N H (Int32.ofNat i) (0 : Int32)).bind fun q74 => ((am_inl q74).bind fun x76 => ((m18 N H (Int32.ofNat i) (1 : Int32)).bind fun q78 => ((am_inl q78).bind fun x80 => (if x72 = (x76 + x80) then (some (1 : Int32)) else (some (0 : Int32))))))))) else (some (0 : Int32))))))))) else (some (0 : Int32)))))))))))) = some (1 : Int32) := by
      obtain ⟨t1, t2⟩ := u_19 i hi28
      rw [if_neg (show ¬ (1 : Int32) = 0 by decide), if_neg (Int32.not_lt.mpr i6.1), if_neg (show ¬ (5 : Int32) < Int32.ofNat w from q_nlt (a := w) (b := 5) (by omega) (by omega)), c0, Option.bind_some, w_inl, Option.bind_some, c1, Option.bind_some, w_inl, Option.bind_some, w_lt, t1, w_inl, Option.bind_some, if_pos rfl, Option.bind_some, w_inl, Option.bind_some, Option.bind_some, w_inl, Option.bind_some, w_lt, t2, w_inl, Option.bind_some, if_pos rfl, c2, Option.bind_some, w_inl, Option.bind_some, Option.bind_some, w_inl, Option.bind_some, Option.bind_some, w_inl, Option.bind_some, q_add, if_pos (show Int32.ofNat (q_pip i) = Int32.ofNat (q_lo i + q_hi i) from rfl)]
    rw [s3, Option.bind_some]
    -- its place in the chain
    have s4 : (if (1 : Int32) = 0 then (some (0 : Int32)) else (am_lt (if Int32.ofNat w = (4 : Int32) then (1 : Int32) else (0 : Int32)) fun q87 => (am_lt (if q_at T i 0 n = (-1 : Int32) then (0 : Int32) else (1 : Int32)) fun q91 => (if q87 = q91 then (if q_at T i 0 n < 0 then (am_lt (if Int32.ofNat w = (4 : Int32) then (1 : Int32) else (0 : Int32)) fun q97 => ((m18 N H (Int32.ofNat i) (5 : Int32)).bind fun q101 => ((am_inl q101).bind fun x103 => (am_lt (if x103 < 0 then (0 : Int32) else (1 : Int32)) fun q105 => (if q97 = q105 then (some (1 : Int32)) else (some (0 : Int32))))))) else (am_lt (m20 H (q_at T i 0 n) (0 : Int32)) fun q110 => ((am_inl q110).bind fun x112 => (if x112 = Int32.ofNat i then (am_lt (if Int32.ofNat w = (4 : Int32) then (1 : Int32) else (0 : Int32)) fun q115 => ((m18 N H (Int32.ofNat i) (5 : Int32)).bind fun q119 => ((am_inl q119).bind fun x121 => (am_lt (if x121 < 0 then (0 : Int32) else (1 : Int32)) fun q123 => (if q115 = q123 then (some (1 : Int32)) else (some (0 : Int32))))))) else (some (0 : Int32)))))) else (some (0 : Int32)))))) = some (1 : Int32) := by
      rw [if_neg (show ¬ (1 : Int32) = 0 by decide), w_lt, w_lt, c5, hw']
      by_cases c : w = 4
      · subst c
        have h28 := k_n28 hK
        obtain ⟨j, j1, j2⟩ := (k_in hK i hi28).mp hw'
        obtain ⟨j', g1, g2, g3, g4⟩ := q_at_some (T := T) (t := i) n 0 ⟨j, by omega, by omega, j2⟩
        have e20 : m20 H (Int32.ofNat j') 0 = Sum.inl (Int32.ofNat i) := by
          have := q20 (q_E_K hEH hK) (k := j') (w := 0) (by omega) (by omega)
          rw [show q_pc H T V j' 0 = Int32.ofNat i by show Int32.ofNat (T j') = _; rw [g3]] at this
          exact this
        obtain ⟨u, hu, hu'⟩ := hX.2.2.1 j' (by omega)
        have e53 : D.1 107 (53 + i) = Int32.ofNat u := by
          have := (k_k hK j' (by omega)).2.2.2.2.2.2.1
          rw [g3] at this
          rw [← this]; exact hu'
        rw [g4, if_pos (show Int32.ofNat 4 = (4 : Int32) from rfl), if_neg (q_nm (by omega)), if_pos (show (1 : Int32) = 1 from rfl), if_neg (show ¬ Int32.ofNat j' < 0 from q_nlt (a := 0) (by omega) (by omega)), w_lt, e20, w_inl, Option.bind_some, if_pos rfl, w_lt, Option.bind_some, w_inl, Option.bind_some, w_lt, if_pos rfl, e53, if_neg (show ¬ Int32.ofNat u < 0 from q_nlt (a := 0) (by omega) (by omega)), if_pos rfl]
      · have n4 : ¬ Int32.ofNat w = Int32.ofNat 4 := fun q => c (q_ofN (by omega) (by omega) q)
        have hno : q_at T i 0 n = -1 := q_at_none n 0 (fun j _ j2 e => n4 (by rw [← hw']; exact (k_in hK i hi28).mpr ⟨j, by omega, e⟩))
        rw [hno, if_neg (show ¬ Int32.ofNat w = (4 : Int32) from n4), if_pos (show (-1 : Int32) = -1 from rfl), if_pos (show (0 : Int32) = 0 from rfl), if_pos (show (-1 : Int32) < 0 by decide), w_lt, Option.bind_some, w_inl, Option.bind_some, w_lt, if_neg n4, if_pos (show q_nn < 0 by decide), if_pos rfl]
    rw [s4, Option.bind_some]
    -- what is known to lack
    have s5 : (if (4 : Int32) ≤ Int32.ofNat w then (some ((0 : Int32), H)) else ((m22 N H (0 : Int32)).bind fun q132 => ((am_inl q132).bind fun x134 => (if x134 ≤ 0 then (some ((0 : Int32), H)) else ((m21 N H (Int32.ofNat w) (3 : Int32)).bind fun q137 => ((am_inl q137.1).bind fun x139 => ((m18 N (u_kr q137.2 H) (Int32.ofNat i) (0 : Int32)).bind fun q141 => ((am_inl q141).bind fun x143 => ((m21 N (u_kr q137.2 H) (Int32.ofNat w) (3 : Int32)).bind fun q145 => ((am_inl q145.1).bind fun x147 => ((m18 N (u_kr q145.2 (u_kr q137.2 H)) (Int32.ofNat i) (1 : Int32)).bind fun q149 => ((am_inl q149).bind fun x151 => (if (((x139 >>> (x143 &&& 31)) ||| (x147 >>> (x151 &&& 31))) &&& (1 : Int32)) = (1 : Int32) then (some ((1 : Int32), (u_kr q145.2 (u_kr q137.2 H)))) else (some ((0 : Int32), (u_kr q145.2 (u_kr q137.2 H))))))))))))))))) = some ((0 : Int32), H) := by
      by_cases c : 4 ≤ w
      · rw [if_pos (le4.mpr c)]
      · rw [if_neg (fun q => c (le4.mp q)), w22_0, Option.bind_some, w_inl, Option.bind_some]
        by_cases c0' : H.1 1 6 ≤ 0
        · rw [if_pos c0']
        · have h21 : m21 N H (Int32.ofNat w) 3 = some (Sum.inl (D.1 9 w), H) := by
            have := w21_3 (N := N) H (Int32.ofNat w)
            rw [if_neg (q_m40 (by omega)), q_rt4 _ (by omega), hEH.1 9 (by omega)] at this
            exact this
          obtain ⟨z, hz, hz'⟩ := k_lw hK w (by omega)
          have h9 : D.1 9 w = Int32.ofNat z := (k_la hK w (by omega)).trans hz'
          have hcan := hX.2.2.2.1 w i (by omega) hi28 (show D.1 7 i = _ by rw [k_pl hK i hi28]; exact hw')
          have hcan' : q_can z i = 1 := by
            have e : q_c D 1 8 w = Int32.ofNat z := h9
            rw [e, q_tn (by omega)] at hcan
            exact hcan
          have hb := (q_can_m z hz i hi28).mpr hcan'
          rw [if_neg c0', h21, Option.bind_some, w_inl, Option.bind_some]
          dsimp only
          rw [u_kr_self, c0, Option.bind_some, w_inl, Option.bind_some, h21, Option.bind_some, w_inl, Option.bind_some]
          dsimp only
          rw [u_kr_self, c1, Option.bind_some, w_inl, Option.bind_some, h9, hb, if_neg (show ¬ (0 : Int32) = 1 by decide)]
    rw [s5, Option.bind_some, w_lt, if_neg (show ¬ (1 : Int32) = 0 by decide), if_pos (show (0 : Int32) = 0 from rfl), w_lt, show Int32.ofNat i + 1 = Int32.ofNat (i + 1) from q_add i 1]
    have q1 : q_S (q_hp (q_P D)) 0 i + q_hp (q_P D) i = q_S (q_hp (q_P D)) 0 (i + 1) := by rw [q_S_last, Nat.zero_add]
    have q2 : q_S (q_ih (q_P D)) 0 i + q_ih (q_P D) i = q_S (q_ih (q_P D)) 0 (i + 1) := by rw [q_S_last, Nat.zero_add]
    rw [q1, q2]
    exact u293_24 hN hI hK hX k (i + 1) m H (by omega) (by omega) hEH hrH
  | _, _, 0, _, _, hm, _, _ => by omega
end UK
