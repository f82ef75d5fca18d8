/-! if laid: the call -/
section MR
variable {D : am_D} {n p : Nat} {T V : Nat → Nat}
theorem q44 (v : Int32) : (∃ i, i < 3 ∧ v = Int32.ofNat i ∧ m46 v 0 2 = 1 ∧ ¬ v < 0 ∧ v ≤ 2) ∨ (m46 v 0 2 = 0 ∧ (v < 0 ∨ (¬ v < 0 ∧ ¬ v ≤ 2))) := by
  rcases q46 (v := v) (a := 0) (b := 2) (by omega) (by omega) with ⟨i, h1, h2, h3, h4⟩ | ⟨h1, h2⟩
  · left
    refine ⟨i, by omega, h3, h4, ?_, ?_⟩
    · rw [h3]; exact q_nlt (b := i) (a := 0) (by omega) (by omega)
    · rw [h3]; exact q_yle (b := 2) (by omega) h2
  · right
    refine ⟨h1, ?_⟩
    by_cases c : v < 0
    · exact Or.inl c
    · exact Or.inr ⟨c, fun q => by
        rcases h2 with h2 | h2
        · exact c h2
        · exact absurd q (Int32.not_le.mpr h2)⟩
theorem q_E_162 {D D' : am_D} (h : q_E D D') (a b : Int32) : m162 D' a b = m162 D a b ∧ m163 D' a b = m163 D a b ∧ m161 D' a b = m161 D a b ∧ m158 D' a b = m158 D a b := by
  unfold m163 m161 m158 m157 m162 m156
  rw [h.1 2 (by omega), h.1 3 (by omega)]
  exact ⟨rfl, rfl, rfl, rfl⟩
theorem q_E_nf {D D' : am_D} (h : q_E D D') (t e v : Int32) : q_nf D' t e v = q_nf D t e v := by
  rw [q_nf_def, q_nf_def, q_E_P h, (q_E_162 h t e).1, (q_E_162 h t e).2.1]
theorem q_E_gain {D D' : am_D} (h : q_E D D') (x w : Nat) : q_gain D' x w = q_gain D x w := by
  unfold q_gain
  rw [q_E_P h]
theorem g_ifLaid {N : Nat} (hN : 2000 ≤ N) (hI : q_I D) (v1 v2 v3 v4 : Int32) : q_G (fun D => m285 N D v1 v2 v3 v4) (fun D => m134 N D v1 v2 v3 v4) D := by
  obtain ⟨n, p, T, V, hK⟩ := q_I_K hI
  have hB := hI.1
  rcases q40 v1 with ⟨x, hx, rfl, e1, e2⟩ | ⟨e1, e2⟩
  · rcases q41 v2 with ⟨t, ht, rfl, e3, e4⟩ | ⟨e3, e4⟩
    · rcases q43 v3 with ⟨e, he, rfl, e5, e6, -⟩ | ⟨e5, e6, -⟩
      · rcases q44 v4 with ⟨k, hk, hv4, e7, e8, e9⟩ | ⟨e7, e8⟩
        · have hp3 := k_p3 hK
          -- the class's beginning
          have ca : ∀ X : Option (Int32 ⊕ Nat), (if (D.1 1 6) = (1 : Int32) then (if (m203 D (Int32.ofNat t)) = Int32.ofNat x then (if (m158 D (Int32.ofNat t) (Int32.ofNat e)) = 0 then (some (Sum.inl (-1 : Int32))) else (if v4 = Int32.ofNat 0 then ((m222 N D (Int32.ofNat x) (Int32.ofNat t) (Int32.ofNat e)).bind fun q10 => (some (Sum.inl q10))) else (if v4 = Int32.ofNat 1 then (some (Sum.inl (m161 D (Int32.ofNat t) (Int32.ofNat e)))) else ((m209 N D (m185 (Int32.ofNat x)) (Int32.ofNat t) (Int32.ofNat e)).bind fun q13 => (some (Sum.inl q13)))))) else (some (Sum.inl (-1 : Int32)))) else (some (Sum.inl (-1 : Int32)))) = X → m28 N D (Int32.ofNat x) (Int32.ofNat t) (Int32.ofNat e) v4 = X := fun X hX => by
            unfold m28
            rw [if_neg (by rw [e1]; decide), if_neg (by rw [e3]; decide), if_neg (by rw [e5]; decide), if_neg e8, if_pos e9]
            exact hX
          -- the model's beginning
          have ma : ∀ (y z : Int32), (if (am_uI (am_uJ D 124 0 y.toInt64) 106 0 0).1 107 0 = (1 : Int32) then ((m56 (am_uI (am_uJ D 124 0 y.toInt64) 106 0 0) (Int32.ofNat x) (Int32.ofNat t)).bind fun q16 => (if q16 = 0 then (some ((-1 : Int32), (am_uI (am_uJ D 124 0 y.toInt64) 106 0 0))) else ((m62 (am_uI (am_uJ D 124 0 y.toInt64) 106 0 0) (Int32.ofNat t) (Int32.ofNat e)).bind fun q19 => (if q19 = 0 then (some ((-1 : Int32), (am_uI (am_uJ D 124 0 y.toInt64) 106 0 0))) else ((m133 N (am_uI (am_uJ D 124 0 y.toInt64) 106 0 0) (Int32.ofNat x) (Int32.ofNat t) (Int32.ofNat e) v4).bind fun q22 => (some (q22, (am_uI (am_uJ D 124 0 y.toInt64) 106 0 0)))))))) else (some ((-1 : Int32), (am_uI (am_uJ D 124 0 y.toInt64) 106 0 0)))) = some (z, am_uI (am_uJ D 124 0 y.toInt64) 106 0 0) → m134 N (am_uJ D 124 0 y.toInt64) (Int32.ofNat x) (Int32.ofNat t) (Int32.ofNat e) v4 = some (z, am_uI (am_uJ D 124 0 y.toInt64) 106 0 0) := fun y z hX => by
            unfold m134
            simp only [am_lt, e2, e4, e6, e7, q_10, if_false, if_true, q47a]
            exact hX
          have m0 : ∀ y : Int32, (am_uI (am_uJ D 124 0 y.toInt64) 106 0 0).1 107 0 = Int32.ofNat p := fun y => by rw [q_uI_ne _ (by omega)]; exact k_p hK
          have m1 : ∀ y : Int32, m56 (am_uI (am_uJ D 124 0 y.toInt64) 106 0 0) (Int32.ofNat x) (Int32.ofNat t) = some (if q_P D t = Int32.ofNat x then 1 else 0) := fun y => by rw [q56 _ ht, q_E_P (q_mE D y.toInt64 0)]
          have m2 : ∀ y : Int32, m62 (am_uI (am_uJ D 124 0 y.toInt64) 106 0 0) (Int32.ofNat t) (Int32.ofNat e) = some (Int32.ofNat (if n = 0 ∨ q_sh t (m156 D (Int32.ofNat e)) then 1 else 0)) := fun y => by
            rw [q62 (q_m_B hB y.toInt64 0) (q_m_K hK y.toInt64 0) ht, (q_E_162 (q_mE D y.toInt64 0) _ _).2.2.2, q158 hK ht]
          by_cases hp : p = 1
          · subst hp
            have hp1 : Int32.ofNat 1 = 1 := rfl
            by_cases hP : q_P D t = Int32.ofNat x
            · by_cases hf : n = 0 ∨ q_sh t (m156 D (Int32.ofNat e))
              · obtain ⟨w, hw, h161⟩ := q161s hK ht he hf
                have c6 : D.1 1 6 = 1 := by rw [k_p' hK]; rfl
                have c7 : m203 D (Int32.ofNat t) = Int32.ofNat x := by rw [q203 D ht, k_pl hK t ht]; exact hP
                have c8 : ¬ m158 D (Int32.ofNat t) (Int32.ofNat e) = 0 := by rw [q158 hK ht, if_pos hf]; decide
                have m3 : ∀ y : Int32, m133 N (am_uI (am_uJ D 124 0 y.toInt64) 106 0 0) (Int32.ofNat x) (Int32.ofNat t) (Int32.ofNat e) v4 = some (if v4 = 1 then Int32.ofNat w else if v4 = 2 then Int32.ofNat (q_nf D (Int32.ofNat t) (Int32.ofNat e) (Int32.ofNat ((x + 1) % 4))) else Int32.ofNat (q_gain D x w)) := fun y => by
                  have hE := q_mE D y.toInt64 0
                  have := q133 hN (q_m_B hB y.toInt64 0) (q_m_K hK y.toInt64 0) hx ht he (hf.imp id (fun q => by
                    have : m156 (am_uI (am_uJ D 124 0 y.toInt64) 106 0 0) (Int32.ofNat e) = m156 D (Int32.ofNat e) := by unfold m156; rw [hE.1 2 (by omega)]
                    rw [this]; exact q)) (by rw [q_E_P hE]; exact hP) hw ((q_E_162 hE _ _).2.2.1.trans h161) v4
                  rw [q_E_nf hE, q_E_gain hE] at this
                  exact this
                refine q_G_rd hI (if v4 = 1 then Int32.ofNat w else if v4 = 2 then Int32.ofNat (q_nf D (Int32.ofNat t) (Int32.ofNat e) (Int32.ofNat ((x + 1) % 4))) else Int32.ofNat (q_gain D x w)) ?_ (ma _ _ ?_)
                · show m285 N D _ _ _ _ = _
                  unfold m285
                  rw [ca (some (Sum.inl (if v4 = 1 then Int32.ofNat w else if v4 = 2 then Int32.ofNat (q_nf D (Int32.ofNat t) (Int32.ofNat e) (Int32.ofNat ((x + 1) % 4))) else Int32.ofNat (q_gain D x w))))]
                  · rfl
                  · rw [if_pos c6, if_pos c7, if_neg c8, h161, q222 hN hK hx hw h161, (q_md4 x hx).1, q209 hN]
                    have hnf : q_S (fun j => if D.1 7 j = Int32.ofNat ((x + 1) % 4) ∧ (q_sh j (m162 D (Int32.ofNat t) (Int32.ofNat e)) ∨ q_sh j (m163 D (Int32.ofNat t) (Int32.ofNat e))) then 1 else 0) 0 28 = q_nf D (Int32.ofNat t) (Int32.ofNat e) (Int32.ofNat ((x + 1) % 4)) := by
                      rw [q_nf_def]
                      exact q_S_congr 28 0 (fun j _ hj => by rw [k_pl hK j (by omega)])
                    rw [hnf, hv4]
                    obtain rfl | rfl | rfl : k = 0 ∨ k = 1 ∨ k = 2 := by omega
                    · rw [if_pos rfl, if_neg (show ¬ Int32.ofNat 0 = 1 by decide), if_neg (show ¬ Int32.ofNat 0 = 2 by decide)]; rfl
                    · rw [if_neg (show ¬ Int32.ofNat 1 = Int32.ofNat 0 by decide), if_pos rfl, if_pos (show Int32.ofNat 1 = 1 from rfl)]
                    · rw [if_neg (show ¬ Int32.ofNat 2 = Int32.ofNat 0 by decide), if_neg (show ¬ Int32.ofNat 2 = Int32.ofNat 1 by decide), if_neg (show ¬ Int32.ofNat 2 = 1 by decide), if_pos (show Int32.ofNat 2 = 2 from rfl)]; rfl
                · rw [m0, if_pos hp1, m1, Option.bind_some, if_pos hP, if_neg (by decide), m2, Option.bind_some, if_pos hf, if_neg (by decide), m3]
                  rfl
              · refine q_G_rd hI (-1) ?_ (ma _ _ ?_)
                · show m285 N D _ _ _ _ = _
                  unfold m285
                  rw [ca (some (Sum.inl (-1)))]
                  · rfl
                  · rw [k_p' hK, if_pos hp1, q203 D ht, k_pl hK t ht, if_pos hP, q158 hK ht, if_neg hf, if_pos (show Int32.ofNat 0 = 0 from rfl)]
                · rw [m0, if_pos hp1, m1, Option.bind_some, if_pos hP, if_neg (by decide), m2, Option.bind_some, if_neg hf, if_pos (show Int32.ofNat 0 = 0 from rfl)]
            · refine q_G_rd hI (-1) ?_ (ma _ _ ?_)
              · show m285 N D _ _ _ _ = _
                unfold m285
                rw [ca (some (Sum.inl (-1)))]
                · rfl
                · rw [k_p' hK, if_pos hp1, q203 D ht, k_pl hK t ht, if_neg hP]
              · rw [m0, if_pos hp1, m1, Option.bind_some, if_neg hP, if_pos rfl]
          · have hp1 : ¬ Int32.ofNat p = 1 := by rw [q_l1, q_eq (by omega) (by omega)]; exact hp
            refine q_G_rd hI (-1) ?_ (ma _ _ ?_)
            · show m285 N D _ _ _ _ = _
              unfold m285
              rw [ca (some (Sum.inl (-1)))]
              · rfl
              · rw [k_p' hK, if_neg hp1]
            · rw [m0, if_neg hp1]
        · refine q_G_ex hI 2 (by omega) ?_ ?_
          · show m285 N D _ _ _ _ = _
            unfold m285 m28
            rw [if_neg (by rw [e1]; decide), if_neg (by rw [e3]; decide), if_neg (by rw [e5]; decide)]
            rcases e8 with e8 | ⟨e8, e9⟩
            · rw [if_pos e8]; rfl
            · rw [if_neg e8, if_neg e9]; rfl
          · show m134 N D _ _ _ _ = _
            unfold m134
            simp only [am_lt, e2, e4, e6, e7, q_10, if_false, if_true, q47c]
            rfl
      · refine q_G_ex hI 2 (by omega) ?_ ?_
        · show m285 N D _ _ _ _ = _
          unfold m285 m28
          rw [if_neg (by rw [e1]; decide), if_neg (by rw [e3]; decide), if_pos e5]
          rfl
        · show m134 N D _ _ _ _ = _
          unfold m134
          simp only [am_lt, e2, e4, e6, q_10, if_false, if_true, q47c]
          rfl
    · refine q_G_ex hI 1 (by omega) ?_ ?_
      · show m285 N D _ _ _ _ = _
        unfold m285 m28
        rw [if_neg (by rw [e1]; decide), if_pos e3]
        rfl
      · show m134 N D _ _ _ _ = _
        unfold m134
        simp only [am_lt, e2, e4, q_10, if_false, if_true, q47b]
        rfl
  · refine q_G_ex hI 1 (by omega) ?_ ?_
    · show m285 N D _ _ _ _ = _
      unfold m285 m28
      rw [if_pos e1]
      rfl
    · show m134 N D _ _ _ _ = _
      unfold m134
      simp only [am_lt, e2, if_true, q47b]
      rfl
end MR
