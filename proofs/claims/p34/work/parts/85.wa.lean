/-! ahead: what is told of open hands does not hang on how far one may look -/
section WA
variable {D E F G : am_D} {N : Nat} {n p : Nat} {T V : Nat → Nat}
theorem o_all {f g : Nat → Int32} (h : ∀ t, t < 28 → f t = g t) : q_all (q_cnt f) = q_all (q_cnt g) ∧ q_all (q_pips f) = q_all (q_pips g) := by
  constructor
  · congr 1
    funext v
    exact q_cnt_congr h
  · congr 1
    funext v
    exact q_pips_congr h
theorem o_bk {f g : Nat → Int32} (h : ∀ t, t < 28 → f t = g t) (x : Nat) : q_bk f x = q_bk g x := by
  have : q_mo f x = q_mo g x := by
    unfold q_mo
    rw [q_pips_congr h, q_pips_congr h, q_pips_congr h, q_pips_congr h]
  unfold q_bk
  rw [this]
theorem o_fd {rec rec' : (Nat → Int32) → Nat → Nat → Nat → Nat → Int32} {own own' : Nat → Int32} {le re h : Nat} (ho : ∀ t, t < 28 → own t = own' t) (hv : ∀ o, o < 56 → q_lg own le re h o → q_ov rec own le re h o = q_ov rec' own' le re h o) : ∀ (j o : Nat) (acc : Option (Int32 × Nat)), o + j ≤ 56 → q_fd rec own le re h j o acc = q_fd rec' own' le re h j o acc
  | 0, _, _, _ => rfl
  | j + 1, o, acc, hj => by
    show q_fd rec own le re h j (o + 1) (if q_lg own le re h o then q_pk rec own le re h o acc else acc) = q_fd rec' own' le re h j (o + 1) (if q_lg own' le re h o then q_pk rec' own' le re h o acc else acc)
    have e : own (o / 2) = own' (o / 2) := ho _ (by omega)
    have e' : (if q_lg own le re h o then q_pk rec own le re h o acc else acc) = (if q_lg own' le re h o then q_pk rec' own' le re h o acc else acc) := by
      by_cases c : q_lg own le re h o
      · rw [if_pos c, if_pos (by unfold q_lg at c ⊢; rw [← e]; exact c)]
        unfold q_pk
        rw [hv o (by omega) c]
      · rw [if_neg c, if_neg (fun q => c (by unfold q_lg at q ⊢; rw [e]; exact q))]
    rw [e']
    exact o_fd ho hv j (o + 1) _ (by omega)
theorem o_op : ∀ (k k' : Nat) (own own' : Nat → Int32) (le re h r : Nat), (∀ t, t < 28 → own t = own' t) → (∀ t, t < 28 → ∃ w, w < 5 ∧ own t = Int32.ofNat w) → h < 4 → r ≤ 3 → 4 * q_all (q_cnt own) + 3 - r < k → 4 * q_all (q_cnt own) + 3 - r < k' → q_op k own le re h r = q_op k' own' le re h r
  | 0, _, _, _, _, _, _, _, _, _, _, _, hk, _ => by omega
  | _ + 1, 0, _, _, _, _, _, _, _, _, _, _, _, hk => by omega
  | k + 1, k' + 1, own, own', le, re, h, r, ho, hw, hh, hr, hk, hk' => by
    have e : q_fd (q_op k) own le re h 56 0 none = q_fd (q_op k') own' le re h 56 0 none := o_fd ho (fun o h56 hl => by
      have ht : o / 2 < 28 := by omega
      obtain ⟨u1, u2⟩ := q_up4 hw ht hh hl.1
      have hu : ∀ t, t < 28 → upd own (o / 2) (Int32.ofNat 4) t = upd own' (o / 2) (Int32.ofNat 4) t := fun t h28 => by
        show (if t = o / 2 then _ else own t) = (if t = o / 2 then _ else own' t)
        rw [ho t h28]
      unfold q_ov
      rw [q_cnt_congr hu, (o_all hu).2, o_op k k' _ _ (q_l1' le o) (q_r1' re o) ((h + 1) % 4) 0 hu u1 (by omega) (by omega) (by omega) (by omega)]) 56 0 none (by omega)
    show (match q_fd (q_op k) own le re h 56 0 none with | some b => b.1 | none => if r = 3 then q_bk own h else -q_op k own le re ((h + 1) % 4) (r + 1)) = (match q_fd (q_op k') own' le re h 56 0 none with | some b => b.1 | none => if r = 3 then q_bk own' h else -q_op k' own' le re ((h + 1) % 4) (r + 1))
    rw [e]
    cases q_fd (q_op k') own' le re h 56 0 none with
    | some b => rfl
    | none =>
      show (if r = 3 then q_bk own h else -q_op k own le re ((h + 1) % 4) (r + 1)) = (if r = 3 then q_bk own' h else -q_op k' own' le re ((h + 1) % 4) (r + 1))
      by_cases c : r = 3
      · rw [if_pos c, if_pos c, o_bk ho]
      · rw [if_neg c, if_neg c, o_op k k' own own' le re ((h + 1) % 4) (r + 1) ho hw (by omega) (by omega) (by omega) (by omega)]
/-- what was found fits, and its worth is what it brings -/
theorem o_fb (rec : (Nat → Int32) → Nat → Nat → Nat → Nat → Int32) (own : Nat → Int32) (le re h : Nat) : ∀ (j o : Nat) (acc : Option (Int32 × Nat)), o + j ≤ 56 → (∀ b, acc = some b → b.2 < 56 ∧ q_lg own le re h b.2 ∧ b.1 = q_ov rec own le re h b.2) → ∀ b, q_fd rec own le re h j o acc = some b → b.2 < 56 ∧ q_lg own le re h b.2 ∧ b.1 = q_ov rec own le re h b.2
  | 0, _, _, _, ha, b, hb => ha b hb
  | j + 1, o, acc, hj, ha, b, hb => by
    have hb' : q_fd rec own le re h j (o + 1) (if q_lg own le re h o then q_pk rec own le re h o acc else acc) = some b := hb
    refine o_fb rec own le re h j (o + 1) _ (by omega) (fun b' hb2 => ?_) b hb'
    by_cases c : q_lg own le re h o
    · rw [if_pos c] at hb2
      have hn : ∀ b', some (q_ov rec own le re h o, o) = some b' → b'.2 < 56 ∧ q_lg own le re h b'.2 ∧ b'.1 = q_ov rec own le re h b'.2 := fun b' q => by
        cases q
        exact ⟨by dsimp only; omega, c, rfl⟩
      cases acc with
      | none => exact hn b' hb2
      | some a =>
        unfold q_pk at hb2
        dsimp only at hb2
        by_cases d : q_ov rec own le re h o ≤ a.1
        · rw [if_pos d] at hb2
          exact ha b' hb2
        · rw [if_neg d] at hb2
          exact hn b' hb2
    · rw [if_neg c] at hb2
      exact ha b' hb2
/-- the ends behind a lay -/
theorem o_wt : ∀ v, v < 7 → ∀ d, d < 2 → q_wt (v + 8 * d) = v * (d + 1) ∧ (v + 8 * d) % 8 = v := by decide
theorem o_eb : ∀ t, t < 28 → ∀ v, v < 7 → (v = q_lo t ∨ v = q_hi t) → ∀ e, e < 16 → e % 8 = v → q_eb t e = q_pip t - v + 8 * q_dd t := by decide +kernel
theorem o_e0 (hK : q_K D n p T V) (hn : 0 < n) {t e : Nat} (ht : t < 28) (he : e < 2) (hf : n = 0 ∨ q_sh t (m156 D (Int32.ofNat e))) : q_e0 (q_V1 e n t T V) (q_T1 e n t T) = q_l1' (q_e0 V T) (2 * t + e) ∧ q_e1 (n + 1) (q_V1 e n t T V) (q_T1 e n t T) = q_r1' (q_e1 n V T) (2 * t + e) := by
  have hn0 : ¬ n = 0 := by omega
  obtain ⟨b1, b2, -⟩ := k_k hK 0 (by omega)
  obtain ⟨b3, b4, -⟩ := k_k hK (n - 1) (by omega)
  have v1 := (q_v7 b1 b2).1
  have v2 := (q_v7 b3 b4).2
  obtain ⟨x1, -, x2, -⟩ := q_e_ok hK hn
  have d1 := q_dd2 (T 0)
  have d2 := q_dd2 (T (n - 1))
  have m1 := (o_wt _ v1 _ (show q_dd (T 0) < 2 by omega)).2
  have m2 := (o_wt _ v2 _ (show q_dd (T (n - 1)) < 2 by omega)).2
  unfold q_l1' q_r1'
  rw [show (2 * t + e) % 2 = e by omega, show (2 * t + e) / 2 = t by omega]
  obtain rfl | rfl : e = 0 ∨ e = 1 := by omega
  · rw [if_pos rfl, if_neg (by omega)]
    have q := q_ft0 hK ht (by omega) hf
    constructor
    · rw [o_eb t ht (V 0) v1 q (q_e0 V T) x1 m1]
      show (if n = 0 then _ else _) + 8 * q_dd (if (0 : Nat) = 0 then (if (0 : Nat) = 0 then t else _) else _) = _
      rw [if_neg hn0, if_pos rfl, if_pos rfl, if_pos rfl, if_pos rfl]
    · unfold q_e1 q_V1 q_T1
      rw [Nat.add_sub_cancel, if_neg hn0, if_pos rfl, if_pos rfl, if_neg hn0, if_neg hn0]
  · rw [if_neg (by omega), if_pos rfl]
    have q := q_ft1 hK ht (by omega) hf
    constructor
    · unfold q_e0 q_V1 q_T1
      rw [if_neg hn0, if_neg (by omega), if_neg (by omega), if_neg (by omega), if_neg (by omega)]
    · rw [o_eb t ht _ v2 q (q_e1 n V T) x2 m2]
      have eT : q_T1 1 n t T n = t := by
        unfold q_T1
        rw [if_neg (by omega), if_pos rfl]
      have eV : q_V1 1 n t T V n = q_pip (T (n - 1)) - V (n - 1) := by
        unfold q_V1
        rw [if_neg hn0, if_neg (by omega), if_pos rfl]
      show q_pip (q_T1 1 n t T (n + 1 - 1)) - q_V1 1 n t T V (n + 1 - 1) + 8 * q_dd (q_T1 1 n t T (n + 1 - 1)) = _
      rw [Nat.add_sub_cancel, eT, eV]
theorem o_w (hK : q_K D n p T V) (hn : 2 ≤ n) : m160 D = Int32.ofNat (q_wt (q_e0 V T) + q_wt (q_e1 n V T)) := by
  have h28 := k_n28 hK
  have hn0 : ¬ n = 0 := by omega
  obtain ⟨b1, b2, -⟩ := k_k hK 0 (by omega)
  obtain ⟨b3, b4, -⟩ := k_k hK (n - 1) (by omega)
  have v1 := (q_v7 b1 b2).1
  have v2 := (q_v7 b3 b4).2
  have d1 := q_dd2 (T 0)
  have d2 := q_dd2 (T (n - 1))
  have g0 : m156 D 0 = Int32.ofNat (V 0) := by
    show D.1 2 5 = _
    rw [k_e0 hK, if_neg hn0]
  have g1 : m156 D 1 = Int32.ofNat (q_pip (T (n - 1)) - V (n - 1)) := by
    show D.1 2 6 = _
    rw [k_e1 hK, if_neg hn0]
  unfold m160
  rw [k_n' hK, if_neg (show ¬ Int32.ofNat n = 0 from fun q => hn0 (q_ofN (b := 0) (by omega) (by omega) q)), if_neg (show ¬ Int32.ofNat n = 1 from fun q => absurd (q_ofN (b := 1) (by omega) (by omega) q) (by omega)), q157 hK (by omega), q157 hK (by omega), if_pos rfl, if_neg (by decide), g0, g1, q255d b1, q255d b3, q_add]
  unfold q_e0 q_e1
  rw [(o_wt _ v1 _ (show q_dd (T 0) < 2 by omega)).1, (o_wt _ v2 _ (show q_dd (T (n - 1)) < 2 by omega)).1]
theorem o_ends (hK : q_K D n p T V) {p' t e : Nat} (hF : q_K F (n + 1) p' (q_T1 e n t T) (q_V1 e n t T V)) (ht : t < 28) (he : e < 2) (hf : n = 0 ∨ q_sh t (m156 D (Int32.ofNat e))) : (F.1 2 5 = m162 D (Int32.ofNat t) (Int32.ofNat e) ∧ F.1 2 6 = m163 D (Int32.ofNat t) (Int32.ofNat e)) ∨ (F.1 2 6 = m162 D (Int32.ofNat t) (Int32.ofNat e) ∧ F.1 2 5 = m163 D (Int32.ofNat t) (Int32.ofNat e)) := by
  have h28 := k_n28 hK
  have f5 := k_e0 hF
  have f6 := k_e1 hF
  rw [if_neg (by omega)] at f5 f6
  rw [Nat.add_sub_cancel] at f6
  rw [f5, f6]
  unfold m163 m162
  rw [k_n' hK]
  by_cases h0 : n = 0
  · subst h0
    rw [if_pos (show Int32.ofNat 0 = 0 from rfl), if_pos (show Int32.ofNat 0 = 0 from rfl), if_pos (show Int32.ofNat 0 = 0 from rfl), q249 ht, q250 ht]
    have ep : q_T1 e 0 t T 0 = t := by
      unfold q_T1
      rw [if_pos rfl, ite_self]
    have ev : q_V1 e 0 t T V 0 = q_lo t := by
      unfold q_V1
      rw [if_pos rfl]
    rw [ep, ev, show q_pip t - q_lo t = q_hi t by unfold q_pip; omega]
    obtain rfl | rfl : e = 0 ∨ e = 1 := by omega
    · left
      exact ⟨by rw [if_pos (show Int32.ofNat 0 = 0 from rfl)], by rw [if_neg (by decide)]⟩
    · right
      exact ⟨by rw [if_neg (by decide)], by rw [if_pos (by decide)]⟩
  · have z3 : ¬ Int32.ofNat n = 0 := fun q => h0 (q_ofN (b := 0) (by omega) (by omega) q)
    rw [if_neg z3, if_neg z3, q251 ht]
    have g0 : m156 D (Int32.ofNat 0) = Int32.ofNat (V 0) := by
      show D.1 2 5 = _
      rw [k_e0 hK, if_neg h0]
    have g1 : m156 D (Int32.ofNat 1) = Int32.ofNat (q_pip (T (n - 1)) - V (n - 1)) := by
      show D.1 2 6 = _
      rw [k_e1 hK, if_neg h0]
    obtain rfl | rfl : e = 0 ∨ e = 1 := by omega
    · left
      have q := q_ft0 hK ht (by omega) hf
      rw [show m166 (Int32.ofNat 0) = Int32.ofNat 1 from rfl, g0, g1, q_vfr q]
      unfold q_V1 q_T1
      rw [if_neg h0, if_neg h0, if_pos rfl, if_pos rfl, if_pos rfl, if_pos rfl, if_neg h0, if_neg h0]
      exact ⟨rfl, rfl⟩
    · right
      have q := q_ft1 hK ht (by omega) hf
      have eT : q_T1 1 n t T n = t := by
        unfold q_T1
        rw [if_neg (by omega), if_pos rfl]
      have eV : q_V1 1 n t T V n = q_pip (T (n - 1)) - V (n - 1) := by
        unfold q_V1
        rw [if_neg h0, if_neg (by omega), if_pos rfl]
      have eW : q_V1 1 n t T V 0 = V 0 := by
        unfold q_V1
        rw [if_neg h0, if_neg (by omega), if_neg (by omega)]
      rw [show m166 (Int32.ofNat 1) = Int32.ofNat 0 from rfl, g0, g1, q_vfr q, eT, eV, eW]
      exact ⟨rfl, rfl⟩
theorem o_fit (hK : q_K D n p T V) {p' t e : Nat} (hF : q_K F (n + 1) p' (q_T1 e n t T) (q_V1 e n t T V)) {u : Nat} (hu : u < 4) (ht : t < 28) (he : e < 2) (hf : n = 0 ∨ q_sh t (m156 D (Int32.ofNat e))) (h7 : ∀ b, F.1 7 b = if b = t then Int32.ofNat 4 else D.1 7 b) (hP : D.1 7 t = Int32.ofNat u) : q_fit F (Int32.ofNat ((u + 1) % 4)) = q_S (fun j => if D.1 7 j = Int32.ofNat ((u + 1) % 4) ∧ (q_sh j (m162 D (Int32.ofNat t) (Int32.ofNat e)) ∨ q_sh j (m163 D (Int32.ofNat t) (Int32.ofNat e))) then 1 else 0) 0 28 := by
  rw [q_fit_def]
  refine q_S_congr 28 0 fun j _ hj => ?_
  have e1 : (F.1 7 j = Int32.ofNat ((u + 1) % 4)) = (D.1 7 j = Int32.ofNat ((u + 1) % 4)) := by
    rw [h7]
    by_cases c : j = t
    · rw [if_pos c, c, hP]
      refine propext ⟨fun q => ?_, fun q => ?_⟩
      · have := q_ofN (by omega) (by omega) q; omega
      · have := q_ofN (by omega) (by omega) q; omega
    · rw [if_neg c]
  have e2 : (¬ m159 F (Int32.ofNat j) = 0) = (q_sh j (m162 D (Int32.ofNat t) (Int32.ofNat e)) ∨ q_sh j (m163 D (Int32.ofNat t) (Int32.ofNat e))) := by
    have e3 : (q_sh j (F.1 2 5) ∨ q_sh j (F.1 2 6)) = (q_sh j (m162 D (Int32.ofNat t) (Int32.ofNat e)) ∨ q_sh j (m163 D (Int32.ofNat t) (Int32.ofNat e))) := by
      rcases o_ends hK hF ht he hf with ⟨a, b⟩ | ⟨a, b⟩
      · rw [a, b]
      · rw [a, b]; exact propext Or.comm
    rw [q159 hF (by omega), ← e3]
    by_cases c : q_sh j (F.1 2 5) ∨ q_sh j (F.1 2 6)
    · rw [if_pos (Or.inr c)]
      exact propext ⟨fun _ => c, fun _ => by decide⟩
    · rw [if_neg (fun q => by
        rcases q with q | q
        · omega
        · exact c q)]
      exact propext ⟨fun q => absurd rfl q, fun q => absurd q c⟩
  have eq : (F.1 7 j = Int32.ofNat ((u + 1) % 4) ∧ ¬ m159 F (Int32.ofNat j) = 0) = (D.1 7 j = Int32.ofNat ((u + 1) % 4) ∧ (q_sh j (m162 D (Int32.ofNat t) (Int32.ofNat e)) ∨ q_sh j (m163 D (Int32.ofNat t) (Int32.ofNat e)))) := by rw [e1, e2]
  by_cases c : F.1 7 j = Int32.ofNat ((u + 1) % 4) ∧ ¬ m159 F (Int32.ofNat j) = 0
  · rw [if_pos c, if_pos (eq.mp c)]
  · rw [if_neg c, if_neg (fun q => c (eq.mpr q))]
end WA
