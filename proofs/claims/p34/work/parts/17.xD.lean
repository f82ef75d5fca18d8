/-! the methods as functions over the data: what their walks share; the rows of numbers by hand -/
theorem am_ifE {α : Type} {c : Prop} [Decidable c] {a b r : α} (h : (if c then a else b) = r) : (c ∧ a = r) ∨ (¬ c ∧ b = r) := by
  by_cases hc : c
  · rw [if_pos hc] at h; exact Or.inl ⟨hc, h⟩
  · rw [if_neg hc] at h; exact Or.inr ⟨hc, h⟩
theorem am_gdE {α : Type} {c : Prop} [Decidable c] {a : Option α} {r : α} (h : (if c then a else none) = some r) : c ∧ a = some r := by
  by_cases hc : c
  · rw [if_pos hc] at h; exact ⟨hc, h⟩
  · rw [if_neg hc] at h; cases h
def am_inl {α : Type} (x : α ⊕ Nat) : Option α := match x with
  | .inl a => some a
  | .inr _ => none
theorem am_inlE {α : Type} {x : α ⊕ Nat} {v : α} (h : am_inl x = some v) : x = .inl v := by
  cases x with
  | inl a => cases h; rfl
  | inr _ => cases h
def am_ch {α β : Type} (x : α ⊕ Nat) (f : α → β) (g : Nat → β) : β := match x with
  | .inl a => f a
  | .inr E => g E
theorem am_chE {α β : Type} {x : α ⊕ Nat} {f : α → β} {g : Nat → β} {r : β} (h : am_ch x f g = r) : (∃ v, am_inl x = some v ∧ f v = r) ∨ (∃ E, x = .inr E ∧ g E = r) := by
  cases x with
  | inl a => exact Or.inl ⟨a, rfl, h⟩
  | inr E => exact Or.inr ⟨E, rfl, h⟩
def am_oI (x : Int32 ⊕ Nat) : am_O := match x with
  | .inl v => .inl (some (.int v))
  | .inr E => .inr E
def am_oJ (x : Int64 ⊕ Nat) : am_O := match x with
  | .inl v => .inl (some (.long v))
  | .inr E => .inr E
def am_oF (x : UInt32 ⊕ Nat) : am_O := match x with
  | .inl v => .inl (some (.float v))
  | .inr E => .inr E
def am_oD (x : UInt64 ⊕ Nat) : am_O := match x with
  | .inl v => .inl (some (.double v))
  | .inr E => .inr E
/-- a row's number, -1 where there is no place -/
def am_rat (f : Nat → Int32) (n : Nat) (p : Int32) : Int32 := if 0 ≤ p ∧ p < Int32.ofNat n then f p.toNatClampNeg else -1
def am_rput (D : am_D) (a n : Nat) (p x : Int32) : am_D := if 0 ≤ p ∧ p < Int32.ofNat n then am_uI D a p.toNatClampNeg x else D
def am_radd (D : am_D) (a n : Nat) (p x : Int32) : am_D := if 0 ≤ p ∧ p < Int32.ofNat n then am_uI D a p.toNatClampNeg (D.1 a p.toNatClampNeg + x) else D
def am_rfill (D : am_D) (a n : Nat) (x : Int32) : am_D := am_uR D a (fun i => if i < n then x else D.1 a i)
def am_rcopy (D : am_D) (a b n m : Nat) : am_D := am_uR D b (va_cpy (D.1 a) (D.1 b) 0 0 (min n m))
section XD
variable {xs : Nat → Int32} {L : Nat} {k d mc ms pc p' : Nat} {lc st : List Value} {h : am_AH} {c s : Nat} {Q : am_O → am_AH → Prop} {i : Instr} {D D' : am_D}
theorem x_call1 {k' na j nest d0 mc' ms' : Nat} {hq : List Nat} {as rest : List Value} {v : Value} (r : am_at k pc = some (i, 3, k' :: na :: j :: nest :: hq)) (hi : am_isInv i = true) (hst : st = as.reverse ++ rest) (hn : as.length = na) (hk : k' < 1000) (hcat : (rest.map fun v => v.category).sum ≤ 8)
    (hY : am_Y xs L k' d0 mc' ms' as D (.inl (some v)) D') (hd : d0 + 1 ≤ d) (hc : c + mc' ≤ mc) (hs : s + ms' ≤ ms) (hp : pc + 3 = p') (kk : am_X xs L k d mc ms p' lc (v :: rest) (am_mk D') (c + mc') (s + ms') Q) : am_X xs L k d mc ms pc lc st (am_mk D) c s Q := x_call r hi hst hn hk hcat hY hd hc hs hp kk
theorem x_call0 {k' na j nest d0 mc' ms' : Nat} {hq : List Nat} {as rest : List Value} (r : am_at k pc = some (i, 3, k' :: na :: j :: nest :: hq)) (hi : am_isInv i = true) (hst : st = as.reverse ++ rest) (hn : as.length = na) (hk : k' < 1000) (hcat : (rest.map fun v => v.category).sum ≤ 8)
    (hY : am_Y xs L k' d0 mc' ms' as D (.inl none) D') (hd : d0 + 1 ≤ d) (hc : c + mc' ≤ mc) (hs : s + ms' ≤ ms) (hp : pc + 3 = p') (kk : am_X xs L k d mc ms p' lc rest (am_mk D') (c + mc') (s + ms') Q) : am_X xs L k d mc ms pc lc st (am_mk D) c s Q := x_call r hi hst hn hk hcat hY hd hc hs hp kk
end XD
/-! the rows of numbers, by hand -/
theorem r180_0 : am_at 180 0 = some (.iload_n 1, 1, [1]) := by decide +kernel
theorem r180_1 : am_at 180 1 = some (.ifCond .lt (15), 3, [16]) := by decide +kernel
theorem r180_4 : am_at 180 4 = some (.iload_n 1, 1, [1]) := by decide +kernel
theorem r180_5 : am_at 180 5 = some (.aload_n 0, 1, [0]) := by decide +kernel
theorem r180_6 : am_at 180 6 = some (.arraylength, 1, []) := by decide +kernel
theorem r180_7 : am_at 180 7 = some (.if_icmp .ge (9), 3, [16]) := by decide +kernel
theorem r180_10 : am_at 180 10 = some (.aload_n 0, 1, [0]) := by decide +kernel
theorem r180_11 : am_at 180 11 = some (.iload_n 1, 1, [1]) := by decide +kernel
theorem r180_12 : am_at 180 12 = some (.iaload, 1, []) := by decide +kernel
theorem r180_13 : am_at 180 13 = some (.goto (4), 3, [17]) := by decide +kernel
theorem r180_16 : am_at 180 16 = some (.iconst (-1), 1, []) := by decide +kernel
theorem r180_17 : am_at 180 17 = some (.ireturn, 1, []) := by decide +kernel
theorem rt180 : am_rtt 180 = some (some .int) := by decide +kernel
set_option maxRecDepth 100000 in
theorem pg180 : am_pg[180]? = some am_m180 := rfl
theorem r181_0 : am_at 181 0 = some (.iload_n 1, 1, [1]) := by decide +kernel
theorem r181_1 : am_at 181 1 = some (.ifCond .lt (13), 3, [14]) := by decide +kernel
theorem r181_4 : am_at 181 4 = some (.iload_n 1, 1, [1]) := by decide +kernel
theorem r181_5 : am_at 181 5 = some (.aload_n 0, 1, [0]) := by decide +kernel
theorem r181_6 : am_at 181 6 = some (.arraylength, 1, []) := by decide +kernel
theorem r181_7 : am_at 181 7 = some (.if_icmp .ge (7), 3, [14]) := by decide +kernel
theorem r181_10 : am_at 181 10 = some (.aload_n 0, 1, [0]) := by decide +kernel
theorem r181_11 : am_at 181 11 = some (.iload_n 1, 1, [1]) := by decide +kernel
theorem r181_12 : am_at 181 12 = some (.iload_n 2, 1, [2]) := by decide +kernel
theorem r181_13 : am_at 181 13 = some (.iastore, 1, []) := by decide +kernel
theorem r181_14 : am_at 181 14 = some (.return_, 1, []) := by decide +kernel
theorem rt181 : am_rtt 181 = some (none) := by decide +kernel
set_option maxRecDepth 100000 in
theorem pg181 : am_pg[181]? = some am_m181 := rfl
theorem r182_0 : am_at 182 0 = some (.iload_n 1, 1, [1]) := by decide +kernel
theorem r182_1 : am_at 182 1 = some (.ifCond .lt (16), 3, [17]) := by decide +kernel
theorem r182_4 : am_at 182 4 = some (.iload_n 1, 1, [1]) := by decide +kernel
theorem r182_5 : am_at 182 5 = some (.aload_n 0, 1, [0]) := by decide +kernel
theorem r182_6 : am_at 182 6 = some (.arraylength, 1, []) := by decide +kernel
theorem r182_7 : am_at 182 7 = some (.if_icmp .ge (10), 3, [17]) := by decide +kernel
theorem r182_10 : am_at 182 10 = some (.aload_n 0, 1, [0]) := by decide +kernel
theorem r182_11 : am_at 182 11 = some (.iload_n 1, 1, [1]) := by decide +kernel
theorem r182_12 : am_at 182 12 = some (.dup2, 1, []) := by decide +kernel
theorem r182_13 : am_at 182 13 = some (.iaload, 1, []) := by decide +kernel
theorem r182_14 : am_at 182 14 = some (.iload_n 2, 1, [2]) := by decide +kernel
theorem r182_15 : am_at 182 15 = some (.iadd, 1, []) := by decide +kernel
theorem r182_16 : am_at 182 16 = some (.iastore, 1, []) := by decide +kernel
theorem r182_17 : am_at 182 17 = some (.return_, 1, []) := by decide +kernel
theorem rt182 : am_rtt 182 = some (none) := by decide +kernel
set_option maxRecDepth 100000 in
theorem pg182 : am_pg[182]? = some am_m182 := rfl
theorem r183_0 : am_at 183 0 = some (.iconst (0), 1, []) := by decide +kernel
theorem r183_1 : am_at 183 1 = some (.istore_n 2, 1, [2]) := by decide +kernel
theorem r183_2 : am_at 183 2 = some (.iload_n 2, 1, [2]) := by decide +kernel
theorem r183_3 : am_at 183 3 = some (.aload_n 0, 1, [0]) := by decide +kernel
theorem r183_4 : am_at 183 4 = some (.arraylength, 1, []) := by decide +kernel
theorem r183_5 : am_at 183 5 = some (.if_icmp .ge (13), 3, [18]) := by decide +kernel
theorem r183_8 : am_at 183 8 = some (.aload_n 0, 1, [0]) := by decide +kernel
theorem r183_9 : am_at 183 9 = some (.iload_n 2, 1, [2]) := by decide +kernel
theorem r183_10 : am_at 183 10 = some (.iload_n 1, 1, [1]) := by decide +kernel
theorem r183_11 : am_at 183 11 = some (.iastore, 1, []) := by decide +kernel
theorem r183_12 : am_at 183 12 = some (.iinc 2 (1), 3, [2]) := by decide +kernel
theorem r183_15 : am_at 183 15 = some (.goto (-13), 3, [2]) := by decide +kernel
theorem r183_18 : am_at 183 18 = some (.return_, 1, []) := by decide +kernel
theorem rt183 : am_rtt 183 = some (none) := by decide +kernel
set_option maxRecDepth 100000 in
theorem pg183 : am_pg[183]? = some am_m183 := rfl
theorem r184_0 : am_at 184 0 = some (.aload_n 0, 1, [0]) := by decide +kernel
theorem r184_1 : am_at 184 1 = some (.iconst (0), 1, []) := by decide +kernel
theorem r184_2 : am_at 184 2 = some (.aload_n 1, 1, [1]) := by decide +kernel
theorem r184_3 : am_at 184 3 = some (.iconst (0), 1, []) := by decide +kernel
theorem r184_4 : am_at 184 4 = some (.aload_n 0, 1, [0]) := by decide +kernel
theorem r184_5 : am_at 184 5 = some (.arraylength, 1, []) := by decide +kernel
theorem r184_6 : am_at 184 6 = some (.aload_n 1, 1, [1]) := by decide +kernel
theorem r184_7 : am_at 184 7 = some (.arraylength, 1, []) := by decide +kernel
theorem r184_8 : am_at 184 8 = some (.invokestatic 9, 3, [1001, 0, 297]) := by decide +kernel
theorem r184_11 : am_at 184 11 = some (.invokestatic 15, 3, [1002, 0, 300]) := by decide +kernel
theorem r184_14 : am_at 184 14 = some (.return_, 1, []) := by decide +kernel
theorem rt184 : am_rtt 184 = some (none) := by decide +kernel
set_option maxRecDepth 100000 in
theorem pg184 : am_pg[184]? = some am_m184 := rfl
theorem r170_0 : am_at 170 0 = some (.aload_n 0, 1, [0]) := by decide +kernel
theorem r170_1 : am_at 170 1 = some (.getfield 22, 3, [1, 1, 0, 165]) := by decide +kernel
theorem r170_4 : am_at 170 4 = some (.iload_n 1, 1, [1]) := by decide +kernel
theorem r170_5 : am_at 170 5 = some (.iadd, 1, []) := by decide +kernel
theorem r170_6 : am_at 170 6 = some (.bipush (6), 2, []) := by decide +kernel
theorem r170_8 : am_at 170 8 = some (.irem, 1, []) := by decide +kernel
theorem r170_9 : am_at 170 9 = some (.istore_n 2, 1, [2]) := by decide +kernel
theorem r170_10 : am_at 170 10 = some (.iload_n 1, 1, [1]) := by decide +kernel
theorem r170_11 : am_at 170 11 = some (.ifCond .lt (25), 3, [36]) := by decide +kernel
theorem r170_14 : am_at 170 14 = some (.iload_n 2, 1, [2]) := by decide +kernel
theorem r170_15 : am_at 170 15 = some (.ifCond .lt (21), 3, [36]) := by decide +kernel
theorem r170_18 : am_at 170 18 = some (.iload_n 2, 1, [2]) := by decide +kernel
theorem r170_19 : am_at 170 19 = some (.aload_n 0, 1, [0]) := by decide +kernel
theorem r170_20 : am_at 170 20 = some (.getfield 11, 3, [1, 0, 3, 164]) := by decide +kernel
theorem r170_23 : am_at 170 23 = some (.arraylength, 1, []) := by decide +kernel
theorem r170_24 : am_at 170 24 = some (.if_icmp .ge (12), 3, [36]) := by decide +kernel
theorem r170_27 : am_at 170 27 = some (.aload_n 0, 1, [0]) := by decide +kernel
theorem r170_28 : am_at 170 28 = some (.getfield 11, 3, [1, 0, 3, 164]) := by decide +kernel
theorem r170_31 : am_at 170 31 = some (.iload_n 2, 1, [2]) := by decide +kernel
theorem r170_32 : am_at 170 32 = some (.aaload, 1, []) := by decide +kernel
theorem r170_33 : am_at 170 33 = some (.goto (4), 3, [37]) := by decide +kernel
theorem r170_37 : am_at 170 37 = some (.areturn, 1, []) := by decide +kernel
theorem rt170 : am_rtt 170 = some (some (.object "ClockDominoes$Table")) := by decide +kernel
set_option maxRecDepth 100000 in
theorem pg170 : am_pg[170]? = some am_m170 := rfl
theorem am_inI {p : Int32} {n : Nat} (h0 : ¬ p < 0) (h1 : ¬ Int32.ofNat n ≤ p) : 0 ≤ p ∧ p < Int32.ofNat n := ⟨Int32.not_lt.mp h0, Int32.not_le.mp h1⟩
section XR
variable {xs : Nat → Int32} {L : Nat} {D D' : am_D} {a b n m : Nat} {p x : Int32} {k d mc ms pc p' : Nat} {lc st : List Value} {h : am_AH} {c s : Nat} {Q : am_O → am_AH → Prop}
theorem am_sp_copy {hh : am_AH} {f g : Nat → Int32} {n0 n1 i j : Nat} {sp dp q : Int32} (h1 : hh[a]? = some (.inl (0, n0, .inl f))) (h3 : hh[b]? = some (.inl (0, n1, .inl g))) : am_sp (.invokestatic i) [1002, 0, j] [.int q, .int dp, .ref b, .int sp, .ref a] hh = some ((¬ sp < 0 ∧ ¬ dp < 0 ∧ ¬ q < 0 ∧ sp.toNatClampNeg + q.toNatClampNeg ≤ n0 ∧ dp.toNatClampNeg + q.toNatClampNeg ≤ n1), 3, [], hh.set b (.inl (0, n1, .inl (va_cpy f g sp.toNatClampNeg dp.toNatClampNeg q.toNatClampNeg)))) := by
  unfold am_sp
  show (if (([] : List Value).map fun v => v.category).sum ≤ 8 then (match hh[a]?, hh[b]? with
        | some (.inl (0, n0, .inl f)), some (.inl (0, n1, .inl g)) => some ((¬ sp < 0 ∧ ¬ dp < 0 ∧ ¬ q < 0 ∧ sp.toNatClampNeg + q.toNatClampNeg ≤ n0 ∧ dp.toNatClampNeg + q.toNatClampNeg ≤ n1), 3, [], hh.set b (.inl (0, n1, .inl (va_cpy f g sp.toNatClampNeg dp.toNatClampNeg q.toNatClampNeg))))
        | _, _ => none) else none) = _
  rw [if_pos (by decide), h1, h3]
  rfl
theorem am_hp_aal {hh : am_AH} {f : Nat → Option Nat} {n q : Nat} {j : Int32} (h1 : hh[a]? = some (.inl (3, n, .inr (.inr (.inr (.inr f)))))) (h2 : f j.toNatClampNeg = some q) : am_hp xs L .aaload [] [.int j, .ref a] hh = some (vp_in j n, 1, [.ref q], hh) := by
  unfold am_hp
  show (match hh[a]? with
    | some (.inl (3, n, .inr (.inr (.inr (.inr f))))) => (match f j.toNatClampNeg with
      | some q => some (vp_in j n, 1, [Value.ref q], hh)
      | none => none)
    | _ => none) = _
  rw [h1]
  show (match f j.toNatClampNeg with
      | some q => some (vp_in j n, 1, [Value.ref q], hh)
      | none => none) = _
  rw [h2]
theorem am_topR {u v : Nat} (e : u = v) (kk : am_X xs L k d mc ms pc lc (.ref v :: st) h c s Q) : am_X xs L k d mc ms pc lc (.ref u :: st) h c s Q := e ▸ kk
theorem am_rows_at (ha : am_sa 0 a = some n) (hn : n < 2147483648) : am_Y xs L 180 1 0 0 [.ref a, .int p] D (.inl (some (.int (am_rat (D.1 a) n p)))) D :=
  am_Yof (mi := am_m180) (lc := [.ref a, .int p]) pg180 (Nat.le_of_ble_eq_true rfl) (am_rc0 rfl) rfl (fun Q hQ => by
    unfold am_rat at hQ
    refine x_ld (v := .int p) r180_0 rfl rfl rfl ?_
    by_cases h0 : p < 0
    · rw [if_neg (fun q => Int32.not_lt.mpr q.1 h0)] at hQ
      refine x_ifltT r180_1 h0 ?_
      refine x_ic (v := -1) r180_16 rfl rfl ?_
      exact x_ret (ret := some .int) (C := True) (v := some (.int _)) r180_17 rt180 rfl rfl rfl rfl rfl rfl rfl rfl trivial hQ
    · refine x_ifltF r180_1 h0 rfl ?_
      refine x_ld (v := .int p) r180_4 rfl rfl rfl ?_
      refine x_ld (v := .ref a) r180_5 rfl rfl rfl ?_
      refine y_alen r180_6 ha rfl rfl ?_
      by_cases h1 : Int32.ofNat n ≤ p
      · rw [if_neg (fun q => Int32.not_le.mpr q.2 h1)] at hQ
        refine x_icgeT r180_7 h1 ?_
        refine x_ic (v := -1) r180_16 rfl rfl ?_
        exact x_ret (ret := some .int) (C := True) (v := some (.int _)) r180_17 rt180 rfl rfl rfl rfl rfl rfl rfl rfl trivial hQ
      · rw [if_pos (am_inI h0 h1)] at hQ
        refine x_icgeF r180_7 h1 rfl ?_
        refine x_ld (v := .ref a) r180_10 rfl rfl rfl ?_
        refine x_ld (v := .int p) r180_11 rfl rfl rfl ?_
        refine y_ial (n := n) r180_12 ha hn (am_inI h0 h1) rfl rfl ?_
        refine x_goto r180_13 ?_
        exact x_ret (ret := some .int) (C := True) (v := some (.int _)) r180_17 rt180 rfl rfl rfl rfl rfl rfl rfl rfl trivial hQ)
theorem am_rows_put (ha : am_sa 0 a = some n) (hn : n < 2147483648) (e : D' = am_rput D a n p x) : am_Y xs L 181 1 0 0 [.ref a, .int p, .int x] D (.inl none) D' :=
  am_Yof (mi := am_m181) (lc := [.ref a, .int p, .int x]) pg181 (Nat.le_of_ble_eq_true rfl) (am_rc0 rfl) rfl (fun Q hQ => by
    subst e
    unfold am_rput at hQ
    refine x_ld (v := .int p) r181_0 rfl rfl rfl ?_
    by_cases h0 : p < 0
    · rw [if_neg (fun q => Int32.not_lt.mpr q.1 h0)] at hQ
      refine x_ifltT r181_1 h0 ?_
      exact x_ret (ret := none) (C := True) (v := none) r181_14 rt181 rfl rfl rfl rfl rfl rfl rfl rfl trivial hQ
    · refine x_ifltF r181_1 h0 rfl ?_
      refine x_ld (v := .int p) r181_4 rfl rfl rfl ?_
      refine x_ld (v := .ref a) r181_5 rfl rfl rfl ?_
      refine y_alen r181_6 ha rfl rfl ?_
      by_cases h1 : Int32.ofNat n ≤ p
      · rw [if_neg (fun q => Int32.not_le.mpr q.2 h1)] at hQ
        refine x_icgeT r181_7 h1 ?_
        exact x_ret (ret := none) (C := True) (v := none) r181_14 rt181 rfl rfl rfl rfl rfl rfl rfl rfl trivial hQ
      · rw [if_pos (am_inI h0 h1)] at hQ
        refine x_icgeF r181_7 h1 rfl ?_
        refine x_ld (v := .ref a) r181_10 rfl rfl rfl ?_
        refine x_ld (v := .int p) r181_11 rfl rfl rfl ?_
        refine x_ld (v := .int x) r181_12 rfl rfl rfl ?_
        refine y_ias (n := n) r181_13 ha hn (am_inI h0 h1) rfl rfl rfl ?_
        exact x_ret (ret := none) (C := True) (v := none) r181_14 rt181 rfl rfl rfl rfl rfl rfl rfl rfl trivial hQ)
theorem am_rows_add (ha : am_sa 0 a = some n) (hn : n < 2147483648) (e : D' = am_radd D a n p x) : am_Y xs L 182 1 0 0 [.ref a, .int p, .int x] D (.inl none) D' :=
  am_Yof (mi := am_m182) (lc := [.ref a, .int p, .int x]) pg182 (Nat.le_of_ble_eq_true rfl) (am_rc0 rfl) rfl (fun Q hQ => by
    subst e
    unfold am_radd at hQ
    refine x_ld (v := .int p) r182_0 rfl rfl rfl ?_
    by_cases h0 : p < 0
    · rw [if_neg (fun q => Int32.not_lt.mpr q.1 h0)] at hQ
      refine x_ifltT r182_1 h0 ?_
      exact x_ret (ret := none) (C := True) (v := none) r182_17 rt182 rfl rfl rfl rfl rfl rfl rfl rfl trivial hQ
    · refine x_ifltF r182_1 h0 rfl ?_
      refine x_ld (v := .int p) r182_4 rfl rfl rfl ?_
      refine x_ld (v := .ref a) r182_5 rfl rfl rfl ?_
      refine y_alen r182_6 ha rfl rfl ?_
      by_cases h1 : Int32.ofNat n ≤ p
      · rw [if_neg (fun q => Int32.not_le.mpr q.2 h1)] at hQ
        refine x_icgeT r182_7 h1 ?_
        exact x_ret (ret := none) (C := True) (v := none) r182_17 rt182 rfl rfl rfl rfl rfl rfl rfl rfl trivial hQ
      · rw [if_pos (am_inI h0 h1)] at hQ
        refine x_icgeF r182_7 h1 rfl ?_
        refine x_ld (v := .ref a) r182_10 rfl rfl rfl ?_
        refine x_ld (v := .int p) r182_11 rfl rfl rfl ?_
        refine x_ar r182_12 rfl trivial rfl ?_
        refine y_ial (n := n) r182_13 ha hn (am_inI h0 h1) rfl rfl ?_
        refine x_ld (v := .int x) r182_14 rfl rfl rfl ?_
        refine x_ar r182_15 rfl trivial rfl ?_
        refine y_ias (n := n) r182_16 ha hn (am_inI h0 h1) rfl rfl rfl ?_
        exact x_ret (ret := none) (C := True) (v := none) r182_17 rt182 rfl rfl rfl rfl rfl rfl rfl rfl trivial hQ)
theorem am_fill_loop (ha : am_sa 0 a = some n) (hn : n < 2147483648) (hk : am_X xs L 183 d mc ms 18 [.ref a, .int x, am_dead] [] (am_mk (am_rfill D a n x)) 0 0 Q) : ∀ (t i : Nat) (E : am_D), i + t = n → E = am_uR D a (fun j => if j < i then x else D.1 a j) → am_X xs L 183 d mc ms 2 [.ref a, .int x, .int (Int32.ofNat i)] [] (am_mk E) 0 0 Q
  | t, i, E, hi, hE => by
    have hti : (Int32.ofNat i).toInt = (i : Int) := am_i32 (by omega)
    have htn : (Int32.ofNat n).toInt = (n : Int) := am_i32 hn
    refine x_ld (v := .int (Int32.ofNat i)) r183_2 rfl rfl rfl ?_
    refine x_ld (v := .ref a) r183_3 rfl rfl rfl ?_
    refine y_alen r183_4 ha rfl rfl ?_
    match t with
    | 0 =>
      have hin : i = n := by omega
      subst hin
      refine x_icgeT r183_5 (Int32.le_refl _) ?_
      refine x_forget (lc0 := [.ref a, .int x, am_dead]) ⟨Or.inl rfl, Or.inl rfl, Or.inr ⟨rfl, rfl⟩, trivial⟩ ?_
      rw [hE]
      exact hk
    | t + 1 =>
      refine x_icgeF r183_5 (by rw [Int32.le_iff_toInt_le, hti, htn]; omega) rfl ?_
      refine x_ld (v := .ref a) r183_8 rfl rfl rfl ?_
      refine x_ld (v := .int (Int32.ofNat i)) r183_9 rfl rfl rfl ?_
      refine x_ld (v := .int x) r183_10 rfl rfl rfl ?_
      refine y_ias (n := n) (e := i) r183_11 ha hn ⟨by rw [Int32.le_iff_toInt_le, hti]; show (0 : Int) ≤ _; omega, by rw [Int32.lt_iff_toInt_lt, hti, htn]; omega⟩ (by show (Int32.ofNat i).toInt.toNat = i; rw [hti]; rfl) rfl rfl ?_
      refine x_sto (lc' := [.ref a, .int x, .int (Int32.ofNat (i + 1))]) r183_12 rfl rfl (by rw [inc_ofNat]; rfl) rfl ?_
      refine x_goto r183_15 ?_
      refine am_fill_loop ha hn hk t (i + 1) _ (by omega) ?_
      rw [hE]
      unfold am_uI am_uR
      dsimp only
      congr 1
      funext b' j
      by_cases hb : b' = a
      · subst hb
        by_cases hj : j = i
        · subst hj; simp
        · simp only [hj, and_false, if_false, if_true, true_and]
          by_cases h1 : j < i
          · rw [if_pos h1, if_pos (by omega)]
          · rw [if_neg h1, if_neg (by omega)]
      · simp [hb]
theorem am_rows_fill (ha : am_sa 0 a = some n) (hn : n < 2147483648) (e : D' = am_rfill D a n x) : am_Y xs L 183 1 0 0 [.ref a, .int x] D (.inl none) D' :=
  am_Yof (mi := am_m183) (lc := [.ref a, .int x, am_dead]) pg183 (Nat.le_of_ble_eq_true rfl) (am_rc0 rfl) rfl (fun Q hQ => by
    subst e
    refine x_ic (v := 0) r183_0 rfl rfl ?_
    refine x_sto (lc' := [.ref a, .int x, .int 0]) r183_1 rfl rfl rfl rfl ?_
    refine am_fill_loop (D := D) ha hn ?_ n 0 D (by omega) ?_
    · exact x_ret (ret := none) (C := True) (v := none) r183_18 rt183 rfl rfl rfl rfl rfl rfl rfl rfl trivial hQ
    · refine Prod.ext (funext fun b' => funext fun j => ?_) rfl
      show D.1 b' j = if b' = a then (if j < 0 then x else D.1 a j) else D.1 b' j
      by_cases hb : b' = a
      · subst hb; simp
      · simp [hb])
theorem am_min32 {n m : Nat} (hn : n < 2147483648) (hm : m < 2147483648) : (if Int32.ofNat m < Int32.ofNat n then Int32.ofNat m else Int32.ofNat n) = Int32.ofNat (min n m) := by
  by_cases h : m < n
  · rw [if_pos (by rw [Int32.lt_iff_toInt_lt, am_i32 hn, am_i32 hm]; omega), Nat.min_eq_right (by omega)]
  · rw [if_neg (by rw [Int32.lt_iff_toInt_lt, am_i32 hn, am_i32 hm]; omega), Nat.min_eq_left (by omega)]
theorem am_uR_row (D : am_D) (a : Nat) (f : Nat → Int32) : (am_uR D a f).1 a = f := by
  funext i
  show (if a = a then f i else D.1 a i) = f i
  rw [if_pos rfl]
theorem am_rows_copy (ha : am_sa 0 a = some n) (hb : am_sa 0 b = some m) (hn : n < 2147483648) (hm : m < 2147483648) (e : D' = am_rcopy D a b n m) : am_Y xs L 184 1 0 0 [.ref a, .ref b] D (.inl none) D' :=
  am_Yof (mi := am_m184) (lc := [.ref a, .ref b]) pg184 (Nat.le_of_ble_eq_true rfl) (am_rc0 rfl) rfl (fun Q hQ => by
    subst e
    have hmin : min n m < 2147483648 := by omega
    have ht : (Int32.ofNat (min n m)).toNatClampNeg = min n m := by show (Int32.ofNat (min n m)).toInt.toNat = _; rw [am_i32 hmin]; rfl
    refine x_ld (v := .ref a) r184_0 rfl rfl rfl ?_
    refine x_ic (v := 0) r184_1 rfl rfl ?_
    refine x_ld (v := .ref b) r184_2 rfl rfl rfl ?_
    refine x_ic (v := 0) r184_3 rfl rfl ?_
    refine x_ld (v := .ref a) r184_4 rfl rfl rfl ?_
    refine y_alen r184_5 ha rfl rfl ?_
    refine x_ld (v := .ref b) r184_6 rfl rfl rfl ?_
    refine y_alen r184_7 hb rfl rfl ?_
    refine x_sp (C := True) (n := 3) (st' := [.int (Int32.ofNat (min n m)), .int 0, .ref b, .int 0, .ref a]) r184_8 rfl rfl rfl rfl rfl (by
      rw [← am_min32 hn hm]
      rfl) trivial rfl ?_
    obtain ⟨f, h1, h2⟩ := am_mkA (D := D) ha
    obtain ⟨g, h3, h4⟩ := am_mkA (D := D) hb
    refine x_sp (C := (¬ (0 : Int32) < 0 ∧ ¬ (0 : Int32) < 0 ∧ ¬ Int32.ofNat (min n m) < 0 ∧ (0 : Int32).toNatClampNeg + (Int32.ofNat (min n m)).toNatClampNeg ≤ n ∧ (0 : Int32).toNatClampNeg + (Int32.ofNat (min n m)).toNatClampNeg ≤ m)) (n := 3) (st' := []) (h' := am_mk (am_rcopy D a b n m)) r184_11 rfl rfl rfl rfl rfl ?_ ?_ rfl ?_
    · rw [am_sp_copy h1 h3]
      rw [ht, am_mk_set (D := D) (E := am_rcopy D a b n m) h4 (by show Sum.inl _ = Sum.inl _; unfold am_rcopy; rw [am_uR_row]; rfl) (fun b' hb' => am_uR_ne hb')]
    · refine ⟨by decide, by decide, ?_, ?_, ?_⟩
      · rw [Int32.lt_iff_toInt_lt, am_i32 hmin]
        show ¬ (_ : Int) < 0
        omega
      · rw [ht]; show 0 + _ ≤ _; omega
      · rw [ht]; show 0 + _ ≤ _; omega
    · exact x_ret (ret := none) (C := True) (v := none) r184_14 rt184 rfl rfl rfl rfl rfl rfl rfl rfl trivial hQ)
/-- the place of a saved table in the ring -/
def m170 (D : am_D) (v1 : Int32) : Option Nat := am_lt ((D.1 23 1 + v1) - (D.1 23 1 + v1) / 6 * 6) fun p => (if 0 ≤ v1 ∧ (0 ≤ p ∧ p < 6) then some p.toNatClampNeg else none)
theorem am_sv_at : ∀ i : Nat, i < 6 → am_svf i = some (25 + 11 * i) := by decide +kernel
theorem m170_ok {v1 : Int32} {i : Nat} (h : m170 D v1 = some i) : am_Y xs L 170 1 0 0 [.ref 23, .int v1] D (.inl (some (.ref (25 + 11 * i)))) D :=
  am_Yof (mi := am_m170) (lc := [.ref 23, .int v1, am_dead]) pg170 (Nat.le_of_ble_eq_true rfl) (am_rc1 (ci := 1) rfl rfl rfl rfl rfl) rfl (fun Q hQ => by
    unfold m170 at h
    obtain ⟨p, ep, h⟩ := am_ltE h
    obtain ⟨⟨c0, c1, c2⟩, h⟩ := am_gdE h
    cases h
    refine x_ld (v := .ref 23) r170_0 rfl rfl rfl ?_
    refine y_gf (cd := 0) (v := .int (D.1 23 1)) r170_1 rfl rfl rfl ?_
    refine x_ld (v := .int v1) r170_4 rfl rfl rfl ?_
    refine x_ar r170_5 rfl trivial rfl ?_
    refine x_bi (v := 6) r170_6 rfl rfl ?_
    refine x_ar r170_8 rfl (by decide) rfl ?_
    refine am_topI ep ?_
    refine x_sto (lc' := [.ref 23, .int v1, .int p]) r170_9 rfl rfl rfl rfl ?_
    refine x_ld (v := .int v1) r170_10 rfl rfl rfl ?_
    refine x_ifltF r170_11 (Int32.not_lt.mpr c0) rfl ?_
    refine x_ld (v := .int p) r170_14 rfl rfl rfl ?_
    refine x_ifltF r170_15 (Int32.not_lt.mpr c1) rfl ?_
    refine x_ld (v := .int p) r170_18 rfl rfl rfl ?_
    refine x_ld (v := .ref 23) r170_19 rfl rfl rfl ?_
    refine y_gf (cd := 26) (v := .ref 24) r170_20 rfl rfl rfl ?_
    refine y_alen (tag := 3) (n := 6) (v := 6) r170_23 rfl rfl rfl ?_
    refine x_icgeF r170_24 (Int32.not_le.mpr c2) rfl ?_
    refine x_ld (v := .ref 23) r170_27 rfl rfl rfl ?_
    refine y_gf (cd := 26) (v := .ref 24) r170_28 rfl rfl rfl ?_
    refine x_ld (v := .int p) r170_31 rfl rfl rfl ?_
    have hin : vp_in p 6 := am_vin (by decide) ⟨c1, c2⟩
    have hlt : p.toNatClampNeg < 6 := Nat.not_le.mp fun q => hin (Or.inr q)
    refine x_hp r170_32 rfl rfl rfl rfl (C := vp_in p 6) (n := 1) (st' := [.ref (25 + 11 * p.toNatClampNeg)]) (h' := am_mk D) ?_ hin rfl ?_
    · exact am_hp_aal (f := am_svf) (n := 6) (by rw [am_mk_at]; rfl) (am_sv_at _ hlt)
    · refine x_goto r170_33 ?_
      exact x_ret (ret := some (.object "ClockDominoes$Table")) (C := True) (v := some (.ref _)) r170_37 rt170 rfl rfl rfl rfl rfl rfl rfl rfl trivial hQ)
end XR
