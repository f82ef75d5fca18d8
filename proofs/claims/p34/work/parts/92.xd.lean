/-! the law: the start -/
section XD
variable {xs : Nat → Int32} {L N d mc ms c s : Nat} {D : am_D} {t : am_AH} {Q : am_O → am_AH → Prop}
def z_0 : Nat → Int32 := fun _ => 0
def z_fl : List (Nat → Int32) := [z_0, (fun j => if j = 7 then -1 else if j = 8 then -1 else if j = 9 then -1 else if j = 10 then 20 else 0), (fun j => if j = 5 then -1 else if j = 6 then -1 else 0), z_0, z_0, z_0, z_0, (z_fv 28), z_0, z_0, z_0, z_0, (fun j => if j = 7 then -1 else if j = 8 then -1 else if j = 9 then -1 else if j = 10 then 20 else 0), (fun j => if j = 5 then -1 else if j = 6 then -1 else 0), z_0, z_0, z_0, z_0, (z_fv 28), z_0, z_0, z_0, z_0, z_0, z_0, (fun j => if j = 7 then -1 else if j = 8 then -1 else if j = 9 then -1 else if j = 10 then 20 else 0), (fun j => if j = 5 then -1 else if j = 6 then -1 else 0), z_0, z_0, z_0, z_0, (z_fv 28), z_0, z_0, z_0, z_0, (fun j => if j = 7 then -1 else if j = 8 then -1 else if j = 9 then -1 else if j = 10 then 20 else 0), (fun j => if j = 5 then -1 else if j = 6 then -1 else 0), z_0, z_0, z_0, z_0, (z_fv 28), z_0, z_0, z_0, z_0, (fun j => if j = 7 then -1 else if j = 8 then -1 else if j = 9 then -1 else if j = 10 then 20 else 0), (fun j => if j = 5 then -1 else if j = 6 then -1 else 0), z_0, z_0, z_0, z_0, (z_fv 28), z_0, z_0, z_0, z_0, (fun j => if j = 7 then -1 else if j = 8 then -1 else if j = 9 then -1 else if j = 10 then 20 else 0), (fun j => if j = 5 then -1 else if j = 6 then -1 else 0), z_0, z_0, z_0, z_0, (z_fv 28), z_0, z_0, z_0, z_0, (fun j => if j = 7 then -1 else if j = 8 then -1 else if j = 9 then -1 else if j = 10 then 20 else 0), (fun j => if j = 5 then -1 else if j = 6 then -1 else 0), z_0, z_0, z_0, z_0, (z_fv 28), z_0, z_0, z_0, z_0, (fun j => if j = 7 then -1 else if j = 8 then -1 else if j = 9 then -1 else if j = 10 then 20 else 0), (fun j => if j = 5 then -1 else if j = 6 then -1 else 0), z_0, z_0, z_0, z_0, (z_fv 28), z_0, z_0, z_0, z_0, z_0, z_0, z_0, z_0, z_0, z_0, z_0, z_0, z_0, z_0, z_0, z_0, z_0, z_0, z_0]
def z_D : am_D := (fun a => z_fl.getD a z_0, fun a => if a = 98 then z_bt 484 else fun _ => 0, fun _ _ => 0)
set_option maxRecDepth 100000 in
set_option maxHeartbeats 4000000 in
theorem z_mk : am_mk z_D = [] ++ z_G 0 := rfl
def z_s0 : Nat → Int32 := fun j => if 25 ≤ j ∧ j < 53 then 5 else if j = 2 then -1 else if j = 3 then 20 else if j = 5 then -1 else 0
theorem z_P {t : Nat} (ht : t < 28) : z_s0 (25 + t) = 5 := by
  unfold z_s0
  rw [if_pos (by omega)]
theorem z_cnt {h : Nat} (hh : h < 4) : q_cnt (fun t => z_s0 (25 + t)) (Int32.ofNat h) ≤ 7 := by
  have : q_cnt (fun t => z_s0 (25 + t)) (Int32.ofNat h) = 0 := by
    rw [q_cnt_def, q_S_zero]
    intro t _ ht
    show (if z_s0 (25 + t) = Int32.ofNat h then 1 else 0) = 0
    rw [z_P (by omega), if_neg (show ¬ (5 : Int32) = Int32.ofNat h from fun q => absurd (q_ofN (a := 5) (b := h) (by omega) (by omega) q) (by omega))]
  omega
set_option maxRecDepth 10000 in
theorem z_C : q_C4 (q_c z_D 1) z_s0 0 0 (fun _ => 0) (fun _ => 0) := by
  refine ⟨⟨by omega, rfl, rfl, fun k hk => by omega, fun j k hj => by omega, fun t ht => ⟨fun q => ?_, fun ⟨k, hk, _⟩ => by omega⟩, rfl, rfl⟩, fun t ht => ⟨?_, 5, by omega, z_P ht⟩, fun h hh => ?_, ⟨⟨by omega, rfl, rfl, fun _ => rfl, fun q => absurd rfl q⟩, ⟨0, by omega, rfl, rfl⟩, Or.inl ⟨rfl, by omega⟩, rfl, rfl, Or.inl rfl, rfl, ⟨20, by omega, by omega, rfl⟩, rfl, ⟨0, by omega, fun _ => by omega, rfl⟩, rfl, rfl, rfl, rfl, rfl, rfl⟩⟩
  · rw [z_P ht] at q
    exact absurd q (by decide)
  · rw [z_P ht]
    show z_fv 28 t = 5
    unfold z_fv
    rw [if_pos ht]
  · have hc := z_cnt hh
    obtain rfl | rfl | rfl | rfl : h = 0 ∨ h = 1 ∨ h = 2 ∨ h = 3 := by omega
    · exact ⟨rfl, rfl, rfl, ⟨0, by omega, rfl⟩, ⟨0, by omega, rfl⟩, hc⟩
    · exact ⟨rfl, rfl, rfl, ⟨0, by omega, rfl⟩, ⟨0, by omega, rfl⟩, hc⟩
    · exact ⟨rfl, rfl, rfl, ⟨0, by omega, rfl⟩, ⟨0, by omega, rfl⟩, hc⟩
    · exact ⟨rfl, rfl, rfl, ⟨0, by omega, rfl⟩, ⟨0, by omega, rfl⟩, hc⟩
theorem z_I : u_I (u_gh z_D) := by
  refine u_gh_I (u_C_of z_C ⟨fun k hk => by omega, ⟨fun _ => 0, fun k hk => by omega, fun j k hj => by omega⟩, fun k hk => by omega, fun h t hh ht q => ?_, fun _ h hh => ?_⟩) (fun q => ?_) (Or.inl rfl) ⟨0, 0, by omega, by omega, rfl, rfl, fun j hj => by omega⟩ (fun f hf t ht => ?_)
  · exact u_can0 t
  · rfl
  · have : (0 : Int32) = 1 := q
    exact absurd this (by decide)
  · show z_bt 484 (f * 22 + t) = _
    unfold z_bt
    rw [if_pos (by omega), show (f * 22 + t) / 22 = f by omega, show (f * 22 + t) % 22 = t by omega]
theorem law_all (hL : L ≤ 2560) (hQ : ∀ h, Q (.inl (some (.int 1))) h) : am_X xs L 287 60 1000 10000 0 [.ref 1000002, am_dead, am_dead, am_dead, am_dead, am_dead, am_dead, am_dead, am_dead, am_dead, am_dead, am_dead, am_dead] [] [] 0 0 Q := by
  obtain ⟨N, hN⟩ : ∃ N, 2000 ≤ N := ⟨2000, by omega⟩
  refine z_new (n := 0) (e := c_O 7 [.null, .null, .null, .null, .null, .null, .null, .int 0]) (z := 8) r287_0 rfl rfl (by decide) (z_sc_nil 0) (nv_b (by decide) (nv_d (nv_d (nv_d (nv_d (nv_d (nv_d (nv_d (nv_d (nv_d (nv_d (nv_d (nv_d (nv_n)))))))))))))) nv_n rfl rfl (Nat.le_of_ble_eq_true rfl) (Nat.le_of_ble_eq_true rfl) (h' := [] ++ [c_O 7 [.null, .null, .null, .null, .null, .null, .null, .int 0]]) rfl rfl ?_
  refine x_ar r287_3 rfl trivial rfl ?_
  refine z_call (n := 1) (as := [.ref 0]) (rest := [.ref 0]) (h' := [] ++ z_G 0) r287_4 rfl rfl rfl (by decide) (Nat.le_of_ble_eq_true rfl) (k0 (P := []) (a := 0) rfl (by decide) (z_sc_nil 0)) (by decide) (Nat.le_of_ble_eq_true rfl) (Nat.le_of_ble_eq_true rfl) rfl (sc_r (by decide) (sc_d (sc_d (sc_d (sc_d (sc_d (sc_d (sc_d (sc_d (sc_d (sc_d (sc_d (sc_d (sc_n)))))))))))))) (sc_r (by decide) sc_n) rfl ?_
  rw [show [] ++ z_G 0 = am_mk (u_gh z_D) ++ [] by rw [List.append_nil, u_gh_mk, z_mk]]
  refine x_sto (lc' := [.ref 1000002, .ref 0, am_dead, am_dead, am_dead, am_dead, am_dead, am_dead, am_dead, am_dead, am_dead, am_dead, am_dead]) (st' := []) r287_7 rfl rfl rfl rfl ?_
  obtain ⟨D', e1, e2, e3, -⟩ := a_keep z_I
  have hY := m15_ok (xs := xs) (L := L) e1
  have e24 : (u_gh z_D).1 2 4 = 0 := by
    rw [u_gh_c (by omega)]
    rfl
  refine x_ld (v := .ref 0) r287_8 rfl rfl rfl ?_
  refine x_lcd (as := [.ref 0]) (rest := []) (d0 := 4) (by omega) r287_9 rfl rfl rfl (by decide) (by decide) (by decide) (Nat.le_of_ble_eq_true rfl) (Nat.le_of_ble_eq_true rfl) hY rfl ?_
  rw [← u_gh_mk D']
  refine x_ifneT r287_12 e24 rfl ?_
  refine x_ld (v := .ref 0) r287_15 rfl rfl rfl ?_
  refine law_holds hN e2 (by decide) z_is_nil (by decide) r287_16 (sc_r (Or.inr (by decide)) (sc_r (Or.inl (by decide)) (sc_d (sc_d (sc_d (sc_d (sc_d (sc_d (sc_d (sc_d (sc_d (sc_d (sc_d sc_n))))))))))))) (Nat.le_of_ble_eq_true rfl) (Nat.le_of_ble_eq_true rfl) rfl fun D2 t' h1 h2 h3 h4 => ?_
  refine x_ifeqF r287_19 (show ¬ (1 : Int32) = 0 by decide) rfl ?_
  refine x_ic (v := 1) r287_22 rfl rfl ?_
  refine x_goto r287_23 ?_
  refine x_sto (lc' := [.ref 1000002, .ref 0, .int 1, am_dead, am_dead, am_dead, am_dead, am_dead, am_dead, am_dead, am_dead, am_dead, am_dead]) (st' := []) r287_27 rfl rfl rfl rfl ?_
  refine x_ic (v := Int32.ofNat 0) r287_28 rfl rfl ?_
  refine x_sto (lc' := lc0 0) (st' := []) r287_29 rfl rfl rfl rfl ?_
  exact law_loop hL hN (by decide) hQ 84 0 D2 t' _ _ (by omega) h1 (by rw [h2.1 0 (by omega)]; exact e3) h3 (by rw [h4]; exact Nat.le_refl _) (Nat.le_of_ble_eq_true rfl) (Nat.le_of_ble_eq_true rfl)
end XD
