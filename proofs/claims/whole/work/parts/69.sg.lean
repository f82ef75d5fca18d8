/-! the first heap as data; what holds at the start -/
section SG
def z_0 : Nat → Int32 := fun _ => 0
def z_fl : List (Nat → Int32) := [z_0, (fun j => if j = 7 then -1 else if j = 8 then -1 else if j = 9 then -1 else if j = 10 then 20 else 0), (fun j => if j = 5 then -1 else if j = 6 then -1 else 0), z_0, z_0, z_0, z_0, (z_fv 28), z_0, z_0, z_0, z_0, (fun j => if j = 7 then -1 else if j = 8 then -1 else if j = 9 then -1 else if j = 10 then 20 else 0), (fun j => if j = 5 then -1 else if j = 6 then -1 else 0), z_0, z_0, z_0, z_0, (z_fv 28), z_0, z_0, z_0, z_0, z_0, z_0, (fun j => if j = 7 then -1 else if j = 8 then -1 else if j = 9 then -1 else if j = 10 then 20 else 0), (fun j => if j = 5 then -1 else if j = 6 then -1 else 0), z_0, z_0, z_0, z_0, (z_fv 28), z_0, z_0, z_0, z_0, (fun j => if j = 7 then -1 else if j = 8 then -1 else if j = 9 then -1 else if j = 10 then 20 else 0), (fun j => if j = 5 then -1 else if j = 6 then -1 else 0), z_0, z_0, z_0, z_0, (z_fv 28), z_0, z_0, z_0, z_0, (fun j => if j = 7 then -1 else if j = 8 then -1 else if j = 9 then -1 else if j = 10 then 20 else 0), (fun j => if j = 5 then -1 else if j = 6 then -1 else 0), z_0, z_0, z_0, z_0, (z_fv 28), z_0, z_0, z_0, z_0, (fun j => if j = 7 then -1 else if j = 8 then -1 else if j = 9 then -1 else if j = 10 then 20 else 0), (fun j => if j = 5 then -1 else if j = 6 then -1 else 0), z_0, z_0, z_0, z_0, (z_fv 28), z_0, z_0, z_0, z_0, (fun j => if j = 7 then -1 else if j = 8 then -1 else if j = 9 then -1 else if j = 10 then 20 else 0), (fun j => if j = 5 then -1 else if j = 6 then -1 else 0), z_0, z_0, z_0, z_0, (z_fv 28), z_0, z_0, z_0, z_0, (fun j => if j = 7 then -1 else if j = 8 then -1 else if j = 9 then -1 else if j = 10 then 20 else 0), (fun j => if j = 5 then -1 else if j = 6 then -1 else 0), z_0, z_0, z_0, z_0, (z_fv 28), z_0, z_0, z_0, z_0, z_0, z_0, z_0, z_0, z_0, z_0, z_0, z_0, z_0, z_0, z_0, z_0, z_0, z_0, z_0, z_0, (z_m7 28), z_0, (z_lo 28), (z_hi 28), z_0, z_0, z_0, z_0, z_0, z_0, z_0, z_0, z_0, z_0, z_0, z_0, z_0]
def z_D : am_D := (fun a => z_fl.getD a z_0, fun a => if a = 98 then z_bt 484 else fun _ => 0, fun _ _ => 0)
-- longs at [97, 98]
set_option maxRecDepth 100000 in
set_option maxHeartbeats 4000000 in
theorem z_mk : am_mk z_D = (([] ++ z_G 0) ++ z_Mo 106) ++ [c_J 1 (fun _ => 0)] ++ [c_K 1 (fun _ => 0)] := rfl
theorem z_P {t : Nat} (ht : t < 28) : q_s z_D 0 (25 + t) = 5 := by
  show z_m7 28 (25 + t + 165 * 0) = 5
  unfold z_m7
  rw [if_pos (by omega)]
theorem z_cnt {h : Nat} (hh : h < 4) : q_cnt (fun t => q_s z_D 0 (25 + t)) (Int32.ofNat h) ≤ 7 := by
  have : q_cnt (fun t => q_s z_D 0 (25 + t)) (Int32.ofNat h) = 0 := by
    rw [q_cnt_def, q_S_zero]
    intro t _ ht
    show (if q_s z_D 0 (25 + t) = Int32.ofNat h then 1 else 0) = 0
    rw [z_P (by omega), if_neg (show ¬ (5 : Int32) = Int32.ofNat h from fun q => absurd (q_ofN (a := 5) (b := h) (by omega) (by omega) q) (by omega))]
  omega
set_option maxRecDepth 10000 in
theorem z_C : q_C (q_c z_D 1) (q_s z_D 0) := by
  refine ⟨0, 0, fun _ => 0, fun _ => 0, ⟨by omega, rfl, rfl, fun k hk => by omega, fun j k hj => by omega, fun t ht => ⟨fun q => ?_, fun ⟨k, hk, _⟩ => by omega⟩, rfl, rfl⟩, fun t ht => ⟨?_, 5, by omega, z_P ht⟩, fun h hh => ?_, ⟨⟨by omega, rfl, rfl, fun _ => rfl, fun q => absurd rfl q⟩, ⟨0, by omega, rfl, rfl⟩, Or.inl ⟨rfl, by omega⟩, rfl, rfl, Or.inl rfl, rfl, ⟨20, by omega, by omega, rfl⟩, rfl, ⟨0, by omega, fun _ => by omega, rfl⟩, rfl, rfl, rfl, rfl, rfl, rfl⟩⟩
  · rw [z_P ht] at q
    exact absurd q (by decide)
  · rw [z_P ht]
    show z_fv 28 t = 5
    unfold z_fv
    rw [if_pos ht]
  · have hc := z_cnt hh
    obtain rfl | rfl | rfl | rfl : h = 0 ∨ h = 1 ∨ h = 2 ∨ h = 3 := by omega
    · exact ⟨rfl, rfl, rfl, ⟨0, by omega, rfl⟩, ⟨0, by omega, rfl⟩, hc⟩
    · exact ⟨rfl, rfl, rfl, ⟨0, by omega, rfl⟩, ⟨0, by omega, rfl⟩, hc⟩
    · exact ⟨rfl, rfl, rfl, ⟨0, by omega, rfl⟩, ⟨0, by omega, rfl⟩, hc⟩
    · exact ⟨rfl, rfl, rfl, ⟨0, by omega, rfl⟩, ⟨0, by omega, rfl⟩, hc⟩
theorem z_I : q_I z_D := by
  refine ⟨fun t ht => ⟨?_, ?_⟩, z_C, ⟨rfl, Or.inl rfl, fun q => absurd q (by decide)⟩, ⟨0, 0, by omega, by omega, rfl, rfl, rfl, fun j hj => by omega⟩, ⟨0, by omega, rfl, rfl, fun k hk => by omega⟩, fun f hf t ht => ?_⟩
  · show z_lo 28 t = _
    unfold z_lo
    rw [if_pos ht]
  · show z_hi 28 t = _
    unfold z_hi
    rw [if_pos ht]
  · show z_bt 484 (f * 22 + t) = _
    unfold z_bt
    rw [if_pos (by omega), show (f * 22 + t) / 22 = f by omega, show (f * 22 + t) % 22 = t by omega]
end SG
