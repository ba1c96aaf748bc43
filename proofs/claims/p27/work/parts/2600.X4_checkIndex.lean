def q_c_X4_checkIndex (k4 : Nat → ClassId) (i c9 : Int) : Option Value → va_W → Prop := (fun (v9 : Option Value) (w9 : va_W) => v9 = none ∧ w9 = [])
set_option maxHeartbeats 4000000 in
set_option maxRecDepth 100000 in
theorem c_X4_checkIndex (l : Launch) (D : va_G) (k4 : Nat → ClassId) (i c9 : Int) (hi : 0 ≤ i ∧ i < c9 ∧ c9 ≤ 1000) : zC l yX4_checkIndex (zW yX4_checkIndex cX4_checkIndex 2 none) ({ frames := 0, cells := 0, slots := 0, locals := 0 } : Room) D k4 [.int (iI (i)), .int (iI (c9))] [] (0) (0) (q_c_X4_checkIndex k4 i c9) := by
  refine zC_of (cc := cX4_checkIndex) (by decide) (Nat.le_of_ble_eq_true rfl) (fun pp ee ss mm bl me co AA H locs ls E hr hlocks hin G hl => ?_)
  have hl : lv_has ls 2 [(0, .int (iI (i))), (1, .int (iI (c9)))] := hl
  refine z_iload_n E hl 0 rfl dX4_checkIndex_0 rfl ?_
  refine z_if_lt (tgt := 9) E dX4_checkIndex_1 (by decide) ⟨by omega, by omega⟩ (fun c_1 => absurd c_1 (by omega)) (fun c_1 => ?_)
  refine z_iload_n E hl 0 rfl dX4_checkIndex_4 rfl ?_
  refine z_iload_n E hl 1 rfl dX4_checkIndex_5 rfl ?_
  refine z_icmp_lt (tgt := 19) E dX4_checkIndex_6 (by decide) ⟨by omega, by omega⟩ ⟨by omega, by omega⟩ (fun c_6 => ?_) (fun c_6 => absurd c_6 (by omega))
  exact z_vret (w' := []) E hr hlocks G dX4_checkIndex_19 (by omega) (by omega) (zx0 rfl) ⟨rfl, rfl⟩

