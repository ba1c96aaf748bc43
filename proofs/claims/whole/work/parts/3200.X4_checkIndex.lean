
set_option maxHeartbeats 4000000 in
set_option maxRecDepth 100000 in
theorem x_X4_checkIndex (l : Launch) (hl9 : l.stackTraces = false) (D : va_G) (k4 : Nat → ClassId) (i c9 : Int) (hi : -2147483648 ≤ i ∧ i ≤ 2147483647 ∧ 0 ≤ c9 ∧ c9 ≤ 1000 ∧ (i < 0 ∨ c9 ≤ i)) : zCX l yX4_checkIndex (zW yX4_checkIndex cX4_checkIndex 2 none) ({ frames := 6, cells := 1, slots := 6, locals := 82 } : Room) D k4 [.int (iI (i)), .int (iI (c9))] [] "java/lang/IndexOutOfBoundsException" := by
  refine zCX_of (cc := cX4_checkIndex) (by decide) (Nat.le_of_ble_eq_true rfl) (fun pp ee ss mm bl me co AA H locs ls E X G hl => ?_)
  have hl : lv_has ls 2 [(0, .int (iI (i))), (1, .int (iI (c9)))] := hl
  refine z_iload_n E hl 0 rfl dX4_checkIndex_0 rfl ?_
  refine z_if_lt (tgt := 9) E dX4_checkIndex_1 (by decide) ⟨by omega, by omega⟩ (fun c_1 => ?_) (fun c_1 => ?_)
  · skip
    exact z_throw E hl9 X.1 X.2.1 G hl.1 (ik := 222) (is := 224) (ic := 226) (text := "there is nothing of this number") zXk1 zXi1 zXf1 (by decide) zB_all1 zXn1 zOt1 dX4_checkIndex_9 dX4_checkIndex_12 dX4_checkIndex_13 dX4_checkIndex_15 dX4_checkIndex_18 X.2.2.1 X.2.2.2 (Nat.le_of_ble_eq_true rfl) (Nat.le_of_ble_eq_true rfl) (Nat.le_of_ble_eq_true rfl) (Nat.le_of_ble_eq_true rfl) rfl rfl
  · skip
    refine z_iload_n E hl 0 rfl dX4_checkIndex_4 rfl ?_
    refine z_iload_n E hl 1 rfl dX4_checkIndex_5 rfl ?_
    refine z_icmp_lt (tgt := 19) E dX4_checkIndex_6 (by decide) ⟨by omega, by omega⟩ ⟨by omega, by omega⟩ (fun c_6 => absurd c_6 (by omega)) (fun c_6 => ?_)
    exact z_throw E hl9 X.1 X.2.1 G hl.1 (ik := 222) (is := 224) (ic := 226) (text := "there is nothing of this number") zXk1 zXi1 zXf1 (by decide) zB_all1 zXn1 zOt1 dX4_checkIndex_9 dX4_checkIndex_12 dX4_checkIndex_13 dX4_checkIndex_15 dX4_checkIndex_18 X.2.2.1 X.2.2.2 (Nat.le_of_ble_eq_true rfl) (Nat.le_of_ble_eq_true rfl) (Nat.le_of_ble_eq_true rfl) (Nat.le_of_ble_eq_true rfl) rfl rfl

