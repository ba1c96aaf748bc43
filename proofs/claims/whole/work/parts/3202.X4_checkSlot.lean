
set_option maxHeartbeats 4000000 in
set_option maxRecDepth 100000 in
theorem x_X4_checkSlot (l : Launch) (hl9 : l.stackTraces = false) (D : va_G) (k4 : Nat → ClassId) (k : Int) (hk : -2147483648 ≤ k ∧ k ≤ 2147483647 ∧ (k < 0 ∨ 47 < k)) : zCX l yX4_checkSlot (zW yX4_checkSlot cX4_checkSlot 1 none) ({ frames := 7, cells := 1, slots := 6, locals := 103 } : Room) D k4 [.int (iI (k))] [] "java/lang/IndexOutOfBoundsException" := by
  refine zCX_of (cc := cX4_checkSlot) (by decide) (Nat.le_of_ble_eq_true rfl) (fun pp ee ss mm bl me co AA H locs ls E X G hl => ?_)
  have hl : lv_has ls 1 [(0, .int (iI (k)))] := hl
  refine z_iload_n E hl 0 rfl dX4_checkSlot_0 rfl ?_
  refine z_bipush E dX4_checkSlot_1 (by decide) ?_
  exact z_thrS E X G hl.1 (x_X4_checkIndex l hl9 D k4 k 48 (by omega)) kS_X4_165 ⟨rfl, rfl, Nat.le_of_ble_eq_true rfl, Nat.le_of_ble_eq_true rfl⟩ [] rfl (by decide) rfl rfl (Nat.le_of_ble_eq_true rfl) dX4_checkSlot_3 ⟨Nat.le_of_ble_eq_true rfl, Nat.le_of_ble_eq_true rfl⟩ rfl rfl

