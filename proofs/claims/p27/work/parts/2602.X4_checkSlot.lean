def q_c_X4_checkSlot (k4 : Nat → ClassId) (k : Nat) : Option Value → va_W → Prop := (fun (v9 : Option Value) (w9 : va_W) => v9 = none ∧ w9 = [])
set_option maxHeartbeats 4000000 in
set_option maxRecDepth 100000 in
theorem c_X4_checkSlot (l : Launch) (D : va_G) (k4 : Nat → ClassId) (k : Nat) (hk : k < 48) : zC l yX4_checkSlot (zW yX4_checkSlot cX4_checkSlot 1 none) ({ frames := 1, cells := 0, slots := 0, locals := 21 } : Room) D k4 [.int (iI (((k : Nat) : Int)))] [] (0) (0) (q_c_X4_checkSlot k4 k) := by
  refine zC_of (cc := cX4_checkSlot) (by decide) (Nat.le_of_ble_eq_true rfl) (fun pp ee ss mm bl me co AA H locs ls E hr hlocks hin G hl => ?_)
  have hl : lv_has ls 1 [(0, .int (iI (((k : Nat) : Int))))] := hl
  refine z_iload_n E hl 0 rfl dX4_checkSlot_0 rfl ?_
  refine z_bipush E dX4_checkSlot_1 (by decide) ?_
  refine z_callS E G hl.1 (c_X4_checkIndex l D k4 (((k : Nat) : Int)) 48 (by omega)) kS_X4_165 ⟨rfl, rfl, Nat.le_of_ble_eq_true rfl, Nat.le_of_ble_eq_true rfl⟩ [] rfl (by decide) rfl rfl (Nat.le_of_ble_eq_true rfl) dX4_checkSlot_3 ⟨by first | exact Nat.le_of_ble_eq_true rfl | omega, by first | exact Nat.le_of_ble_eq_true rfl | omega⟩ (fun v9 w9 H locs hq G => ?_)
  obtain ⟨rfl, rfl⟩ := hq
  refine W.eq (g2 := F0 mm 6 ls []) rfl ?_
  have G : zG D AA ss.heap [] H locs := G
  exact z_vret (w' := []) E hr hlocks G dX4_checkSlot_6 (by omega) (by omega) (zx0 rfl) ⟨rfl, rfl⟩

