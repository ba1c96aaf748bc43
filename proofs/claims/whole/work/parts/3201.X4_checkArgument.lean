
set_option maxHeartbeats 4000000 in
set_option maxRecDepth 100000 in
theorem x_X4_checkArgument (l : Launch) (hl9 : l.stackTraces = false) (D : va_G) (k4 : Nat → ClassId) (v a9 b9 : Int) (hv : -2147483648 ≤ v ∧ v ≤ 2147483647 ∧ (v < a9 ∨ b9 < v)) (hr9 : rng a9 ∧ rng b9) : zCX l yX4_checkArgument (zW yX4_checkArgument cX4_checkArgument 3 none) ({ frames := 6, cells := 1, slots := 6, locals := 82 } : Room) D k4 [.int (iI (v)), .int (iI (a9)), .int (iI (b9))] [] "java/lang/IllegalArgumentException" := by
  refine zCX_of (cc := cX4_checkArgument) (by decide) (Nat.le_of_ble_eq_true rfl) (fun pp ee ss mm bl me co AA H locs ls E X G hl => ?_)
  have hl : lv_has ls 3 [(0, .int (iI (v))), (1, .int (iI (a9))), (2, .int (iI (b9)))] := hl
  obtain ⟨⟨y1, y2⟩, y3, y4⟩ := hr9
  refine z_iload_n E hl 0 rfl dX4_checkArgument_0 rfl ?_
  refine z_iload_n E hl 1 rfl dX4_checkArgument_1 rfl ?_
  refine z_icmp_lt (tgt := 10) E dX4_checkArgument_2 (by decide) ⟨by omega, by omega⟩ ⟨by omega, by omega⟩ (fun c_2 => ?_) (fun c_2 => ?_)
  · skip
    exact z_throw E hl9 X.1 X.2.1 G hl.1 (ik := 196) (is := 227) (ic := 200) (text := "outside its bounds") zXk2 zXi2 zXf2 (by decide) zB_all2 zXn2 zOt2 dX4_checkArgument_10 dX4_checkArgument_13 dX4_checkArgument_14 dX4_checkArgument_16 dX4_checkArgument_19 X.2.2.1 X.2.2.2 (Nat.le_of_ble_eq_true rfl) (Nat.le_of_ble_eq_true rfl) (Nat.le_of_ble_eq_true rfl) (Nat.le_of_ble_eq_true rfl) rfl rfl
  · skip
    refine z_iload_n E hl 0 rfl dX4_checkArgument_5 rfl ?_
    refine z_iload_n E hl 2 rfl dX4_checkArgument_6 rfl ?_
    refine z_icmp_le (tgt := 20) E dX4_checkArgument_7 (by decide) ⟨by omega, by omega⟩ ⟨by omega, by omega⟩ (fun c_7 => absurd c_7 (by omega)) (fun c_7 => ?_)
    exact z_throw E hl9 X.1 X.2.1 G hl.1 (ik := 196) (is := 227) (ic := 200) (text := "outside its bounds") zXk2 zXi2 zXf2 (by decide) zB_all2 zXn2 zOt2 dX4_checkArgument_10 dX4_checkArgument_13 dX4_checkArgument_14 dX4_checkArgument_16 dX4_checkArgument_19 X.2.2.1 X.2.2.2 (Nat.le_of_ble_eq_true rfl) (Nat.le_of_ble_eq_true rfl) (Nat.le_of_ble_eq_true rfl) (Nat.le_of_ble_eq_true rfl) rfl rfl

