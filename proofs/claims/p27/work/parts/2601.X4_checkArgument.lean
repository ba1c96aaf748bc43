def q_c_X4_checkArgument (k4 : Nat → ClassId) (v a9 b9 : Int) : Option Value → va_W → Prop := (fun (v9 : Option Value) (w9 : va_W) => v9 = none ∧ w9 = [])
set_option maxHeartbeats 4000000 in
set_option maxRecDepth 100000 in
theorem c_X4_checkArgument (l : Launch) (D : va_G) (k4 : Nat → ClassId) (v a9 b9 : Int) (hv : a9 ≤ v ∧ v ≤ b9) (hr9 : rng a9 ∧ rng b9) : zC l yX4_checkArgument (zW yX4_checkArgument cX4_checkArgument 3 none) ({ frames := 0, cells := 0, slots := 0, locals := 0 } : Room) D k4 [.int (iI (v)), .int (iI (a9)), .int (iI (b9))] [] (0) (0) (q_c_X4_checkArgument k4 v a9 b9) := by
  refine zC_of (cc := cX4_checkArgument) (by decide) (Nat.le_of_ble_eq_true rfl) (fun pp ee ss mm bl me co AA H locs ls E hr hlocks hin G hl => ?_)
  have hl : lv_has ls 3 [(0, .int (iI (v))), (1, .int (iI (a9))), (2, .int (iI (b9)))] := hl
  obtain ⟨⟨y1, y2⟩, y3, y4⟩ := hr9
  refine z_iload_n E hl 0 rfl dX4_checkArgument_0 rfl ?_
  refine z_iload_n E hl 1 rfl dX4_checkArgument_1 rfl ?_
  refine z_icmp_lt (tgt := 10) E dX4_checkArgument_2 (by decide) ⟨by omega, by omega⟩ ⟨by omega, by omega⟩ (fun c_2 => absurd c_2 (by omega)) (fun c_2 => ?_)
  refine z_iload_n E hl 0 rfl dX4_checkArgument_5 rfl ?_
  refine z_iload_n E hl 2 rfl dX4_checkArgument_6 rfl ?_
  refine z_icmp_le (tgt := 20) E dX4_checkArgument_7 (by decide) ⟨by omega, by omega⟩ ⟨by omega, by omega⟩ (fun c_7 => ?_) (fun c_7 => absurd c_7 (by omega))
  exact z_vret (w' := []) E hr hlocks G dX4_checkArgument_20 (by omega) (by omega) (zx0 rfl) ⟨rfl, rfl⟩

