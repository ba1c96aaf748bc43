
set_option maxHeartbeats 4000000 in
set_option maxRecDepth 100000 in
theorem x_X4_checkSlotIsLeft (l : Launch) (hl9 : l.stackTraces = false) (D : va_G) (k4 : Nat → ClassId) (lo lnow lsl ltr lcl lba ldu : Nat) (n p st : Nat) (cc bc pot gr bk : Int) (hp : p = 48) : zCX l yX4_checkSlotIsLeft (zW yX4_checkSlotIsLeft cX4_checkSlotIsLeft 1 none) ({ frames := 6, cells := 1, slots := 6, locals := 82 } : Room) D k4 [.ref lo] [(lo, .inr (4, [.ref lnow, .ref lsl, .ref ltr, .ref lcl, .ref lba, .ref ldu, .int (iI (((n : Nat) : Int))), .int (iI (((p : Nat) : Int))), .int (iI (((st : Nat) : Int))), .int (iI (cc)), .int (iI (bc)), .long (lI (pot)), .long (lI (gr)), .long (lI (bk))]))] "java/lang/IllegalStateException" := by
  refine zCX_of (cc := cX4_checkSlotIsLeft) (by decide) (Nat.le_of_ble_eq_true rfl) (fun pp ee ss mm bl me co AA H locs ls E X G hl => ?_)
  have hl : lv_has ls 1 [(0, .ref lo)] := hl
  refine z_aload_n E hl 0 rfl dX4_checkSlotIsLeft_0 rfl ?_
  refine kg_X4_45 E G 0 rfl rfl dX4_checkSlotIsLeft_1 ?_
  refine z_bipush E dX4_checkSlotIsLeft_4 (by decide) ?_
  refine z_icmp_lt (tgt := 19) E dX4_checkSlotIsLeft_6 (by decide) ⟨by omega, by omega⟩ (by decide) (fun c_6 => absurd c_6 (by omega)) (fun c_6 => ?_)
  exact z_throw E hl9 X.1 X.2.1 G hl.1 (ik := 48) (is := 229) (ic := 52) (text := "all slots are closed") zXk0 zXi0 zXf0 (by decide) zB_all0 zXn0 zOt0 dX4_checkSlotIsLeft_9 dX4_checkSlotIsLeft_12 dX4_checkSlotIsLeft_13 dX4_checkSlotIsLeft_15 dX4_checkSlotIsLeft_18 X.2.2.1 X.2.2.2 (Nat.le_of_ble_eq_true rfl) (Nat.le_of_ble_eq_true rfl) (Nat.le_of_ble_eq_true rfl) (Nat.le_of_ble_eq_true rfl) rfl rfl

