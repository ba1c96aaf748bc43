def q_c_X4_checkSlotIsLeft (k4 : Nat → ClassId) (lo lnow lsl ltr lcl lba ldu : Nat) (n p st : Nat) (cc bc pot gr bk : Int) : Option Value → va_W → Prop := (fun (v9 : Option Value) (w9 : va_W) => v9 = none ∧ w9 = [(lo, .inr (4, [.ref lnow, .ref lsl, .ref ltr, .ref lcl, .ref lba, .ref ldu, .int (iI (((n : Nat) : Int))), .int (iI (((p : Nat) : Int))), .int (iI (((st : Nat) : Int))), .int (iI (cc)), .int (iI (bc)), .long (lI (pot)), .long (lI (gr)), .long (lI (bk))]))])
set_option maxHeartbeats 4000000 in
set_option maxRecDepth 100000 in
theorem c_X4_checkSlotIsLeft (l : Launch) (D : va_G) (k4 : Nat → ClassId) (lo lnow lsl ltr lcl lba ldu : Nat) (n p st : Nat) (cc bc pot gr bk : Int) (hp : p < 48) : zC l yX4_checkSlotIsLeft (zW yX4_checkSlotIsLeft cX4_checkSlotIsLeft 1 none) ({ frames := 0, cells := 0, slots := 0, locals := 0 } : Room) D k4 [.ref lo] [(lo, .inr (4, [.ref lnow, .ref lsl, .ref ltr, .ref lcl, .ref lba, .ref ldu, .int (iI (((n : Nat) : Int))), .int (iI (((p : Nat) : Int))), .int (iI (((st : Nat) : Int))), .int (iI (cc)), .int (iI (bc)), .long (lI (pot)), .long (lI (gr)), .long (lI (bk))]))] (0) (0) (q_c_X4_checkSlotIsLeft k4 lo lnow lsl ltr lcl lba ldu n p st cc bc pot gr bk) := by
  refine zC_of (cc := cX4_checkSlotIsLeft) (by decide) (Nat.le_of_ble_eq_true rfl) (fun pp ee ss mm bl me co AA H locs ls E hr hlocks hin G hl => ?_)
  have hl : lv_has ls 1 [(0, .ref lo)] := hl
  refine z_aload_n E hl 0 rfl dX4_checkSlotIsLeft_0 rfl ?_
  refine kg_X4_45 E G 0 rfl rfl dX4_checkSlotIsLeft_1 ?_
  refine z_bipush E dX4_checkSlotIsLeft_4 (by decide) ?_
  refine z_icmp_lt (tgt := 19) E dX4_checkSlotIsLeft_6 (by decide) ⟨by omega, by omega⟩ (by decide) (fun c_6 => ?_) (fun c_6 => absurd c_6 (by omega))
  exact z_vret (w' := [(lo, .inr (4, [.ref lnow, .ref lsl, .ref ltr, .ref lcl, .ref lba, .ref ldu, .int (iI (((n : Nat) : Int))), .int (iI (((p : Nat) : Int))), .int (iI (((st : Nat) : Int))), .int (iI (cc)), .int (iI (bc)), .long (lI (pot)), .long (lI (gr)), .long (lI (bk))]))]) E hr hlocks G dX4_checkSlotIsLeft_19 (by omega) (by omega) (zx0 rfl) ⟨rfl, rfl⟩

