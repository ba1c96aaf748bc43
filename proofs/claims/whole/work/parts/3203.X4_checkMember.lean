
set_option maxHeartbeats 4000000 in
set_option maxRecDepth 100000 in
theorem x_X4_checkMember (l : Launch) (hl9 : l.stackTraces = false) (D : va_G) (k4 : Nat → ClassId) (lo lnow lsl ltr lcl lba ldu : Nat) (n p st : Nat) (cc bc pot gr bk : Int) (m : Int) (hm : -2147483648 ≤ m ∧ m ≤ 2147483647 ∧ (m < 0 ∨ (n : Int) ≤ m)) (hn : n ≤ 6) : zCX l yX4_checkMember (zW yX4_checkMember cX4_checkMember 2 none) ({ frames := 7, cells := 1, slots := 6, locals := 103 } : Room) D k4 [.ref lo, .int (iI (m))] [(lo, .inr (4, [.ref lnow, .ref lsl, .ref ltr, .ref lcl, .ref lba, .ref ldu, .int (iI (((n : Nat) : Int))), .int (iI (((p : Nat) : Int))), .int (iI (((st : Nat) : Int))), .int (iI (cc)), .int (iI (bc)), .long (lI (pot)), .long (lI (gr)), .long (lI (bk))]))] "java/lang/IndexOutOfBoundsException" := by
  refine zCX_of (cc := cX4_checkMember) (by decide) (Nat.le_of_ble_eq_true rfl) (fun pp ee ss mm bl me co AA H locs ls E X G hl => ?_)
  have hl : lv_has ls 2 [(0, .ref lo), (1, .int (iI (m)))] := hl
  refine z_iload_n E hl 1 rfl dX4_checkMember_0 rfl ?_
  refine z_aload_n E hl 0 rfl dX4_checkMember_1 rfl ?_
  refine kg_X4_41 E G 0 rfl rfl dX4_checkMember_2 ?_
  exact z_thrS E X G hl.1 (x_X4_checkIndex l hl9 D k4 m (((n : Nat) : Int)) (by omega)) kS_X4_165 ⟨rfl, rfl, Nat.le_of_ble_eq_true rfl, Nat.le_of_ble_eq_true rfl⟩ [] rfl (by decide) rfl rfl (Nat.le_of_ble_eq_true rfl) dX4_checkMember_5 ⟨Nat.le_of_ble_eq_true rfl, Nat.le_of_ble_eq_true rfl⟩ rfl rfl

