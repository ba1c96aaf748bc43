def q_c_X4_checkMember (k4 : Nat → ClassId) (lo lnow lsl ltr lcl lba ldu : Nat) (n p st : Nat) (cc bc pot gr bk : Int) (m : Nat) : Option Value → va_W → Prop := (fun (v9 : Option Value) (w9 : va_W) => v9 = none ∧ w9 = [(lo, .inr (4, [.ref lnow, .ref lsl, .ref ltr, .ref lcl, .ref lba, .ref ldu, .int (iI (((n : Nat) : Int))), .int (iI (((p : Nat) : Int))), .int (iI (((st : Nat) : Int))), .int (iI (cc)), .int (iI (bc)), .long (lI (pot)), .long (lI (gr)), .long (lI (bk))]))])
set_option maxHeartbeats 4000000 in
set_option maxRecDepth 100000 in
theorem c_X4_checkMember (l : Launch) (D : va_G) (k4 : Nat → ClassId) (lo lnow lsl ltr lcl lba ldu : Nat) (n p st : Nat) (cc bc pot gr bk : Int) (m : Nat) (hm : m < n) (hn : n ≤ 6) : zC l yX4_checkMember (zW yX4_checkMember cX4_checkMember 2 none) ({ frames := 1, cells := 0, slots := 0, locals := 21 } : Room) D k4 [.ref lo, .int (iI (((m : Nat) : Int)))] [(lo, .inr (4, [.ref lnow, .ref lsl, .ref ltr, .ref lcl, .ref lba, .ref ldu, .int (iI (((n : Nat) : Int))), .int (iI (((p : Nat) : Int))), .int (iI (((st : Nat) : Int))), .int (iI (cc)), .int (iI (bc)), .long (lI (pot)), .long (lI (gr)), .long (lI (bk))]))] (0) (0) (q_c_X4_checkMember k4 lo lnow lsl ltr lcl lba ldu n p st cc bc pot gr bk m) := by
  refine zC_of (cc := cX4_checkMember) (by decide) (Nat.le_of_ble_eq_true rfl) (fun pp ee ss mm bl me co AA H locs ls E hr hlocks hin G hl => ?_)
  have hl : lv_has ls 2 [(0, .ref lo), (1, .int (iI (((m : Nat) : Int))))] := hl
  refine z_iload_n E hl 1 rfl dX4_checkMember_0 rfl ?_
  refine z_aload_n E hl 0 rfl dX4_checkMember_1 rfl ?_
  refine kg_X4_41 E G 0 rfl rfl dX4_checkMember_2 ?_
  refine z_callS E G hl.1 (c_X4_checkIndex l D k4 (((m : Nat) : Int)) (((n : Nat) : Int)) (by omega)) kS_X4_165 ⟨rfl, rfl, Nat.le_of_ble_eq_true rfl, Nat.le_of_ble_eq_true rfl⟩ [] rfl (by decide) rfl rfl (Nat.le_of_ble_eq_true rfl) dX4_checkMember_5 ⟨by first | exact Nat.le_of_ble_eq_true rfl | omega, by first | exact Nat.le_of_ble_eq_true rfl | omega⟩ (fun v9 w9 H locs hq G => ?_)
  obtain ⟨rfl, rfl⟩ := hq
  refine W.eq (g2 := F0 mm 8 ls []) rfl ?_
  have G : zG D AA ss.heap [(lo, .inr (4, [.ref lnow, .ref lsl, .ref ltr, .ref lcl, .ref lba, .ref ldu, .int (iI (((n : Nat) : Int))), .int (iI (((p : Nat) : Int))), .int (iI (((st : Nat) : Int))), .int (iI (cc)), .int (iI (bc)), .long (lI (pot)), .long (lI (gr)), .long (lI (bk))]))] H locs := G
  exact z_vret (w' := [(lo, .inr (4, [.ref lnow, .ref lsl, .ref ltr, .ref lcl, .ref lba, .ref ldu, .int (iI (((n : Nat) : Int))), .int (iI (((p : Nat) : Int))), .int (iI (((st : Nat) : Int))), .int (iI (cc)), .int (iI (bc)), .long (lI (pot)), .long (lI (gr)), .long (lI (bk))]))]) E hr hlocks G dX4_checkMember_8 (by omega) (by omega) (zx0 rfl) ⟨rfl, rfl⟩

