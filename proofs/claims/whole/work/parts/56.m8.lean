def q_c_X5_addMember (k4 : Nat → ClassId) (mo mnw mte mge mus mco mfl mba mdu : Nat) (th : Int) (n p st : Nat) (cc bc pot gr bk btw bhd : Int) (NW : Nat → Int) : Option Value → va_W → Prop := (fun (v9 : Option Value) (w9 : va_W) => v9 = some (.int (iI (((n : Nat) : Int)))) ∧ w9 = [(mo, .inr (5, [.int (iI (0)), .int (iI (((n + 1 : Nat) : Int))), .ref mnw, .ref mte, .ref mge, .ref mus, .int (iI (((p : Nat) : Int))), .int (iI (((st : Nat) : Int))), .int (iI (cc)), .int (iI (bc)), .ref mco, .ref mfl, .ref mba, .ref mdu, .long (lI (pot)), .long (lI (gr)), .long (lI (bk)), .int (iI (btw)), .int (iI (bhd))])), (mnw, .inl (k4 0, 19, .inl (fun i9 => iI ((up (up NW (7 + n) 10) (13 + n) n) i9))))])
set_option maxHeartbeats 4000000 in
set_option maxRecDepth 100000 in
theorem c_X5_addMember (l : Launch) (D : va_G) (k4 : Nat → ClassId) (mo mnw mte mge mus mco mfl mba mdu : Nat) (th : Int) (n p st : Nat) (cc bc pot gr bk btw bhd : Int) (NW : Nat → Int) (hn : n ≤ 6) (hn6 : n < 6) (hp : p = 0) : zC l yX5_addMember (zW yX5_addMember cX5_addMember 1 (some .int)) ({ frames := 0, cells := 0, slots := 0, locals := 0 } : Room) D k4 [.ref mo] [(mo, .inr (5, [.int (iI (th)), .int (iI (((n : Nat) : Int))), .ref mnw, .ref mte, .ref mge, .ref mus, .int (iI (((p : Nat) : Int))), .int (iI (((st : Nat) : Int))), .int (iI (cc)), .int (iI (bc)), .ref mco, .ref mfl, .ref mba, .ref mdu, .long (lI (pot)), .long (lI (gr)), .long (lI (bk)), .int (iI (btw)), .int (iI (bhd))])), (mnw, .inl (k4 0, 19, .inl (fun i9 => iI (NW i9))))] (0) (0) (q_c_X5_addMember k4 mo mnw mte mge mus mco mfl mba mdu th n p st cc bc pot gr bk btw bhd NW) := by
  refine zC_of (cc := cX5_addMember) (by decide) (Nat.le_of_ble_eq_true rfl) (fun pp ee ss mm bl me co AA H locs ls E hr hlocks hin G hl => ?_)
  have hl : lv_has ls 1 [(0, .ref mo)] := hl
  refine z_aload_n E hl 0 rfl dX5_addMember_0 rfl ?_
  refine z_iconst E dX5_addMember_1 ?_
  refine kp_X5_35 E G 0 rfl (Nat.le_of_ble_eq_true rfl) dX5_addMember_2 (fun H locs G => ?_)
  have G : zG D AA ss.heap [(mo, .inr (5, [.int (iI (0)), .int (iI (((n : Nat) : Int))), .ref mnw, .ref mte, .ref mge, .ref mus, .int (iI (((p : Nat) : Int))), .int (iI (((st : Nat) : Int))), .int (iI (cc)), .int (iI (bc)), .ref mco, .ref mfl, .ref mba, .ref mdu, .long (lI (pot)), .long (lI (gr)), .long (lI (bk)), .int (iI (btw)), .int (iI (bhd))])), (mnw, .inl (k4 0, 19, .inl (fun i9 => iI (NW i9))))] H locs := G
  refine z_aload_n E hl 0 rfl dX5_addMember_5 rfl ?_
  refine kg_X5_39 E G 0 rfl rfl dX5_addMember_6 ?_
  refine z_bipush E dX5_addMember_9 (by decide) ?_
  refine z_icmp_eq (tgt := 21) E dX5_addMember_11 (by decide) ⟨by omega, by omega⟩ (by decide) (fun c_11 => absurd c_11 (by omega)) (fun c_11 => ?_)
  refine z_aload_n E hl 0 rfl dX5_addMember_14 rfl ?_
  refine kg_X5_48 E G 0 rfl rfl dX5_addMember_15 ?_
  refine z_if_le (tgt := 27) E dX5_addMember_18 (by decide) ⟨by omega, by omega⟩ (fun c_18 => ?_) (fun c_18 => absurd c_18 (by omega))
  refine z_aload_n E hl 0 rfl dX5_addMember_27 rfl ?_
  refine kg_X5_9 E G 0 rfl rfl dX5_addMember_28 ?_
  refine z_bipush E dX5_addMember_31 (by decide) ?_
  refine z_aload_n E hl 0 rfl dX5_addMember_33 rfl ?_
  refine kg_X5_39 E G 0 rfl rfl dX5_addMember_34 ?_
  refine z_iadd E dX5_addMember_37 ?_
  refine z_bipush E dX5_addMember_38 (by decide) ?_
  refine z_iast E G 1 rfl (7 + n) (by omega) (by omega) (by decide) dX5_addMember_40 (fun H locs G => ?_)
  have G : zG D AA ss.heap [(mo, .inr (5, [.int (iI (0)), .int (iI (((n : Nat) : Int))), .ref mnw, .ref mte, .ref mge, .ref mus, .int (iI (((p : Nat) : Int))), .int (iI (((st : Nat) : Int))), .int (iI (cc)), .int (iI (bc)), .ref mco, .ref mfl, .ref mba, .ref mdu, .long (lI (pot)), .long (lI (gr)), .long (lI (bk)), .int (iI (btw)), .int (iI (bhd))])), (mnw, .inl (k4 0, 19, .inl (fun i9 => iI ((up NW (7 + n) (10)) i9))))] H locs := G
  refine z_aload_n E hl 0 rfl dX5_addMember_41 rfl ?_
  refine kg_X5_9 E G 0 rfl rfl dX5_addMember_42 ?_
  refine z_bipush E dX5_addMember_45 (by decide) ?_
  refine z_aload_n E hl 0 rfl dX5_addMember_47 rfl ?_
  refine kg_X5_39 E G 0 rfl rfl dX5_addMember_48 ?_
  refine z_iadd E dX5_addMember_51 ?_
  refine z_aload_n E hl 0 rfl dX5_addMember_52 rfl ?_
  refine kg_X5_39 E G 0 rfl rfl dX5_addMember_53 ?_
  refine z_iast E G 1 rfl (13 + n) (by omega) (by omega) (by decide) dX5_addMember_56 (fun H locs G => ?_)
  have G : zG D AA ss.heap [(mo, .inr (5, [.int (iI (0)), .int (iI (((n : Nat) : Int))), .ref mnw, .ref mte, .ref mge, .ref mus, .int (iI (((p : Nat) : Int))), .int (iI (((st : Nat) : Int))), .int (iI (cc)), .int (iI (bc)), .ref mco, .ref mfl, .ref mba, .ref mdu, .long (lI (pot)), .long (lI (gr)), .long (lI (bk)), .int (iI (btw)), .int (iI (bhd))])), (mnw, .inl (k4 0, 19, .inl (fun i9 => iI ((up (up NW (7 + n) (10)) (13 + n) (((n : Nat) : Int))) i9))))] H locs := G
  refine z_aload_n E hl 0 rfl dX5_addMember_57 rfl ?_
  refine z_dup E dX5_addMember_58 rfl ?_
  refine kg_X5_39 E G 0 rfl rfl dX5_addMember_59 ?_
  refine z_iconst E dX5_addMember_62 ?_
  refine z_iadd E dX5_addMember_63 ?_
  refine z_eq (y := ((n + 1 : Nat) : Int)) (by omega) ?_
  refine kp_X5_39 E G 0 rfl (Nat.le_of_ble_eq_true rfl) dX5_addMember_64 (fun H locs G => ?_)
  have G : zG D AA ss.heap [(mo, .inr (5, [.int (iI (0)), .int (iI (((n + 1 : Nat) : Int))), .ref mnw, .ref mte, .ref mge, .ref mus, .int (iI (((p : Nat) : Int))), .int (iI (((st : Nat) : Int))), .int (iI (cc)), .int (iI (bc)), .ref mco, .ref mfl, .ref mba, .ref mdu, .long (lI (pot)), .long (lI (gr)), .long (lI (bk)), .int (iI (btw)), .int (iI (bhd))])), (mnw, .inl (k4 0, 19, .inl (fun i9 => iI ((up (up NW (7 + n) (10)) (13 + n) (((n : Nat) : Int))) i9))))] H locs := G
  refine z_aload_n E hl 0 rfl dX5_addMember_67 rfl ?_
  refine kg_X5_39 E G 0 rfl rfl dX5_addMember_68 ?_
  refine z_iconst E dX5_addMember_71 ?_
  refine z_isub E dX5_addMember_72 ?_
  refine z_eq (y := ((n : Nat) : Int)) (by omega) ?_
  exact z_iret (w' := [(mo, .inr (5, [.int (iI (0)), .int (iI (((n + 1 : Nat) : Int))), .ref mnw, .ref mte, .ref mge, .ref mus, .int (iI (((p : Nat) : Int))), .int (iI (((st : Nat) : Int))), .int (iI (cc)), .int (iI (bc)), .ref mco, .ref mfl, .ref mba, .ref mdu, .long (lI (pot)), .long (lI (gr)), .long (lI (bk)), .int (iI (btw)), .int (iI (bhd))])), (mnw, .inl (k4 0, 19, .inl (fun i9 => iI ((up (up NW (7 + n) (10)) (13 + n) (((n : Nat) : Int))) i9))))]) (v := ((n : Nat) : Int)) E hr hlocks G dX5_addMember_73 (by omega) (by omega) (zx0 rfl) ⟨rfl, rfl⟩

def q_c_X5_addMember_0 (k4 : Nat → ClassId) (mo mnw mte mge mus mco mfl mba mdu : Nat) (th : Int) (n p st : Nat) (cc bc pot gr bk btw bhd : Int) : Option Value → va_W → Prop := (fun (v9 : Option Value) (w9 : va_W) => v9 = some (.int (iI (0))) ∧ w9 = [(mo, .inr (5, [.int (iI (1)), .int (iI (((n : Nat) : Int))), .ref mnw, .ref mte, .ref mge, .ref mus, .int (iI (((p : Nat) : Int))), .int (iI (((st : Nat) : Int))), .int (iI (cc)), .int (iI (bc)), .ref mco, .ref mfl, .ref mba, .ref mdu, .long (lI (pot)), .long (lI (gr)), .long (lI (bk)), .int (iI (btw)), .int (iI (bhd))]))])
set_option maxHeartbeats 4000000 in
set_option maxRecDepth 100000 in
theorem c_X5_addMember_0 (l : Launch) (D : va_G) (k4 : Nat → ClassId) (mo mnw mte mge mus mco mfl mba mdu : Nat) (th : Int) (n p st : Nat) (cc bc pot gr bk btw bhd : Int) (hn : n ≤ 6) (hq : n = 6 ∨ 0 < p) (hp48 : p ≤ 48) : zC l yX5_addMember (zW yX5_addMember cX5_addMember 1 (some .int)) ({ frames := 1, cells := 0, slots := 0, locals := 21 } : Room) D k4 [.ref mo] [(mo, .inr (5, [.int (iI (th)), .int (iI (((n : Nat) : Int))), .ref mnw, .ref mte, .ref mge, .ref mus, .int (iI (((p : Nat) : Int))), .int (iI (((st : Nat) : Int))), .int (iI (cc)), .int (iI (bc)), .ref mco, .ref mfl, .ref mba, .ref mdu, .long (lI (pot)), .long (lI (gr)), .long (lI (bk)), .int (iI (btw)), .int (iI (bhd))]))] (0) (0) (q_c_X5_addMember_0 k4 mo mnw mte mge mus mco mfl mba mdu th n p st cc bc pot gr bk btw bhd) := by
  refine zC_of (cc := cX5_addMember) (by decide) (Nat.le_of_ble_eq_true rfl) (fun pp ee ss mm bl me co AA H locs ls E hr hlocks hin G hl => ?_)
  have hl : lv_has ls 1 [(0, .ref mo)] := hl
  refine z_aload_n E hl 0 rfl dX5_addMember_0 rfl ?_
  refine z_iconst E dX5_addMember_1 ?_
  refine kp_X5_35 E G 0 rfl (Nat.le_of_ble_eq_true rfl) dX5_addMember_2 (fun H locs G => ?_)
  have G : zG D AA ss.heap [(mo, .inr (5, [.int (iI (0)), .int (iI (((n : Nat) : Int))), .ref mnw, .ref mte, .ref mge, .ref mus, .int (iI (((p : Nat) : Int))), .int (iI (((st : Nat) : Int))), .int (iI (cc)), .int (iI (bc)), .ref mco, .ref mfl, .ref mba, .ref mdu, .long (lI (pot)), .long (lI (gr)), .long (lI (bk)), .int (iI (btw)), .int (iI (bhd))]))] H locs := G
  refine z_aload_n E hl 0 rfl dX5_addMember_5 rfl ?_
  refine kg_X5_39 E G 0 rfl rfl dX5_addMember_6 ?_
  refine z_bipush E dX5_addMember_9 (by decide) ?_
  refine z_icmp_eq (tgt := 21) E dX5_addMember_11 (by decide) ⟨by omega, by omega⟩ (by decide) (fun c_11 => ?_) (fun c_11 => ?_)
  · skip
    refine z_aload_n E hl 0 rfl dX5_addMember_21 rfl ?_
    refine z_iconst E dX5_addMember_22 ?_
    refine z_callV E G hl.1 (c_X5_no l D k4 mo mnw mte mge mus mco mfl mba mdu 0 n p st cc bc pot gr bk btw bhd 1 ) kV_X5_51 ⟨rfl, rfl, Nat.le_of_ble_eq_true rfl, Nat.le_of_ble_eq_true rfl⟩ [0] rfl (by decide) 0 5 rfl rfl rfl rfl rfl (Nat.le_of_ble_eq_true rfl) dX5_addMember_23 ⟨(by first | exact Nat.le_of_ble_eq_true rfl | omega | (show _ ≤ (0); omega)), (by first | exact Nat.le_of_ble_eq_true rfl | omega | (show _ ≤ (0); omega))⟩ (fun v9 w9 H locs hq G => ?_)
    obtain ⟨rfl, rfl⟩ := hq
    refine W.eq (g2 := F0 mm 26 ls [.int (iI (0))]) rfl ?_
    have G : zG D AA ss.heap [(mo, .inr (5, [.int (iI (1)), .int (iI (((n : Nat) : Int))), .ref mnw, .ref mte, .ref mge, .ref mus, .int (iI (((p : Nat) : Int))), .int (iI (((st : Nat) : Int))), .int (iI (cc)), .int (iI (bc)), .ref mco, .ref mfl, .ref mba, .ref mdu, .long (lI (pot)), .long (lI (gr)), .long (lI (bk)), .int (iI (btw)), .int (iI (bhd))]))] H locs := G
    exact z_iret (w' := [(mo, .inr (5, [.int (iI (1)), .int (iI (((n : Nat) : Int))), .ref mnw, .ref mte, .ref mge, .ref mus, .int (iI (((p : Nat) : Int))), .int (iI (((st : Nat) : Int))), .int (iI (cc)), .int (iI (bc)), .ref mco, .ref mfl, .ref mba, .ref mdu, .long (lI (pot)), .long (lI (gr)), .long (lI (bk)), .int (iI (btw)), .int (iI (bhd))]))]) (v := 0) E hr hlocks G dX5_addMember_26 (by omega) (by omega) (zx0 rfl) ⟨rfl, rfl⟩
  · skip
    refine z_aload_n E hl 0 rfl dX5_addMember_14 rfl ?_
    refine kg_X5_48 E G 0 rfl rfl dX5_addMember_15 ?_
    refine z_if_le (tgt := 27) E dX5_addMember_18 (by decide) ⟨by omega, by omega⟩ (fun c_18 => absurd c_18 (by omega)) (fun c_18 => ?_)
    refine z_aload_n E hl 0 rfl dX5_addMember_21 rfl ?_
    refine z_iconst E dX5_addMember_22 ?_
    refine z_callV E G hl.1 (c_X5_no l D k4 mo mnw mte mge mus mco mfl mba mdu 0 n p st cc bc pot gr bk btw bhd 1 ) kV_X5_51 ⟨rfl, rfl, Nat.le_of_ble_eq_true rfl, Nat.le_of_ble_eq_true rfl⟩ [0] rfl (by decide) 0 5 rfl rfl rfl rfl rfl (Nat.le_of_ble_eq_true rfl) dX5_addMember_23 ⟨(by first | exact Nat.le_of_ble_eq_true rfl | omega | (show _ ≤ (0); omega)), (by first | exact Nat.le_of_ble_eq_true rfl | omega | (show _ ≤ (0); omega))⟩ (fun v9 w9 H locs hq G => ?_)
    obtain ⟨rfl, rfl⟩ := hq
    refine W.eq (g2 := F0 mm 26 ls [.int (iI (0))]) rfl ?_
    have G : zG D AA ss.heap [(mo, .inr (5, [.int (iI (1)), .int (iI (((n : Nat) : Int))), .ref mnw, .ref mte, .ref mge, .ref mus, .int (iI (((p : Nat) : Int))), .int (iI (((st : Nat) : Int))), .int (iI (cc)), .int (iI (bc)), .ref mco, .ref mfl, .ref mba, .ref mdu, .long (lI (pot)), .long (lI (gr)), .long (lI (bk)), .int (iI (btw)), .int (iI (bhd))]))] H locs := G
    exact z_iret (w' := [(mo, .inr (5, [.int (iI (1)), .int (iI (((n : Nat) : Int))), .ref mnw, .ref mte, .ref mge, .ref mus, .int (iI (((p : Nat) : Int))), .int (iI (((st : Nat) : Int))), .int (iI (cc)), .int (iI (bc)), .ref mco, .ref mfl, .ref mba, .ref mdu, .long (lI (pot)), .long (lI (gr)), .long (lI (bk)), .int (iI (btw)), .int (iI (bhd))]))]) (v := 0) E hr hlocks G dX5_addMember_26 (by omega) (by omega) (zx0 rfl) ⟨rfl, rfl⟩

def q_c_X5_setMember (k4 : Nat → ClassId) (mo mnw mte mge mus mco mfl mba mdu : Nat) (th : Int) (n p st : Nat) (cc bc pot gr bk btw bhd : Int) (m : Nat) (a b : Int) (NW : Nat → Int) : Option Value → va_W → Prop := (fun (v9 : Option Value) (w9 : va_W) => v9 = some (.int (iI (NW (7 + m)))) ∧ w9 = [(mo, .inr (5, [.int (iI (0)), .int (iI (((n : Nat) : Int))), .ref mnw, .ref mte, .ref mge, .ref mus, .int (iI (((p : Nat) : Int))), .int (iI (((st : Nat) : Int))), .int (iI (cc)), .int (iI (bc)), .ref mco, .ref mfl, .ref mba, .ref mdu, .long (lI (pot)), .long (lI (gr)), .long (lI (bk)), .int (iI (btw)), .int (iI (bhd))])), (mnw, .inl (k4 0, 19, .inl (fun i9 => iI ((up (up NW (7 + m) a) (13 + m) b) i9))))])
set_option maxHeartbeats 4000000 in
set_option maxRecDepth 100000 in
theorem c_X5_setMember (l : Launch) (D : va_G) (k4 : Nat → ClassId) (mo mnw mte mge mus mco mfl mba mdu : Nat) (th : Int) (n p st : Nat) (cc bc pot gr bk btw bhd : Int) (m : Nat) (a b : Int) (NW : Nat → Int) (hn : n ≤ 6) (hm : m < n) (ha : 0 ≤ a ∧ a ≤ 100) (hb : 0 ≤ b ∧ b ≤ 99) : zC l yX5_setMember (zW yX5_setMember cX5_setMember 5 (some .int)) ({ frames := 2, cells := 0, slots := 0, locals := 46 } : Room) D k4 [.ref mo, .int (iI (((m : Nat) : Int))), .int (iI (a)), .int (iI (b))] [(mo, .inr (5, [.int (iI (th)), .int (iI (((n : Nat) : Int))), .ref mnw, .ref mte, .ref mge, .ref mus, .int (iI (((p : Nat) : Int))), .int (iI (((st : Nat) : Int))), .int (iI (cc)), .int (iI (bc)), .ref mco, .ref mfl, .ref mba, .ref mdu, .long (lI (pot)), .long (lI (gr)), .long (lI (bk)), .int (iI (btw)), .int (iI (bhd))])), (mnw, .inl (k4 0, 19, .inl (fun i9 => iI (NW i9))))] (0) (0) (q_c_X5_setMember k4 mo mnw mte mge mus mco mfl mba mdu th n p st cc bc pot gr bk btw bhd m a b NW) := by
  refine zC_of (cc := cX5_setMember) (by decide) (Nat.le_of_ble_eq_true rfl) (fun pp ee ss mm bl me co AA H locs ls E hr hlocks hin G hl => ?_)
  have hl : lv_has ls 5 [(0, .ref mo), (1, .int (iI (((m : Nat) : Int)))), (2, .int (iI (a))), (3, .int (iI (b)))] := hl
  refine z_aload_n E hl 0 rfl dX5_setMember_0 rfl ?_
  refine z_iconst E dX5_setMember_1 ?_
  refine kp_X5_35 E G 0 rfl (Nat.le_of_ble_eq_true rfl) dX5_setMember_2 (fun H locs G => ?_)
  have G : zG D AA ss.heap [(mo, .inr (5, [.int (iI (0)), .int (iI (((n : Nat) : Int))), .ref mnw, .ref mte, .ref mge, .ref mus, .int (iI (((p : Nat) : Int))), .int (iI (((st : Nat) : Int))), .int (iI (cc)), .int (iI (bc)), .ref mco, .ref mfl, .ref mba, .ref mdu, .long (lI (pot)), .long (lI (gr)), .long (lI (bk)), .int (iI (btw)), .int (iI (bhd))])), (mnw, .inl (k4 0, 19, .inl (fun i9 => iI (NW i9))))] H locs := G
  refine z_aload_n E hl 0 rfl dX5_setMember_5 rfl ?_
  refine z_iload_n E hl 1 rfl dX5_setMember_6 rfl ?_
  refine z_callV E G hl.1 (c_X5_isMember l D k4 mo mnw mte mge mus mco mfl mba mdu 0 n p st cc bc pot gr bk btw bhd (((m : Nat) : Int)) (by omega) ⟨by omega, by omega⟩ hn) kV_X5_55 ⟨rfl, rfl, Nat.le_of_ble_eq_true rfl, Nat.le_of_ble_eq_true rfl⟩ [0] rfl (by decide) 0 5 rfl rfl rfl rfl rfl (Nat.le_of_ble_eq_true rfl) dX5_setMember_7 ⟨(by first | exact Nat.le_of_ble_eq_true rfl | omega | (show _ ≤ (0); omega)), (by first | exact Nat.le_of_ble_eq_true rfl | omega | (show _ ≤ (0); omega))⟩ (fun v9 w9 H locs hq G => ?_)
  obtain ⟨rfl, rfl⟩ := hq
  refine W.eq (g2 := F0 mm 10 ls [.int (iI (1))]) rfl ?_
  have G : zG D AA ss.heap [(mo, .inr (5, [.int (iI (0)), .int (iI (((n : Nat) : Int))), .ref mnw, .ref mte, .ref mge, .ref mus, .int (iI (((p : Nat) : Int))), .int (iI (((st : Nat) : Int))), .int (iI (cc)), .int (iI (bc)), .ref mco, .ref mfl, .ref mba, .ref mdu, .long (lI (pot)), .long (lI (gr)), .long (lI (bk)), .int (iI (btw)), .int (iI (bhd))])), (mnw, .inl (k4 0, 19, .inl (fun i9 => iI (NW i9))))] H locs := G
  refine z_if_ne (tgt := 19) E dX5_setMember_10 (by decide) (by decide) (fun c_10 => ?_) (fun c_10 => absurd c_10 (by decide))
  refine z_iload_n E hl 2 rfl dX5_setMember_19 rfl ?_
  refine z_i2l E dX5_setMember_20 ⟨by omega, by omega⟩ ?_
  refine z_lconst E (z := 0) dX5_setMember_21 (by decide) ?_
  refine z_ldc2 E (n := (100)) zw_135 (by decide +kernel) dX5_setMember_22 ?_
  refine z_callS E G hl.1 (c_X5_isIn l D k4 a 0 100 (by omega) ⟨⟨by omega, by omega⟩, ⟨by omega, by omega⟩, ⟨by omega, by omega⟩⟩) kS_X5_42 ⟨rfl, rfl, Nat.le_of_ble_eq_true rfl, Nat.le_of_ble_eq_true rfl⟩ [] rfl (by decide) rfl rfl (Nat.le_of_ble_eq_true rfl) dX5_setMember_25 ⟨(by first | exact Nat.le_of_ble_eq_true rfl | omega | (show _ ≤ (0); omega)), (by first | exact Nat.le_of_ble_eq_true rfl | omega | (show _ ≤ (0); omega))⟩ (fun v9 w9 H locs hq G => ?_)
  obtain ⟨rfl, rfl⟩ := hq
  refine W.eq (g2 := F0 mm 28 ls [.int (iI (1))]) rfl ?_
  have G : zG D AA ss.heap [(mo, .inr (5, [.int (iI (0)), .int (iI (((n : Nat) : Int))), .ref mnw, .ref mte, .ref mge, .ref mus, .int (iI (((p : Nat) : Int))), .int (iI (((st : Nat) : Int))), .int (iI (cc)), .int (iI (bc)), .ref mco, .ref mfl, .ref mba, .ref mdu, .long (lI (pot)), .long (lI (gr)), .long (lI (bk)), .int (iI (btw)), .int (iI (bhd))])), (mnw, .inl (k4 0, 19, .inl (fun i9 => iI (NW i9))))] H locs := G
  refine z_if_eq (tgt := 43) E dX5_setMember_28 (by decide) (by decide) (fun c_28 => absurd c_28 (by decide)) (fun c_28 => ?_)
  refine z_iload_n E hl 3 rfl dX5_setMember_31 rfl ?_
  refine z_i2l E dX5_setMember_32 ⟨by omega, by omega⟩ ?_
  refine z_lconst E (z := 0) dX5_setMember_33 (by decide) ?_
  refine z_ldc2 E (n := (99)) zw_136 (by decide +kernel) dX5_setMember_34 ?_
  refine z_callS E G hl.1 (c_X5_isIn l D k4 b 0 99 (by omega) ⟨⟨by omega, by omega⟩, ⟨by omega, by omega⟩, ⟨by omega, by omega⟩⟩) kS_X5_42 ⟨rfl, rfl, Nat.le_of_ble_eq_true rfl, Nat.le_of_ble_eq_true rfl⟩ [] rfl (by decide) rfl rfl (Nat.le_of_ble_eq_true rfl) dX5_setMember_37 ⟨(by first | exact Nat.le_of_ble_eq_true rfl | omega | (show _ ≤ (0); omega)), (by first | exact Nat.le_of_ble_eq_true rfl | omega | (show _ ≤ (0); omega))⟩ (fun v9 w9 H locs hq G => ?_)
  obtain ⟨rfl, rfl⟩ := hq
  refine W.eq (g2 := F0 mm 40 ls [.int (iI (1))]) rfl ?_
  have G : zG D AA ss.heap [(mo, .inr (5, [.int (iI (0)), .int (iI (((n : Nat) : Int))), .ref mnw, .ref mte, .ref mge, .ref mus, .int (iI (((p : Nat) : Int))), .int (iI (((st : Nat) : Int))), .int (iI (cc)), .int (iI (bc)), .ref mco, .ref mfl, .ref mba, .ref mdu, .long (lI (pot)), .long (lI (gr)), .long (lI (bk)), .int (iI (btw)), .int (iI (bhd))])), (mnw, .inl (k4 0, 19, .inl (fun i9 => iI (NW i9))))] H locs := G
  refine z_if_ne (tgt := 49) E dX5_setMember_40 (by decide) (by decide) (fun c_40 => ?_) (fun c_40 => absurd c_40 (by decide))
  refine z_aload_n E hl 0 rfl dX5_setMember_49 rfl ?_
  refine kg_X5_9 E G 0 rfl rfl dX5_setMember_50 ?_
  refine z_bipush E dX5_setMember_53 (by decide) ?_
  refine z_iload_n E hl 1 rfl dX5_setMember_55 rfl ?_
  refine z_iadd E dX5_setMember_56 ?_
  refine z_iald E G 1 rfl (7 + m) (by omega) (by omega) (by decide) dX5_setMember_57 ?_
  refine z_istore E [(4, .int (iI (NW (7 + m)))), (0, .ref mo), (1, .int (iI (((m : Nat) : Int)))), (2, .int (iI (a))), (3, .int (iI (b)))] dX5_setMember_58 hl (by decide) rfl (fun ls hl => ?_)
  refine z_aload_n E hl 1 rfl dX5_setMember_60 rfl ?_
  refine kg_X5_9 E G 0 rfl rfl dX5_setMember_61 ?_
  refine z_bipush E dX5_setMember_64 (by decide) ?_
  refine z_iload_n E hl 2 rfl dX5_setMember_66 rfl ?_
  refine z_iadd E dX5_setMember_67 ?_
  refine z_iload_n E hl 3 rfl dX5_setMember_68 rfl ?_
  refine z_iast E G 1 rfl (7 + m) (by omega) (by omega) (by decide) dX5_setMember_69 (fun H locs G => ?_)
  have G : zG D AA ss.heap [(mo, .inr (5, [.int (iI (0)), .int (iI (((n : Nat) : Int))), .ref mnw, .ref mte, .ref mge, .ref mus, .int (iI (((p : Nat) : Int))), .int (iI (((st : Nat) : Int))), .int (iI (cc)), .int (iI (bc)), .ref mco, .ref mfl, .ref mba, .ref mdu, .long (lI (pot)), .long (lI (gr)), .long (lI (bk)), .int (iI (btw)), .int (iI (bhd))])), (mnw, .inl (k4 0, 19, .inl (fun i9 => iI ((up NW (7 + m) (a)) i9))))] H locs := G
  refine z_aload_n E hl 1 rfl dX5_setMember_70 rfl ?_
  refine kg_X5_9 E G 0 rfl rfl dX5_setMember_71 ?_
  refine z_bipush E dX5_setMember_74 (by decide) ?_
  refine z_iload_n E hl 2 rfl dX5_setMember_76 rfl ?_
  refine z_iadd E dX5_setMember_77 ?_
  refine z_iload_n E hl 4 rfl dX5_setMember_78 rfl ?_
  refine z_iast E G 1 rfl (13 + m) (by omega) (by omega) (by decide) dX5_setMember_79 (fun H locs G => ?_)
  have G : zG D AA ss.heap [(mo, .inr (5, [.int (iI (0)), .int (iI (((n : Nat) : Int))), .ref mnw, .ref mte, .ref mge, .ref mus, .int (iI (((p : Nat) : Int))), .int (iI (((st : Nat) : Int))), .int (iI (cc)), .int (iI (bc)), .ref mco, .ref mfl, .ref mba, .ref mdu, .long (lI (pot)), .long (lI (gr)), .long (lI (bk)), .int (iI (btw)), .int (iI (bhd))])), (mnw, .inl (k4 0, 19, .inl (fun i9 => iI ((up (up NW (7 + m) (a)) (13 + m) (b)) i9))))] H locs := G
  refine z_iload E hl 0 rfl dX5_setMember_80 ?_
  refine z_eq (y := NW (7 + m)) rfl ?_
  exact z_iret (w' := [(mo, .inr (5, [.int (iI (0)), .int (iI (((n : Nat) : Int))), .ref mnw, .ref mte, .ref mge, .ref mus, .int (iI (((p : Nat) : Int))), .int (iI (((st : Nat) : Int))), .int (iI (cc)), .int (iI (bc)), .ref mco, .ref mfl, .ref mba, .ref mdu, .long (lI (pot)), .long (lI (gr)), .long (lI (bk)), .int (iI (btw)), .int (iI (bhd))])), (mnw, .inl (k4 0, 19, .inl (fun i9 => iI ((up (up NW (7 + m) (a)) (13 + m) (b)) i9))))]) (v := NW (7 + m)) E hr hlocks G dX5_setMember_82 (by omega) (by omega) (zx0 rfl) ⟨rfl, rfl⟩

def q_c_X5_setMember_0 (k4 : Nat → ClassId) (mo mnw mte mge mus mco mfl mba mdu : Nat) (th : Int) (n p st : Nat) (cc bc pot gr bk btw bhd : Int) (m a b : Int) : Option Value → va_W → Prop := (fun (v9 : Option Value) (w9 : va_W) => v9 = some (.int (iI (0))) ∧ w9 = [(mo, .inr (5, [.int (iI (1)), .int (iI (((n : Nat) : Int))), .ref mnw, .ref mte, .ref mge, .ref mus, .int (iI (((p : Nat) : Int))), .int (iI (((st : Nat) : Int))), .int (iI (cc)), .int (iI (bc)), .ref mco, .ref mfl, .ref mba, .ref mdu, .long (lI (pot)), .long (lI (gr)), .long (lI (bk)), .int (iI (btw)), .int (iI (bhd))]))])
set_option maxHeartbeats 4000000 in
set_option maxRecDepth 100000 in
theorem c_X5_setMember_0 (l : Launch) (D : va_G) (k4 : Nat → ClassId) (mo mnw mte mge mus mco mfl mba mdu : Nat) (th : Int) (n p st : Nat) (cc bc pot gr bk btw bhd : Int) (m a b : Int) (hn : n ≤ 6) (hm : (-2147483648 ≤ m ∧ m ≤ 2147483647) ∧ (m < 0 ∨ (n : Int) ≤ m)) : zC l yX5_setMember (zW yX5_setMember cX5_setMember 5 (some .int)) ({ frames := 2, cells := 0, slots := 0, locals := 46 } : Room) D k4 [.ref mo, .int (iI (m)), .int (iI (a)), .int (iI (b))] [(mo, .inr (5, [.int (iI (th)), .int (iI (((n : Nat) : Int))), .ref mnw, .ref mte, .ref mge, .ref mus, .int (iI (((p : Nat) : Int))), .int (iI (((st : Nat) : Int))), .int (iI (cc)), .int (iI (bc)), .ref mco, .ref mfl, .ref mba, .ref mdu, .long (lI (pot)), .long (lI (gr)), .long (lI (bk)), .int (iI (btw)), .int (iI (bhd))]))] (0) (0) (q_c_X5_setMember_0 k4 mo mnw mte mge mus mco mfl mba mdu th n p st cc bc pot gr bk btw bhd m a b) := by
  refine zC_of (cc := cX5_setMember) (by decide) (Nat.le_of_ble_eq_true rfl) (fun pp ee ss mm bl me co AA H locs ls E hr hlocks hin G hl => ?_)
  have hl : lv_has ls 5 [(0, .ref mo), (1, .int (iI (m))), (2, .int (iI (a))), (3, .int (iI (b)))] := hl
  refine z_aload_n E hl 0 rfl dX5_setMember_0 rfl ?_
  refine z_iconst E dX5_setMember_1 ?_
  refine kp_X5_35 E G 0 rfl (Nat.le_of_ble_eq_true rfl) dX5_setMember_2 (fun H locs G => ?_)
  have G : zG D AA ss.heap [(mo, .inr (5, [.int (iI (0)), .int (iI (((n : Nat) : Int))), .ref mnw, .ref mte, .ref mge, .ref mus, .int (iI (((p : Nat) : Int))), .int (iI (((st : Nat) : Int))), .int (iI (cc)), .int (iI (bc)), .ref mco, .ref mfl, .ref mba, .ref mdu, .long (lI (pot)), .long (lI (gr)), .long (lI (bk)), .int (iI (btw)), .int (iI (bhd))]))] H locs := G
  refine z_aload_n E hl 0 rfl dX5_setMember_5 rfl ?_
  refine z_iload_n E hl 1 rfl dX5_setMember_6 rfl ?_
  refine z_callV E G hl.1 (c_X5_isMemberF l D k4 mo mnw mte mge mus mco mfl mba mdu 0 n p st cc bc pot gr bk btw bhd m (by omega) ⟨by omega, by omega⟩ hn) kV_X5_55 ⟨rfl, rfl, Nat.le_of_ble_eq_true rfl, Nat.le_of_ble_eq_true rfl⟩ [0] rfl (by decide) 0 5 rfl rfl rfl rfl rfl (Nat.le_of_ble_eq_true rfl) dX5_setMember_7 ⟨(by first | exact Nat.le_of_ble_eq_true rfl | omega | (show _ ≤ (0); omega)), (by first | exact Nat.le_of_ble_eq_true rfl | omega | (show _ ≤ (0); omega))⟩ (fun v9 w9 H locs hq G => ?_)
  obtain ⟨rfl, rfl⟩ := hq
  refine W.eq (g2 := F0 mm 10 ls [.int (iI (0))]) rfl ?_
  have G : zG D AA ss.heap [(mo, .inr (5, [.int (iI (0)), .int (iI (((n : Nat) : Int))), .ref mnw, .ref mte, .ref mge, .ref mus, .int (iI (((p : Nat) : Int))), .int (iI (((st : Nat) : Int))), .int (iI (cc)), .int (iI (bc)), .ref mco, .ref mfl, .ref mba, .ref mdu, .long (lI (pot)), .long (lI (gr)), .long (lI (bk)), .int (iI (btw)), .int (iI (bhd))]))] H locs := G
  refine z_if_ne (tgt := 19) E dX5_setMember_10 (by decide) (by decide) (fun c_10 => absurd c_10 (by decide)) (fun c_10 => ?_)
  refine z_aload_n E hl 0 rfl dX5_setMember_13 rfl ?_
  refine z_iconst E dX5_setMember_14 ?_
  refine z_callV E G hl.1 (c_X5_no l D k4 mo mnw mte mge mus mco mfl mba mdu 0 n p st cc bc pot gr bk btw bhd 1 ) kV_X5_51 ⟨rfl, rfl, Nat.le_of_ble_eq_true rfl, Nat.le_of_ble_eq_true rfl⟩ [0] rfl (by decide) 0 5 rfl rfl rfl rfl rfl (Nat.le_of_ble_eq_true rfl) dX5_setMember_15 ⟨(by first | exact Nat.le_of_ble_eq_true rfl | omega | (show _ ≤ (0); omega)), (by first | exact Nat.le_of_ble_eq_true rfl | omega | (show _ ≤ (0); omega))⟩ (fun v9 w9 H locs hq G => ?_)
  obtain ⟨rfl, rfl⟩ := hq
  refine W.eq (g2 := F0 mm 18 ls [.int (iI (0))]) rfl ?_
  have G : zG D AA ss.heap [(mo, .inr (5, [.int (iI (1)), .int (iI (((n : Nat) : Int))), .ref mnw, .ref mte, .ref mge, .ref mus, .int (iI (((p : Nat) : Int))), .int (iI (((st : Nat) : Int))), .int (iI (cc)), .int (iI (bc)), .ref mco, .ref mfl, .ref mba, .ref mdu, .long (lI (pot)), .long (lI (gr)), .long (lI (bk)), .int (iI (btw)), .int (iI (bhd))]))] H locs := G
  exact z_iret (w' := [(mo, .inr (5, [.int (iI (1)), .int (iI (((n : Nat) : Int))), .ref mnw, .ref mte, .ref mge, .ref mus, .int (iI (((p : Nat) : Int))), .int (iI (((st : Nat) : Int))), .int (iI (cc)), .int (iI (bc)), .ref mco, .ref mfl, .ref mba, .ref mdu, .long (lI (pot)), .long (lI (gr)), .long (lI (bk)), .int (iI (btw)), .int (iI (bhd))]))]) (v := 0) E hr hlocks G dX5_setMember_18 (by omega) (by omega) (zx0 rfl) ⟨rfl, rfl⟩

def q_c_X5_setMember_1 (k4 : Nat → ClassId) (mo mnw mte mge mus mco mfl mba mdu : Nat) (th : Int) (n p st : Nat) (cc bc pot gr bk btw bhd : Int) (m : Nat) (a b : Int) : Option Value → va_W → Prop := (fun (v9 : Option Value) (w9 : va_W) => v9 = some (.int (iI (0))) ∧ w9 = [(mo, .inr (5, [.int (iI (2)), .int (iI (((n : Nat) : Int))), .ref mnw, .ref mte, .ref mge, .ref mus, .int (iI (((p : Nat) : Int))), .int (iI (((st : Nat) : Int))), .int (iI (cc)), .int (iI (bc)), .ref mco, .ref mfl, .ref mba, .ref mdu, .long (lI (pot)), .long (lI (gr)), .long (lI (bk)), .int (iI (btw)), .int (iI (bhd))]))])
set_option maxHeartbeats 4000000 in
set_option maxRecDepth 100000 in
theorem c_X5_setMember_1 (l : Launch) (D : va_G) (k4 : Nat → ClassId) (mo mnw mte mge mus mco mfl mba mdu : Nat) (th : Int) (n p st : Nat) (cc bc pot gr bk btw bhd : Int) (m : Nat) (a b : Int) (hn : n ≤ 6) (hm : m < n) (ha : (-2147483648 ≤ a ∧ a ≤ 2147483647) ∧ (a < 0 ∨ 100 < a)) : zC l yX5_setMember (zW yX5_setMember cX5_setMember 5 (some .int)) ({ frames := 2, cells := 0, slots := 0, locals := 46 } : Room) D k4 [.ref mo, .int (iI (((m : Nat) : Int))), .int (iI (a)), .int (iI (b))] [(mo, .inr (5, [.int (iI (th)), .int (iI (((n : Nat) : Int))), .ref mnw, .ref mte, .ref mge, .ref mus, .int (iI (((p : Nat) : Int))), .int (iI (((st : Nat) : Int))), .int (iI (cc)), .int (iI (bc)), .ref mco, .ref mfl, .ref mba, .ref mdu, .long (lI (pot)), .long (lI (gr)), .long (lI (bk)), .int (iI (btw)), .int (iI (bhd))]))] (0) (0) (q_c_X5_setMember_1 k4 mo mnw mte mge mus mco mfl mba mdu th n p st cc bc pot gr bk btw bhd m a b) := by
  refine zC_of (cc := cX5_setMember) (by decide) (Nat.le_of_ble_eq_true rfl) (fun pp ee ss mm bl me co AA H locs ls E hr hlocks hin G hl => ?_)
  have hl : lv_has ls 5 [(0, .ref mo), (1, .int (iI (((m : Nat) : Int)))), (2, .int (iI (a))), (3, .int (iI (b)))] := hl
  refine z_aload_n E hl 0 rfl dX5_setMember_0 rfl ?_
  refine z_iconst E dX5_setMember_1 ?_
  refine kp_X5_35 E G 0 rfl (Nat.le_of_ble_eq_true rfl) dX5_setMember_2 (fun H locs G => ?_)
  have G : zG D AA ss.heap [(mo, .inr (5, [.int (iI (0)), .int (iI (((n : Nat) : Int))), .ref mnw, .ref mte, .ref mge, .ref mus, .int (iI (((p : Nat) : Int))), .int (iI (((st : Nat) : Int))), .int (iI (cc)), .int (iI (bc)), .ref mco, .ref mfl, .ref mba, .ref mdu, .long (lI (pot)), .long (lI (gr)), .long (lI (bk)), .int (iI (btw)), .int (iI (bhd))]))] H locs := G
  refine z_aload_n E hl 0 rfl dX5_setMember_5 rfl ?_
  refine z_iload_n E hl 1 rfl dX5_setMember_6 rfl ?_
  refine z_callV E G hl.1 (c_X5_isMember l D k4 mo mnw mte mge mus mco mfl mba mdu 0 n p st cc bc pot gr bk btw bhd (((m : Nat) : Int)) (by omega) ⟨by omega, by omega⟩ hn) kV_X5_55 ⟨rfl, rfl, Nat.le_of_ble_eq_true rfl, Nat.le_of_ble_eq_true rfl⟩ [0] rfl (by decide) 0 5 rfl rfl rfl rfl rfl (Nat.le_of_ble_eq_true rfl) dX5_setMember_7 ⟨(by first | exact Nat.le_of_ble_eq_true rfl | omega | (show _ ≤ (0); omega)), (by first | exact Nat.le_of_ble_eq_true rfl | omega | (show _ ≤ (0); omega))⟩ (fun v9 w9 H locs hq G => ?_)
  obtain ⟨rfl, rfl⟩ := hq
  refine W.eq (g2 := F0 mm 10 ls [.int (iI (1))]) rfl ?_
  have G : zG D AA ss.heap [(mo, .inr (5, [.int (iI (0)), .int (iI (((n : Nat) : Int))), .ref mnw, .ref mte, .ref mge, .ref mus, .int (iI (((p : Nat) : Int))), .int (iI (((st : Nat) : Int))), .int (iI (cc)), .int (iI (bc)), .ref mco, .ref mfl, .ref mba, .ref mdu, .long (lI (pot)), .long (lI (gr)), .long (lI (bk)), .int (iI (btw)), .int (iI (bhd))]))] H locs := G
  refine z_if_ne (tgt := 19) E dX5_setMember_10 (by decide) (by decide) (fun c_10 => ?_) (fun c_10 => absurd c_10 (by decide))
  refine z_iload_n E hl 2 rfl dX5_setMember_19 rfl ?_
  refine z_i2l E dX5_setMember_20 ⟨by omega, by omega⟩ ?_
  refine z_lconst E (z := 0) dX5_setMember_21 (by decide) ?_
  refine z_ldc2 E (n := (100)) zw_135 (by decide +kernel) dX5_setMember_22 ?_
  refine z_callS E G hl.1 (c_X5_isInF l D k4 a 0 100 (by omega) ⟨⟨by omega, by omega⟩, ⟨by omega, by omega⟩, ⟨by omega, by omega⟩⟩) kS_X5_42 ⟨rfl, rfl, Nat.le_of_ble_eq_true rfl, Nat.le_of_ble_eq_true rfl⟩ [] rfl (by decide) rfl rfl (Nat.le_of_ble_eq_true rfl) dX5_setMember_25 ⟨(by first | exact Nat.le_of_ble_eq_true rfl | omega | (show _ ≤ (0); omega)), (by first | exact Nat.le_of_ble_eq_true rfl | omega | (show _ ≤ (0); omega))⟩ (fun v9 w9 H locs hq G => ?_)
  obtain ⟨rfl, rfl⟩ := hq
  refine W.eq (g2 := F0 mm 28 ls [.int (iI (0))]) rfl ?_
  have G : zG D AA ss.heap [(mo, .inr (5, [.int (iI (0)), .int (iI (((n : Nat) : Int))), .ref mnw, .ref mte, .ref mge, .ref mus, .int (iI (((p : Nat) : Int))), .int (iI (((st : Nat) : Int))), .int (iI (cc)), .int (iI (bc)), .ref mco, .ref mfl, .ref mba, .ref mdu, .long (lI (pot)), .long (lI (gr)), .long (lI (bk)), .int (iI (btw)), .int (iI (bhd))]))] H locs := G
  refine z_if_eq (tgt := 43) E dX5_setMember_28 (by decide) (by decide) (fun c_28 => ?_) (fun c_28 => absurd c_28 (by decide))
  refine z_aload_n E hl 0 rfl dX5_setMember_43 rfl ?_
  refine z_iconst E dX5_setMember_44 ?_
  refine z_callV E G hl.1 (c_X5_no l D k4 mo mnw mte mge mus mco mfl mba mdu 0 n p st cc bc pot gr bk btw bhd 2 ) kV_X5_51 ⟨rfl, rfl, Nat.le_of_ble_eq_true rfl, Nat.le_of_ble_eq_true rfl⟩ [0] rfl (by decide) 0 5 rfl rfl rfl rfl rfl (Nat.le_of_ble_eq_true rfl) dX5_setMember_45 ⟨(by first | exact Nat.le_of_ble_eq_true rfl | omega | (show _ ≤ (0); omega)), (by first | exact Nat.le_of_ble_eq_true rfl | omega | (show _ ≤ (0); omega))⟩ (fun v9 w9 H locs hq G => ?_)
  obtain ⟨rfl, rfl⟩ := hq
  refine W.eq (g2 := F0 mm 48 ls [.int (iI (0))]) rfl ?_
  have G : zG D AA ss.heap [(mo, .inr (5, [.int (iI (2)), .int (iI (((n : Nat) : Int))), .ref mnw, .ref mte, .ref mge, .ref mus, .int (iI (((p : Nat) : Int))), .int (iI (((st : Nat) : Int))), .int (iI (cc)), .int (iI (bc)), .ref mco, .ref mfl, .ref mba, .ref mdu, .long (lI (pot)), .long (lI (gr)), .long (lI (bk)), .int (iI (btw)), .int (iI (bhd))]))] H locs := G
  exact z_iret (w' := [(mo, .inr (5, [.int (iI (2)), .int (iI (((n : Nat) : Int))), .ref mnw, .ref mte, .ref mge, .ref mus, .int (iI (((p : Nat) : Int))), .int (iI (((st : Nat) : Int))), .int (iI (cc)), .int (iI (bc)), .ref mco, .ref mfl, .ref mba, .ref mdu, .long (lI (pot)), .long (lI (gr)), .long (lI (bk)), .int (iI (btw)), .int (iI (bhd))]))]) (v := 0) E hr hlocks G dX5_setMember_48 (by omega) (by omega) (zx0 rfl) ⟨rfl, rfl⟩

def q_c_X5_setMember_2 (k4 : Nat → ClassId) (mo mnw mte mge mus mco mfl mba mdu : Nat) (th : Int) (n p st : Nat) (cc bc pot gr bk btw bhd : Int) (m : Nat) (a b : Int) : Option Value → va_W → Prop := (fun (v9 : Option Value) (w9 : va_W) => v9 = some (.int (iI (0))) ∧ w9 = [(mo, .inr (5, [.int (iI (2)), .int (iI (((n : Nat) : Int))), .ref mnw, .ref mte, .ref mge, .ref mus, .int (iI (((p : Nat) : Int))), .int (iI (((st : Nat) : Int))), .int (iI (cc)), .int (iI (bc)), .ref mco, .ref mfl, .ref mba, .ref mdu, .long (lI (pot)), .long (lI (gr)), .long (lI (bk)), .int (iI (btw)), .int (iI (bhd))]))])
set_option maxHeartbeats 4000000 in
set_option maxRecDepth 100000 in
theorem c_X5_setMember_2 (l : Launch) (D : va_G) (k4 : Nat → ClassId) (mo mnw mte mge mus mco mfl mba mdu : Nat) (th : Int) (n p st : Nat) (cc bc pot gr bk btw bhd : Int) (m : Nat) (a b : Int) (hn : n ≤ 6) (hm : m < n) (ha : 0 ≤ a ∧ a ≤ 100) (hb : (-2147483648 ≤ b ∧ b ≤ 2147483647) ∧ (b < 0 ∨ 99 < b)) : zC l yX5_setMember (zW yX5_setMember cX5_setMember 5 (some .int)) ({ frames := 2, cells := 0, slots := 0, locals := 46 } : Room) D k4 [.ref mo, .int (iI (((m : Nat) : Int))), .int (iI (a)), .int (iI (b))] [(mo, .inr (5, [.int (iI (th)), .int (iI (((n : Nat) : Int))), .ref mnw, .ref mte, .ref mge, .ref mus, .int (iI (((p : Nat) : Int))), .int (iI (((st : Nat) : Int))), .int (iI (cc)), .int (iI (bc)), .ref mco, .ref mfl, .ref mba, .ref mdu, .long (lI (pot)), .long (lI (gr)), .long (lI (bk)), .int (iI (btw)), .int (iI (bhd))]))] (0) (0) (q_c_X5_setMember_2 k4 mo mnw mte mge mus mco mfl mba mdu th n p st cc bc pot gr bk btw bhd m a b) := by
  refine zC_of (cc := cX5_setMember) (by decide) (Nat.le_of_ble_eq_true rfl) (fun pp ee ss mm bl me co AA H locs ls E hr hlocks hin G hl => ?_)
  have hl : lv_has ls 5 [(0, .ref mo), (1, .int (iI (((m : Nat) : Int)))), (2, .int (iI (a))), (3, .int (iI (b)))] := hl
  refine z_aload_n E hl 0 rfl dX5_setMember_0 rfl ?_
  refine z_iconst E dX5_setMember_1 ?_
  refine kp_X5_35 E G 0 rfl (Nat.le_of_ble_eq_true rfl) dX5_setMember_2 (fun H locs G => ?_)
  have G : zG D AA ss.heap [(mo, .inr (5, [.int (iI (0)), .int (iI (((n : Nat) : Int))), .ref mnw, .ref mte, .ref mge, .ref mus, .int (iI (((p : Nat) : Int))), .int (iI (((st : Nat) : Int))), .int (iI (cc)), .int (iI (bc)), .ref mco, .ref mfl, .ref mba, .ref mdu, .long (lI (pot)), .long (lI (gr)), .long (lI (bk)), .int (iI (btw)), .int (iI (bhd))]))] H locs := G
  refine z_aload_n E hl 0 rfl dX5_setMember_5 rfl ?_
  refine z_iload_n E hl 1 rfl dX5_setMember_6 rfl ?_
  refine z_callV E G hl.1 (c_X5_isMember l D k4 mo mnw mte mge mus mco mfl mba mdu 0 n p st cc bc pot gr bk btw bhd (((m : Nat) : Int)) (by omega) ⟨by omega, by omega⟩ hn) kV_X5_55 ⟨rfl, rfl, Nat.le_of_ble_eq_true rfl, Nat.le_of_ble_eq_true rfl⟩ [0] rfl (by decide) 0 5 rfl rfl rfl rfl rfl (Nat.le_of_ble_eq_true rfl) dX5_setMember_7 ⟨(by first | exact Nat.le_of_ble_eq_true rfl | omega | (show _ ≤ (0); omega)), (by first | exact Nat.le_of_ble_eq_true rfl | omega | (show _ ≤ (0); omega))⟩ (fun v9 w9 H locs hq G => ?_)
  obtain ⟨rfl, rfl⟩ := hq
  refine W.eq (g2 := F0 mm 10 ls [.int (iI (1))]) rfl ?_
  have G : zG D AA ss.heap [(mo, .inr (5, [.int (iI (0)), .int (iI (((n : Nat) : Int))), .ref mnw, .ref mte, .ref mge, .ref mus, .int (iI (((p : Nat) : Int))), .int (iI (((st : Nat) : Int))), .int (iI (cc)), .int (iI (bc)), .ref mco, .ref mfl, .ref mba, .ref mdu, .long (lI (pot)), .long (lI (gr)), .long (lI (bk)), .int (iI (btw)), .int (iI (bhd))]))] H locs := G
  refine z_if_ne (tgt := 19) E dX5_setMember_10 (by decide) (by decide) (fun c_10 => ?_) (fun c_10 => absurd c_10 (by decide))
  refine z_iload_n E hl 2 rfl dX5_setMember_19 rfl ?_
  refine z_i2l E dX5_setMember_20 ⟨by omega, by omega⟩ ?_
  refine z_lconst E (z := 0) dX5_setMember_21 (by decide) ?_
  refine z_ldc2 E (n := (100)) zw_135 (by decide +kernel) dX5_setMember_22 ?_
  refine z_callS E G hl.1 (c_X5_isIn l D k4 a 0 100 (by omega) ⟨⟨by omega, by omega⟩, ⟨by omega, by omega⟩, ⟨by omega, by omega⟩⟩) kS_X5_42 ⟨rfl, rfl, Nat.le_of_ble_eq_true rfl, Nat.le_of_ble_eq_true rfl⟩ [] rfl (by decide) rfl rfl (Nat.le_of_ble_eq_true rfl) dX5_setMember_25 ⟨(by first | exact Nat.le_of_ble_eq_true rfl | omega | (show _ ≤ (0); omega)), (by first | exact Nat.le_of_ble_eq_true rfl | omega | (show _ ≤ (0); omega))⟩ (fun v9 w9 H locs hq G => ?_)
  obtain ⟨rfl, rfl⟩ := hq
  refine W.eq (g2 := F0 mm 28 ls [.int (iI (1))]) rfl ?_
  have G : zG D AA ss.heap [(mo, .inr (5, [.int (iI (0)), .int (iI (((n : Nat) : Int))), .ref mnw, .ref mte, .ref mge, .ref mus, .int (iI (((p : Nat) : Int))), .int (iI (((st : Nat) : Int))), .int (iI (cc)), .int (iI (bc)), .ref mco, .ref mfl, .ref mba, .ref mdu, .long (lI (pot)), .long (lI (gr)), .long (lI (bk)), .int (iI (btw)), .int (iI (bhd))]))] H locs := G
  refine z_if_eq (tgt := 43) E dX5_setMember_28 (by decide) (by decide) (fun c_28 => absurd c_28 (by decide)) (fun c_28 => ?_)
  refine z_iload_n E hl 3 rfl dX5_setMember_31 rfl ?_
  refine z_i2l E dX5_setMember_32 ⟨by omega, by omega⟩ ?_
  refine z_lconst E (z := 0) dX5_setMember_33 (by decide) ?_
  refine z_ldc2 E (n := (99)) zw_136 (by decide +kernel) dX5_setMember_34 ?_
  refine z_callS E G hl.1 (c_X5_isInF l D k4 b 0 99 (by omega) ⟨⟨by omega, by omega⟩, ⟨by omega, by omega⟩, ⟨by omega, by omega⟩⟩) kS_X5_42 ⟨rfl, rfl, Nat.le_of_ble_eq_true rfl, Nat.le_of_ble_eq_true rfl⟩ [] rfl (by decide) rfl rfl (Nat.le_of_ble_eq_true rfl) dX5_setMember_37 ⟨(by first | exact Nat.le_of_ble_eq_true rfl | omega | (show _ ≤ (0); omega)), (by first | exact Nat.le_of_ble_eq_true rfl | omega | (show _ ≤ (0); omega))⟩ (fun v9 w9 H locs hq G => ?_)
  obtain ⟨rfl, rfl⟩ := hq
  refine W.eq (g2 := F0 mm 40 ls [.int (iI (0))]) rfl ?_
  have G : zG D AA ss.heap [(mo, .inr (5, [.int (iI (0)), .int (iI (((n : Nat) : Int))), .ref mnw, .ref mte, .ref mge, .ref mus, .int (iI (((p : Nat) : Int))), .int (iI (((st : Nat) : Int))), .int (iI (cc)), .int (iI (bc)), .ref mco, .ref mfl, .ref mba, .ref mdu, .long (lI (pot)), .long (lI (gr)), .long (lI (bk)), .int (iI (btw)), .int (iI (bhd))]))] H locs := G
  refine z_if_ne (tgt := 49) E dX5_setMember_40 (by decide) (by decide) (fun c_40 => absurd c_40 (by decide)) (fun c_40 => ?_)
  refine z_aload_n E hl 0 rfl dX5_setMember_43 rfl ?_
  refine z_iconst E dX5_setMember_44 ?_
  refine z_callV E G hl.1 (c_X5_no l D k4 mo mnw mte mge mus mco mfl mba mdu 0 n p st cc bc pot gr bk btw bhd 2 ) kV_X5_51 ⟨rfl, rfl, Nat.le_of_ble_eq_true rfl, Nat.le_of_ble_eq_true rfl⟩ [0] rfl (by decide) 0 5 rfl rfl rfl rfl rfl (Nat.le_of_ble_eq_true rfl) dX5_setMember_45 ⟨(by first | exact Nat.le_of_ble_eq_true rfl | omega | (show _ ≤ (0); omega)), (by first | exact Nat.le_of_ble_eq_true rfl | omega | (show _ ≤ (0); omega))⟩ (fun v9 w9 H locs hq G => ?_)
  obtain ⟨rfl, rfl⟩ := hq
  refine W.eq (g2 := F0 mm 48 ls [.int (iI (0))]) rfl ?_
  have G : zG D AA ss.heap [(mo, .inr (5, [.int (iI (2)), .int (iI (((n : Nat) : Int))), .ref mnw, .ref mte, .ref mge, .ref mus, .int (iI (((p : Nat) : Int))), .int (iI (((st : Nat) : Int))), .int (iI (cc)), .int (iI (bc)), .ref mco, .ref mfl, .ref mba, .ref mdu, .long (lI (pot)), .long (lI (gr)), .long (lI (bk)), .int (iI (btw)), .int (iI (bhd))]))] H locs := G
  exact z_iret (w' := [(mo, .inr (5, [.int (iI (2)), .int (iI (((n : Nat) : Int))), .ref mnw, .ref mte, .ref mge, .ref mus, .int (iI (((p : Nat) : Int))), .int (iI (((st : Nat) : Int))), .int (iI (cc)), .int (iI (bc)), .ref mco, .ref mfl, .ref mba, .ref mdu, .long (lI (pot)), .long (lI (gr)), .long (lI (bk)), .int (iI (btw)), .int (iI (bhd))]))]) (v := 0) E hr hlocks G dX5_setMember_48 (by omega) (by omega) (zx0 rfl) ⟨rfl, rfl⟩

def q_c_X5_setRule (k4 : Nat → ClassId) (mo mnw mte mge mus mco mfl mba mdu : Nat) (th : Int) (n p st : Nat) (cc bc pot gr bk btw bhd : Int) (a : Int) (NW : Nat → Int) : Option Value → va_W → Prop := (fun (v9 : Option Value) (w9 : va_W) => v9 = some (.int (iI (NW 0))) ∧ w9 = [(mo, .inr (5, [.int (iI (0)), .int (iI (((n : Nat) : Int))), .ref mnw, .ref mte, .ref mge, .ref mus, .int (iI (((p : Nat) : Int))), .int (iI (((st : Nat) : Int))), .int (iI (cc)), .int (iI (bc)), .ref mco, .ref mfl, .ref mba, .ref mdu, .long (lI (pot)), .long (lI (gr)), .long (lI (bk)), .int (iI (btw)), .int (iI (bhd))])), (mnw, .inl (k4 0, 19, .inl (fun i9 => iI ((up NW 0 a) i9))))])
set_option maxHeartbeats 4000000 in
set_option maxRecDepth 100000 in
theorem c_X5_setRule (l : Launch) (D : va_G) (k4 : Nat → ClassId) (mo mnw mte mge mus mco mfl mba mdu : Nat) (th : Int) (n p st : Nat) (cc bc pot gr bk btw bhd : Int) (a : Int) (NW : Nat → Int) (hn : n ≤ 6) (ha : 0 ≤ a ∧ a ≤ 3) : zC l yX5_setRule (zW yX5_setRule cX5_setRule 3 (some .int)) ({ frames := 1, cells := 0, slots := 0, locals := 25 } : Room) D k4 [.ref mo, .int (iI (a))] [(mo, .inr (5, [.int (iI (th)), .int (iI (((n : Nat) : Int))), .ref mnw, .ref mte, .ref mge, .ref mus, .int (iI (((p : Nat) : Int))), .int (iI (((st : Nat) : Int))), .int (iI (cc)), .int (iI (bc)), .ref mco, .ref mfl, .ref mba, .ref mdu, .long (lI (pot)), .long (lI (gr)), .long (lI (bk)), .int (iI (btw)), .int (iI (bhd))])), (mnw, .inl (k4 0, 19, .inl (fun i9 => iI (NW i9))))] (0) (0) (q_c_X5_setRule k4 mo mnw mte mge mus mco mfl mba mdu th n p st cc bc pot gr bk btw bhd a NW) := by
  refine zC_of (cc := cX5_setRule) (by decide) (Nat.le_of_ble_eq_true rfl) (fun pp ee ss mm bl me co AA H locs ls E hr hlocks hin G hl => ?_)
  have hl : lv_has ls 3 [(0, .ref mo), (1, .int (iI (a)))] := hl
  refine z_aload_n E hl 0 rfl dX5_setRule_0 rfl ?_
  refine z_iconst E dX5_setRule_1 ?_
  refine kp_X5_35 E G 0 rfl (Nat.le_of_ble_eq_true rfl) dX5_setRule_2 (fun H locs G => ?_)
  have G : zG D AA ss.heap [(mo, .inr (5, [.int (iI (0)), .int (iI (((n : Nat) : Int))), .ref mnw, .ref mte, .ref mge, .ref mus, .int (iI (((p : Nat) : Int))), .int (iI (((st : Nat) : Int))), .int (iI (cc)), .int (iI (bc)), .ref mco, .ref mfl, .ref mba, .ref mdu, .long (lI (pot)), .long (lI (gr)), .long (lI (bk)), .int (iI (btw)), .int (iI (bhd))])), (mnw, .inl (k4 0, 19, .inl (fun i9 => iI (NW i9))))] H locs := G
  refine z_iload_n E hl 1 rfl dX5_setRule_5 rfl ?_
  refine z_i2l E dX5_setRule_6 ⟨by omega, by omega⟩ ?_
  refine z_lconst E (z := 0) dX5_setRule_7 (by decide) ?_
  refine z_ldc2 E (n := (3)) zw_156 (by decide +kernel) dX5_setRule_8 ?_
  refine z_callS E G hl.1 (c_X5_isIn l D k4 a 0 3 (by omega) ⟨⟨by omega, by omega⟩, ⟨by omega, by omega⟩, ⟨by omega, by omega⟩⟩) kS_X5_42 ⟨rfl, rfl, Nat.le_of_ble_eq_true rfl, Nat.le_of_ble_eq_true rfl⟩ [] rfl (by decide) rfl rfl (Nat.le_of_ble_eq_true rfl) dX5_setRule_11 ⟨(by first | exact Nat.le_of_ble_eq_true rfl | omega | (show _ ≤ (0); omega)), (by first | exact Nat.le_of_ble_eq_true rfl | omega | (show _ ≤ (0); omega))⟩ (fun v9 w9 H locs hq G => ?_)
  obtain ⟨rfl, rfl⟩ := hq
  refine W.eq (g2 := F0 mm 14 ls [.int (iI (1))]) rfl ?_
  have G : zG D AA ss.heap [(mo, .inr (5, [.int (iI (0)), .int (iI (((n : Nat) : Int))), .ref mnw, .ref mte, .ref mge, .ref mus, .int (iI (((p : Nat) : Int))), .int (iI (((st : Nat) : Int))), .int (iI (cc)), .int (iI (bc)), .ref mco, .ref mfl, .ref mba, .ref mdu, .long (lI (pot)), .long (lI (gr)), .long (lI (bk)), .int (iI (btw)), .int (iI (bhd))])), (mnw, .inl (k4 0, 19, .inl (fun i9 => iI (NW i9))))] H locs := G
  refine z_if_ne (tgt := 23) E dX5_setRule_14 (by decide) (by decide) (fun c_14 => ?_) (fun c_14 => absurd c_14 (by decide))
  refine z_aload_n E hl 0 rfl dX5_setRule_23 rfl ?_
  refine kg_X5_9 E G 0 rfl rfl dX5_setRule_24 ?_
  refine z_iconst E dX5_setRule_27 ?_
  refine z_iald E G 1 rfl (0) rfl (by decide) (by decide) dX5_setRule_28 ?_
  refine z_istore_n E [(2, .int (iI (NW 0))), (0, .ref mo), (1, .int (iI (a)))] dX5_setRule_29 rfl hl (by decide) rfl (fun ls hl => ?_)
  refine z_aload_n E hl 1 rfl dX5_setRule_30 rfl ?_
  refine kg_X5_9 E G 0 rfl rfl dX5_setRule_31 ?_
  refine z_iconst E dX5_setRule_34 ?_
  refine z_iload_n E hl 2 rfl dX5_setRule_35 rfl ?_
  refine z_iast E G 1 rfl (0) rfl (by decide) (by decide) dX5_setRule_36 (fun H locs G => ?_)
  have G : zG D AA ss.heap [(mo, .inr (5, [.int (iI (0)), .int (iI (((n : Nat) : Int))), .ref mnw, .ref mte, .ref mge, .ref mus, .int (iI (((p : Nat) : Int))), .int (iI (((st : Nat) : Int))), .int (iI (cc)), .int (iI (bc)), .ref mco, .ref mfl, .ref mba, .ref mdu, .long (lI (pot)), .long (lI (gr)), .long (lI (bk)), .int (iI (btw)), .int (iI (bhd))])), (mnw, .inl (k4 0, 19, .inl (fun i9 => iI ((up NW (0) (a)) i9))))] H locs := G
  refine z_iload_n E hl 0 rfl dX5_setRule_37 rfl ?_
  refine z_eq (y := NW 0) rfl ?_
  exact z_iret (w' := [(mo, .inr (5, [.int (iI (0)), .int (iI (((n : Nat) : Int))), .ref mnw, .ref mte, .ref mge, .ref mus, .int (iI (((p : Nat) : Int))), .int (iI (((st : Nat) : Int))), .int (iI (cc)), .int (iI (bc)), .ref mco, .ref mfl, .ref mba, .ref mdu, .long (lI (pot)), .long (lI (gr)), .long (lI (bk)), .int (iI (btw)), .int (iI (bhd))])), (mnw, .inl (k4 0, 19, .inl (fun i9 => iI ((up NW (0) (a)) i9))))]) (v := NW 0) E hr hlocks G dX5_setRule_38 (by omega) (by omega) (zx0 rfl) ⟨rfl, rfl⟩

def q_c_X5_setRule_0 (k4 : Nat → ClassId) (mo mnw mte mge mus mco mfl mba mdu : Nat) (th : Int) (n p st : Nat) (cc bc pot gr bk btw bhd : Int) (a : Int) : Option Value → va_W → Prop := (fun (v9 : Option Value) (w9 : va_W) => v9 = some (.int (iI (0))) ∧ w9 = [(mo, .inr (5, [.int (iI (1)), .int (iI (((n : Nat) : Int))), .ref mnw, .ref mte, .ref mge, .ref mus, .int (iI (((p : Nat) : Int))), .int (iI (((st : Nat) : Int))), .int (iI (cc)), .int (iI (bc)), .ref mco, .ref mfl, .ref mba, .ref mdu, .long (lI (pot)), .long (lI (gr)), .long (lI (bk)), .int (iI (btw)), .int (iI (bhd))]))])
set_option maxHeartbeats 4000000 in
set_option maxRecDepth 100000 in
theorem c_X5_setRule_0 (l : Launch) (D : va_G) (k4 : Nat → ClassId) (mo mnw mte mge mus mco mfl mba mdu : Nat) (th : Int) (n p st : Nat) (cc bc pot gr bk btw bhd : Int) (a : Int) (hn : n ≤ 6) (ha : (-2147483648 ≤ a ∧ a ≤ 2147483647) ∧ (a < 0 ∨ 3 < a)) : zC l yX5_setRule (zW yX5_setRule cX5_setRule 3 (some .int)) ({ frames := 1, cells := 0, slots := 0, locals := 25 } : Room) D k4 [.ref mo, .int (iI (a))] [(mo, .inr (5, [.int (iI (th)), .int (iI (((n : Nat) : Int))), .ref mnw, .ref mte, .ref mge, .ref mus, .int (iI (((p : Nat) : Int))), .int (iI (((st : Nat) : Int))), .int (iI (cc)), .int (iI (bc)), .ref mco, .ref mfl, .ref mba, .ref mdu, .long (lI (pot)), .long (lI (gr)), .long (lI (bk)), .int (iI (btw)), .int (iI (bhd))]))] (0) (0) (q_c_X5_setRule_0 k4 mo mnw mte mge mus mco mfl mba mdu th n p st cc bc pot gr bk btw bhd a) := by
  refine zC_of (cc := cX5_setRule) (by decide) (Nat.le_of_ble_eq_true rfl) (fun pp ee ss mm bl me co AA H locs ls E hr hlocks hin G hl => ?_)
  have hl : lv_has ls 3 [(0, .ref mo), (1, .int (iI (a)))] := hl
  refine z_aload_n E hl 0 rfl dX5_setRule_0 rfl ?_
  refine z_iconst E dX5_setRule_1 ?_
  refine kp_X5_35 E G 0 rfl (Nat.le_of_ble_eq_true rfl) dX5_setRule_2 (fun H locs G => ?_)
  have G : zG D AA ss.heap [(mo, .inr (5, [.int (iI (0)), .int (iI (((n : Nat) : Int))), .ref mnw, .ref mte, .ref mge, .ref mus, .int (iI (((p : Nat) : Int))), .int (iI (((st : Nat) : Int))), .int (iI (cc)), .int (iI (bc)), .ref mco, .ref mfl, .ref mba, .ref mdu, .long (lI (pot)), .long (lI (gr)), .long (lI (bk)), .int (iI (btw)), .int (iI (bhd))]))] H locs := G
  refine z_iload_n E hl 1 rfl dX5_setRule_5 rfl ?_
  refine z_i2l E dX5_setRule_6 ⟨by omega, by omega⟩ ?_
  refine z_lconst E (z := 0) dX5_setRule_7 (by decide) ?_
  refine z_ldc2 E (n := (3)) zw_156 (by decide +kernel) dX5_setRule_8 ?_
  refine z_callS E G hl.1 (c_X5_isInF l D k4 a 0 3 (by omega) ⟨⟨by omega, by omega⟩, ⟨by omega, by omega⟩, ⟨by omega, by omega⟩⟩) kS_X5_42 ⟨rfl, rfl, Nat.le_of_ble_eq_true rfl, Nat.le_of_ble_eq_true rfl⟩ [] rfl (by decide) rfl rfl (Nat.le_of_ble_eq_true rfl) dX5_setRule_11 ⟨(by first | exact Nat.le_of_ble_eq_true rfl | omega | (show _ ≤ (0); omega)), (by first | exact Nat.le_of_ble_eq_true rfl | omega | (show _ ≤ (0); omega))⟩ (fun v9 w9 H locs hq G => ?_)
  obtain ⟨rfl, rfl⟩ := hq
  refine W.eq (g2 := F0 mm 14 ls [.int (iI (0))]) rfl ?_
  have G : zG D AA ss.heap [(mo, .inr (5, [.int (iI (0)), .int (iI (((n : Nat) : Int))), .ref mnw, .ref mte, .ref mge, .ref mus, .int (iI (((p : Nat) : Int))), .int (iI (((st : Nat) : Int))), .int (iI (cc)), .int (iI (bc)), .ref mco, .ref mfl, .ref mba, .ref mdu, .long (lI (pot)), .long (lI (gr)), .long (lI (bk)), .int (iI (btw)), .int (iI (bhd))]))] H locs := G
  refine z_if_ne (tgt := 23) E dX5_setRule_14 (by decide) (by decide) (fun c_14 => absurd c_14 (by decide)) (fun c_14 => ?_)
  refine z_aload_n E hl 0 rfl dX5_setRule_17 rfl ?_
  refine z_iconst E dX5_setRule_18 ?_
  refine z_callV E G hl.1 (c_X5_no l D k4 mo mnw mte mge mus mco mfl mba mdu 0 n p st cc bc pot gr bk btw bhd 1 ) kV_X5_51 ⟨rfl, rfl, Nat.le_of_ble_eq_true rfl, Nat.le_of_ble_eq_true rfl⟩ [0] rfl (by decide) 0 5 rfl rfl rfl rfl rfl (Nat.le_of_ble_eq_true rfl) dX5_setRule_19 ⟨(by first | exact Nat.le_of_ble_eq_true rfl | omega | (show _ ≤ (0); omega)), (by first | exact Nat.le_of_ble_eq_true rfl | omega | (show _ ≤ (0); omega))⟩ (fun v9 w9 H locs hq G => ?_)
  obtain ⟨rfl, rfl⟩ := hq
  refine W.eq (g2 := F0 mm 22 ls [.int (iI (0))]) rfl ?_
  have G : zG D AA ss.heap [(mo, .inr (5, [.int (iI (1)), .int (iI (((n : Nat) : Int))), .ref mnw, .ref mte, .ref mge, .ref mus, .int (iI (((p : Nat) : Int))), .int (iI (((st : Nat) : Int))), .int (iI (cc)), .int (iI (bc)), .ref mco, .ref mfl, .ref mba, .ref mdu, .long (lI (pot)), .long (lI (gr)), .long (lI (bk)), .int (iI (btw)), .int (iI (bhd))]))] H locs := G
  exact z_iret (w' := [(mo, .inr (5, [.int (iI (1)), .int (iI (((n : Nat) : Int))), .ref mnw, .ref mte, .ref mge, .ref mus, .int (iI (((p : Nat) : Int))), .int (iI (((st : Nat) : Int))), .int (iI (cc)), .int (iI (bc)), .ref mco, .ref mfl, .ref mba, .ref mdu, .long (lI (pot)), .long (lI (gr)), .long (lI (bk)), .int (iI (btw)), .int (iI (bhd))]))]) (v := 0) E hr hlocks G dX5_setRule_22 (by omega) (by omega) (zx0 rfl) ⟨rfl, rfl⟩

def q_c_X5_setPrices (k4 : Nat → ClassId) (mo mnw mte mge mus mco mfl mba mdu : Nat) (th : Int) (n p st : Nat) (cc bc pot gr bk btw bhd : Int) (a b d : Int) (NW : Nat → Int) : Option Value → va_W → Prop := (fun (v9 : Option Value) (w9 : va_W) => v9 = some (.int (iI (NW 3))) ∧ w9 = [(mo, .inr (5, [.int (iI (0)), .int (iI (((n : Nat) : Int))), .ref mnw, .ref mte, .ref mge, .ref mus, .int (iI (((p : Nat) : Int))), .int (iI (((st : Nat) : Int))), .int (iI (cc)), .int (iI (bc)), .ref mco, .ref mfl, .ref mba, .ref mdu, .long (lI (pot)), .long (lI (gr)), .long (lI (bk)), .int (iI (btw)), .int (iI (bhd))])), (mnw, .inl (k4 0, 19, .inl (fun i9 => iI ((up (up (up NW 1 a) 2 b) 3 d) i9))))])
set_option maxHeartbeats 4000000 in
set_option maxRecDepth 100000 in
theorem c_X5_setPrices (l : Launch) (D : va_G) (k4 : Nat → ClassId) (mo mnw mte mge mus mco mfl mba mdu : Nat) (th : Int) (n p st : Nat) (cc bc pot gr bk btw bhd : Int) (a b d : Int) (NW : Nat → Int) (hn : n ≤ 6) (ha : 0 ≤ a ∧ a ≤ 100) (hb : 0 ≤ b ∧ b ≤ 100) (hd : 0 ≤ d ∧ d ≤ 100) : zC l yX5_setPrices (zW yX5_setPrices cX5_setPrices 5 (some .int)) ({ frames := 1, cells := 0, slots := 0, locals := 25 } : Room) D k4 [.ref mo, .int (iI (a)), .int (iI (b)), .int (iI (d))] [(mo, .inr (5, [.int (iI (th)), .int (iI (((n : Nat) : Int))), .ref mnw, .ref mte, .ref mge, .ref mus, .int (iI (((p : Nat) : Int))), .int (iI (((st : Nat) : Int))), .int (iI (cc)), .int (iI (bc)), .ref mco, .ref mfl, .ref mba, .ref mdu, .long (lI (pot)), .long (lI (gr)), .long (lI (bk)), .int (iI (btw)), .int (iI (bhd))])), (mnw, .inl (k4 0, 19, .inl (fun i9 => iI (NW i9))))] (0) (0) (q_c_X5_setPrices k4 mo mnw mte mge mus mco mfl mba mdu th n p st cc bc pot gr bk btw bhd a b d NW) := by
  refine zC_of (cc := cX5_setPrices) (by decide) (Nat.le_of_ble_eq_true rfl) (fun pp ee ss mm bl me co AA H locs ls E hr hlocks hin G hl => ?_)
  have hl : lv_has ls 5 [(0, .ref mo), (1, .int (iI (a))), (2, .int (iI (b))), (3, .int (iI (d)))] := hl
  refine z_aload_n E hl 0 rfl dX5_setPrices_0 rfl ?_
  refine z_iconst E dX5_setPrices_1 ?_
  refine kp_X5_35 E G 0 rfl (Nat.le_of_ble_eq_true rfl) dX5_setPrices_2 (fun H locs G => ?_)
  have G : zG D AA ss.heap [(mo, .inr (5, [.int (iI (0)), .int (iI (((n : Nat) : Int))), .ref mnw, .ref mte, .ref mge, .ref mus, .int (iI (((p : Nat) : Int))), .int (iI (((st : Nat) : Int))), .int (iI (cc)), .int (iI (bc)), .ref mco, .ref mfl, .ref mba, .ref mdu, .long (lI (pot)), .long (lI (gr)), .long (lI (bk)), .int (iI (btw)), .int (iI (bhd))])), (mnw, .inl (k4 0, 19, .inl (fun i9 => iI (NW i9))))] H locs := G
  refine z_iload_n E hl 1 rfl dX5_setPrices_5 rfl ?_
  refine z_i2l E dX5_setPrices_6 ⟨by omega, by omega⟩ ?_
  refine z_lconst E (z := 0) dX5_setPrices_7 (by decide) ?_
  refine z_ldc2 E (n := (100)) zw_135 (by decide +kernel) dX5_setPrices_8 ?_
  refine z_callS E G hl.1 (c_X5_isIn l D k4 a 0 100 (by omega) ⟨⟨by omega, by omega⟩, ⟨by omega, by omega⟩, ⟨by omega, by omega⟩⟩) kS_X5_42 ⟨rfl, rfl, Nat.le_of_ble_eq_true rfl, Nat.le_of_ble_eq_true rfl⟩ [] rfl (by decide) rfl rfl (Nat.le_of_ble_eq_true rfl) dX5_setPrices_11 ⟨(by first | exact Nat.le_of_ble_eq_true rfl | omega | (show _ ≤ (0); omega)), (by first | exact Nat.le_of_ble_eq_true rfl | omega | (show _ ≤ (0); omega))⟩ (fun v9 w9 H locs hq G => ?_)
  obtain ⟨rfl, rfl⟩ := hq
  refine W.eq (g2 := F0 mm 14 ls [.int (iI (1))]) rfl ?_
  have G : zG D AA ss.heap [(mo, .inr (5, [.int (iI (0)), .int (iI (((n : Nat) : Int))), .ref mnw, .ref mte, .ref mge, .ref mus, .int (iI (((p : Nat) : Int))), .int (iI (((st : Nat) : Int))), .int (iI (cc)), .int (iI (bc)), .ref mco, .ref mfl, .ref mba, .ref mdu, .long (lI (pot)), .long (lI (gr)), .long (lI (bk)), .int (iI (btw)), .int (iI (bhd))])), (mnw, .inl (k4 0, 19, .inl (fun i9 => iI (NW i9))))] H locs := G
  refine z_if_eq (tgt := 41) E dX5_setPrices_14 (by decide) (by decide) (fun c_14 => absurd c_14 (by decide)) (fun c_14 => ?_)
  refine z_iload_n E hl 2 rfl dX5_setPrices_17 rfl ?_
  refine z_i2l E dX5_setPrices_18 ⟨by omega, by omega⟩ ?_
  refine z_lconst E (z := 0) dX5_setPrices_19 (by decide) ?_
  refine z_ldc2 E (n := (100)) zw_135 (by decide +kernel) dX5_setPrices_20 ?_
  refine z_callS E G hl.1 (c_X5_isIn l D k4 b 0 100 (by omega) ⟨⟨by omega, by omega⟩, ⟨by omega, by omega⟩, ⟨by omega, by omega⟩⟩) kS_X5_42 ⟨rfl, rfl, Nat.le_of_ble_eq_true rfl, Nat.le_of_ble_eq_true rfl⟩ [] rfl (by decide) rfl rfl (Nat.le_of_ble_eq_true rfl) dX5_setPrices_23 ⟨(by first | exact Nat.le_of_ble_eq_true rfl | omega | (show _ ≤ (0); omega)), (by first | exact Nat.le_of_ble_eq_true rfl | omega | (show _ ≤ (0); omega))⟩ (fun v9 w9 H locs hq G => ?_)
  obtain ⟨rfl, rfl⟩ := hq
  refine W.eq (g2 := F0 mm 26 ls [.int (iI (1))]) rfl ?_
  have G : zG D AA ss.heap [(mo, .inr (5, [.int (iI (0)), .int (iI (((n : Nat) : Int))), .ref mnw, .ref mte, .ref mge, .ref mus, .int (iI (((p : Nat) : Int))), .int (iI (((st : Nat) : Int))), .int (iI (cc)), .int (iI (bc)), .ref mco, .ref mfl, .ref mba, .ref mdu, .long (lI (pot)), .long (lI (gr)), .long (lI (bk)), .int (iI (btw)), .int (iI (bhd))])), (mnw, .inl (k4 0, 19, .inl (fun i9 => iI (NW i9))))] H locs := G
  refine z_if_eq (tgt := 41) E dX5_setPrices_26 (by decide) (by decide) (fun c_26 => absurd c_26 (by decide)) (fun c_26 => ?_)
  refine z_iload_n E hl 3 rfl dX5_setPrices_29 rfl ?_
  refine z_i2l E dX5_setPrices_30 ⟨by omega, by omega⟩ ?_
  refine z_lconst E (z := 0) dX5_setPrices_31 (by decide) ?_
  refine z_ldc2 E (n := (100)) zw_135 (by decide +kernel) dX5_setPrices_32 ?_
  refine z_callS E G hl.1 (c_X5_isIn l D k4 d 0 100 (by omega) ⟨⟨by omega, by omega⟩, ⟨by omega, by omega⟩, ⟨by omega, by omega⟩⟩) kS_X5_42 ⟨rfl, rfl, Nat.le_of_ble_eq_true rfl, Nat.le_of_ble_eq_true rfl⟩ [] rfl (by decide) rfl rfl (Nat.le_of_ble_eq_true rfl) dX5_setPrices_35 ⟨(by first | exact Nat.le_of_ble_eq_true rfl | omega | (show _ ≤ (0); omega)), (by first | exact Nat.le_of_ble_eq_true rfl | omega | (show _ ≤ (0); omega))⟩ (fun v9 w9 H locs hq G => ?_)
  obtain ⟨rfl, rfl⟩ := hq
  refine W.eq (g2 := F0 mm 38 ls [.int (iI (1))]) rfl ?_
  have G : zG D AA ss.heap [(mo, .inr (5, [.int (iI (0)), .int (iI (((n : Nat) : Int))), .ref mnw, .ref mte, .ref mge, .ref mus, .int (iI (((p : Nat) : Int))), .int (iI (((st : Nat) : Int))), .int (iI (cc)), .int (iI (bc)), .ref mco, .ref mfl, .ref mba, .ref mdu, .long (lI (pot)), .long (lI (gr)), .long (lI (bk)), .int (iI (btw)), .int (iI (bhd))])), (mnw, .inl (k4 0, 19, .inl (fun i9 => iI (NW i9))))] H locs := G
  refine z_if_ne (tgt := 47) E dX5_setPrices_38 (by decide) (by decide) (fun c_38 => ?_) (fun c_38 => absurd c_38 (by decide))
  refine z_aload_n E hl 0 rfl dX5_setPrices_47 rfl ?_
  refine kg_X5_9 E G 0 rfl rfl dX5_setPrices_48 ?_
  refine z_iconst E dX5_setPrices_51 ?_
  refine z_iald E G 1 rfl (3) rfl (by decide) (by decide) dX5_setPrices_52 ?_
  refine z_istore E [(4, .int (iI (NW 3))), (0, .ref mo), (1, .int (iI (a))), (2, .int (iI (b))), (3, .int (iI (d)))] dX5_setPrices_53 hl (by decide) rfl (fun ls hl => ?_)
  refine z_aload_n E hl 1 rfl dX5_setPrices_55 rfl ?_
  refine kg_X5_9 E G 0 rfl rfl dX5_setPrices_56 ?_
  refine z_iconst E dX5_setPrices_59 ?_
  refine z_iload_n E hl 2 rfl dX5_setPrices_60 rfl ?_
  refine z_iast E G 1 rfl (1) rfl (by decide) (by decide) dX5_setPrices_61 (fun H locs G => ?_)
  have G : zG D AA ss.heap [(mo, .inr (5, [.int (iI (0)), .int (iI (((n : Nat) : Int))), .ref mnw, .ref mte, .ref mge, .ref mus, .int (iI (((p : Nat) : Int))), .int (iI (((st : Nat) : Int))), .int (iI (cc)), .int (iI (bc)), .ref mco, .ref mfl, .ref mba, .ref mdu, .long (lI (pot)), .long (lI (gr)), .long (lI (bk)), .int (iI (btw)), .int (iI (bhd))])), (mnw, .inl (k4 0, 19, .inl (fun i9 => iI ((up NW (1) (a)) i9))))] H locs := G
  refine z_aload_n E hl 1 rfl dX5_setPrices_62 rfl ?_
  refine kg_X5_9 E G 0 rfl rfl dX5_setPrices_63 ?_
  refine z_iconst E dX5_setPrices_66 ?_
  refine z_iload_n E hl 3 rfl dX5_setPrices_67 rfl ?_
  refine z_iast E G 1 rfl (2) rfl (by decide) (by decide) dX5_setPrices_68 (fun H locs G => ?_)
  have G : zG D AA ss.heap [(mo, .inr (5, [.int (iI (0)), .int (iI (((n : Nat) : Int))), .ref mnw, .ref mte, .ref mge, .ref mus, .int (iI (((p : Nat) : Int))), .int (iI (((st : Nat) : Int))), .int (iI (cc)), .int (iI (bc)), .ref mco, .ref mfl, .ref mba, .ref mdu, .long (lI (pot)), .long (lI (gr)), .long (lI (bk)), .int (iI (btw)), .int (iI (bhd))])), (mnw, .inl (k4 0, 19, .inl (fun i9 => iI ((up (up NW (1) (a)) (2) (b)) i9))))] H locs := G
  refine z_aload_n E hl 1 rfl dX5_setPrices_69 rfl ?_
  refine kg_X5_9 E G 0 rfl rfl dX5_setPrices_70 ?_
  refine z_iconst E dX5_setPrices_73 ?_
  refine z_iload_n E hl 4 rfl dX5_setPrices_74 rfl ?_
  refine z_iast E G 1 rfl (3) rfl (by decide) (by decide) dX5_setPrices_75 (fun H locs G => ?_)
  have G : zG D AA ss.heap [(mo, .inr (5, [.int (iI (0)), .int (iI (((n : Nat) : Int))), .ref mnw, .ref mte, .ref mge, .ref mus, .int (iI (((p : Nat) : Int))), .int (iI (((st : Nat) : Int))), .int (iI (cc)), .int (iI (bc)), .ref mco, .ref mfl, .ref mba, .ref mdu, .long (lI (pot)), .long (lI (gr)), .long (lI (bk)), .int (iI (btw)), .int (iI (bhd))])), (mnw, .inl (k4 0, 19, .inl (fun i9 => iI ((up (up (up NW (1) (a)) (2) (b)) (3) (d)) i9))))] H locs := G
  refine z_iload E hl 0 rfl dX5_setPrices_76 ?_
  refine z_eq (y := NW 3) rfl ?_
  exact z_iret (w' := [(mo, .inr (5, [.int (iI (0)), .int (iI (((n : Nat) : Int))), .ref mnw, .ref mte, .ref mge, .ref mus, .int (iI (((p : Nat) : Int))), .int (iI (((st : Nat) : Int))), .int (iI (cc)), .int (iI (bc)), .ref mco, .ref mfl, .ref mba, .ref mdu, .long (lI (pot)), .long (lI (gr)), .long (lI (bk)), .int (iI (btw)), .int (iI (bhd))])), (mnw, .inl (k4 0, 19, .inl (fun i9 => iI ((up (up (up NW (1) (a)) (2) (b)) (3) (d)) i9))))]) (v := NW 3) E hr hlocks G dX5_setPrices_78 (by omega) (by omega) (zx0 rfl) ⟨rfl, rfl⟩

def q_c_X5_setPrices_0 (k4 : Nat → ClassId) (mo mnw mte mge mus mco mfl mba mdu : Nat) (th : Int) (n p st : Nat) (cc bc pot gr bk btw bhd : Int) (a b d : Int) : Option Value → va_W → Prop := (fun (v9 : Option Value) (w9 : va_W) => v9 = some (.int (iI (0))) ∧ w9 = [(mo, .inr (5, [.int (iI (1)), .int (iI (((n : Nat) : Int))), .ref mnw, .ref mte, .ref mge, .ref mus, .int (iI (((p : Nat) : Int))), .int (iI (((st : Nat) : Int))), .int (iI (cc)), .int (iI (bc)), .ref mco, .ref mfl, .ref mba, .ref mdu, .long (lI (pot)), .long (lI (gr)), .long (lI (bk)), .int (iI (btw)), .int (iI (bhd))]))])
set_option maxHeartbeats 4000000 in
set_option maxRecDepth 100000 in
theorem c_X5_setPrices_0 (l : Launch) (D : va_G) (k4 : Nat → ClassId) (mo mnw mte mge mus mco mfl mba mdu : Nat) (th : Int) (n p st : Nat) (cc bc pot gr bk btw bhd : Int) (a b d : Int) (hn : n ≤ 6) (ha : (-2147483648 ≤ a ∧ a ≤ 2147483647) ∧ (a < 0 ∨ 100 < a)) : zC l yX5_setPrices (zW yX5_setPrices cX5_setPrices 5 (some .int)) ({ frames := 1, cells := 0, slots := 0, locals := 25 } : Room) D k4 [.ref mo, .int (iI (a)), .int (iI (b)), .int (iI (d))] [(mo, .inr (5, [.int (iI (th)), .int (iI (((n : Nat) : Int))), .ref mnw, .ref mte, .ref mge, .ref mus, .int (iI (((p : Nat) : Int))), .int (iI (((st : Nat) : Int))), .int (iI (cc)), .int (iI (bc)), .ref mco, .ref mfl, .ref mba, .ref mdu, .long (lI (pot)), .long (lI (gr)), .long (lI (bk)), .int (iI (btw)), .int (iI (bhd))]))] (0) (0) (q_c_X5_setPrices_0 k4 mo mnw mte mge mus mco mfl mba mdu th n p st cc bc pot gr bk btw bhd a b d) := by
  refine zC_of (cc := cX5_setPrices) (by decide) (Nat.le_of_ble_eq_true rfl) (fun pp ee ss mm bl me co AA H locs ls E hr hlocks hin G hl => ?_)
  have hl : lv_has ls 5 [(0, .ref mo), (1, .int (iI (a))), (2, .int (iI (b))), (3, .int (iI (d)))] := hl
  refine z_aload_n E hl 0 rfl dX5_setPrices_0 rfl ?_
  refine z_iconst E dX5_setPrices_1 ?_
  refine kp_X5_35 E G 0 rfl (Nat.le_of_ble_eq_true rfl) dX5_setPrices_2 (fun H locs G => ?_)
  have G : zG D AA ss.heap [(mo, .inr (5, [.int (iI (0)), .int (iI (((n : Nat) : Int))), .ref mnw, .ref mte, .ref mge, .ref mus, .int (iI (((p : Nat) : Int))), .int (iI (((st : Nat) : Int))), .int (iI (cc)), .int (iI (bc)), .ref mco, .ref mfl, .ref mba, .ref mdu, .long (lI (pot)), .long (lI (gr)), .long (lI (bk)), .int (iI (btw)), .int (iI (bhd))]))] H locs := G
  refine z_iload_n E hl 1 rfl dX5_setPrices_5 rfl ?_
  refine z_i2l E dX5_setPrices_6 ⟨by omega, by omega⟩ ?_
  refine z_lconst E (z := 0) dX5_setPrices_7 (by decide) ?_
  refine z_ldc2 E (n := (100)) zw_135 (by decide +kernel) dX5_setPrices_8 ?_
  refine z_callS E G hl.1 (c_X5_isInF l D k4 a 0 100 (by omega) ⟨⟨by omega, by omega⟩, ⟨by omega, by omega⟩, ⟨by omega, by omega⟩⟩) kS_X5_42 ⟨rfl, rfl, Nat.le_of_ble_eq_true rfl, Nat.le_of_ble_eq_true rfl⟩ [] rfl (by decide) rfl rfl (Nat.le_of_ble_eq_true rfl) dX5_setPrices_11 ⟨(by first | exact Nat.le_of_ble_eq_true rfl | omega | (show _ ≤ (0); omega)), (by first | exact Nat.le_of_ble_eq_true rfl | omega | (show _ ≤ (0); omega))⟩ (fun v9 w9 H locs hq G => ?_)
  obtain ⟨rfl, rfl⟩ := hq
  refine W.eq (g2 := F0 mm 14 ls [.int (iI (0))]) rfl ?_
  have G : zG D AA ss.heap [(mo, .inr (5, [.int (iI (0)), .int (iI (((n : Nat) : Int))), .ref mnw, .ref mte, .ref mge, .ref mus, .int (iI (((p : Nat) : Int))), .int (iI (((st : Nat) : Int))), .int (iI (cc)), .int (iI (bc)), .ref mco, .ref mfl, .ref mba, .ref mdu, .long (lI (pot)), .long (lI (gr)), .long (lI (bk)), .int (iI (btw)), .int (iI (bhd))]))] H locs := G
  refine z_if_eq (tgt := 41) E dX5_setPrices_14 (by decide) (by decide) (fun c_14 => ?_) (fun c_14 => absurd c_14 (by decide))
  refine z_aload_n E hl 0 rfl dX5_setPrices_41 rfl ?_
  refine z_iconst E dX5_setPrices_42 ?_
  refine z_callV E G hl.1 (c_X5_no l D k4 mo mnw mte mge mus mco mfl mba mdu 0 n p st cc bc pot gr bk btw bhd 1 ) kV_X5_51 ⟨rfl, rfl, Nat.le_of_ble_eq_true rfl, Nat.le_of_ble_eq_true rfl⟩ [0] rfl (by decide) 0 5 rfl rfl rfl rfl rfl (Nat.le_of_ble_eq_true rfl) dX5_setPrices_43 ⟨(by first | exact Nat.le_of_ble_eq_true rfl | omega | (show _ ≤ (0); omega)), (by first | exact Nat.le_of_ble_eq_true rfl | omega | (show _ ≤ (0); omega))⟩ (fun v9 w9 H locs hq G => ?_)
  obtain ⟨rfl, rfl⟩ := hq
  refine W.eq (g2 := F0 mm 46 ls [.int (iI (0))]) rfl ?_
  have G : zG D AA ss.heap [(mo, .inr (5, [.int (iI (1)), .int (iI (((n : Nat) : Int))), .ref mnw, .ref mte, .ref mge, .ref mus, .int (iI (((p : Nat) : Int))), .int (iI (((st : Nat) : Int))), .int (iI (cc)), .int (iI (bc)), .ref mco, .ref mfl, .ref mba, .ref mdu, .long (lI (pot)), .long (lI (gr)), .long (lI (bk)), .int (iI (btw)), .int (iI (bhd))]))] H locs := G
  exact z_iret (w' := [(mo, .inr (5, [.int (iI (1)), .int (iI (((n : Nat) : Int))), .ref mnw, .ref mte, .ref mge, .ref mus, .int (iI (((p : Nat) : Int))), .int (iI (((st : Nat) : Int))), .int (iI (cc)), .int (iI (bc)), .ref mco, .ref mfl, .ref mba, .ref mdu, .long (lI (pot)), .long (lI (gr)), .long (lI (bk)), .int (iI (btw)), .int (iI (bhd))]))]) (v := 0) E hr hlocks G dX5_setPrices_46 (by omega) (by omega) (zx0 rfl) ⟨rfl, rfl⟩

def q_c_X5_setPrices_1 (k4 : Nat → ClassId) (mo mnw mte mge mus mco mfl mba mdu : Nat) (th : Int) (n p st : Nat) (cc bc pot gr bk btw bhd : Int) (a b d : Int) : Option Value → va_W → Prop := (fun (v9 : Option Value) (w9 : va_W) => v9 = some (.int (iI (0))) ∧ w9 = [(mo, .inr (5, [.int (iI (1)), .int (iI (((n : Nat) : Int))), .ref mnw, .ref mte, .ref mge, .ref mus, .int (iI (((p : Nat) : Int))), .int (iI (((st : Nat) : Int))), .int (iI (cc)), .int (iI (bc)), .ref mco, .ref mfl, .ref mba, .ref mdu, .long (lI (pot)), .long (lI (gr)), .long (lI (bk)), .int (iI (btw)), .int (iI (bhd))]))])
set_option maxHeartbeats 4000000 in
set_option maxRecDepth 100000 in
theorem c_X5_setPrices_1 (l : Launch) (D : va_G) (k4 : Nat → ClassId) (mo mnw mte mge mus mco mfl mba mdu : Nat) (th : Int) (n p st : Nat) (cc bc pot gr bk btw bhd : Int) (a b d : Int) (hn : n ≤ 6) (ha : 0 ≤ a ∧ a ≤ 100) (hb : (-2147483648 ≤ b ∧ b ≤ 2147483647) ∧ (b < 0 ∨ 100 < b)) : zC l yX5_setPrices (zW yX5_setPrices cX5_setPrices 5 (some .int)) ({ frames := 1, cells := 0, slots := 0, locals := 25 } : Room) D k4 [.ref mo, .int (iI (a)), .int (iI (b)), .int (iI (d))] [(mo, .inr (5, [.int (iI (th)), .int (iI (((n : Nat) : Int))), .ref mnw, .ref mte, .ref mge, .ref mus, .int (iI (((p : Nat) : Int))), .int (iI (((st : Nat) : Int))), .int (iI (cc)), .int (iI (bc)), .ref mco, .ref mfl, .ref mba, .ref mdu, .long (lI (pot)), .long (lI (gr)), .long (lI (bk)), .int (iI (btw)), .int (iI (bhd))]))] (0) (0) (q_c_X5_setPrices_1 k4 mo mnw mte mge mus mco mfl mba mdu th n p st cc bc pot gr bk btw bhd a b d) := by
  refine zC_of (cc := cX5_setPrices) (by decide) (Nat.le_of_ble_eq_true rfl) (fun pp ee ss mm bl me co AA H locs ls E hr hlocks hin G hl => ?_)
  have hl : lv_has ls 5 [(0, .ref mo), (1, .int (iI (a))), (2, .int (iI (b))), (3, .int (iI (d)))] := hl
  refine z_aload_n E hl 0 rfl dX5_setPrices_0 rfl ?_
  refine z_iconst E dX5_setPrices_1 ?_
  refine kp_X5_35 E G 0 rfl (Nat.le_of_ble_eq_true rfl) dX5_setPrices_2 (fun H locs G => ?_)
  have G : zG D AA ss.heap [(mo, .inr (5, [.int (iI (0)), .int (iI (((n : Nat) : Int))), .ref mnw, .ref mte, .ref mge, .ref mus, .int (iI (((p : Nat) : Int))), .int (iI (((st : Nat) : Int))), .int (iI (cc)), .int (iI (bc)), .ref mco, .ref mfl, .ref mba, .ref mdu, .long (lI (pot)), .long (lI (gr)), .long (lI (bk)), .int (iI (btw)), .int (iI (bhd))]))] H locs := G
  refine z_iload_n E hl 1 rfl dX5_setPrices_5 rfl ?_
  refine z_i2l E dX5_setPrices_6 ⟨by omega, by omega⟩ ?_
  refine z_lconst E (z := 0) dX5_setPrices_7 (by decide) ?_
  refine z_ldc2 E (n := (100)) zw_135 (by decide +kernel) dX5_setPrices_8 ?_
  refine z_callS E G hl.1 (c_X5_isIn l D k4 a 0 100 (by omega) ⟨⟨by omega, by omega⟩, ⟨by omega, by omega⟩, ⟨by omega, by omega⟩⟩) kS_X5_42 ⟨rfl, rfl, Nat.le_of_ble_eq_true rfl, Nat.le_of_ble_eq_true rfl⟩ [] rfl (by decide) rfl rfl (Nat.le_of_ble_eq_true rfl) dX5_setPrices_11 ⟨(by first | exact Nat.le_of_ble_eq_true rfl | omega | (show _ ≤ (0); omega)), (by first | exact Nat.le_of_ble_eq_true rfl | omega | (show _ ≤ (0); omega))⟩ (fun v9 w9 H locs hq G => ?_)
  obtain ⟨rfl, rfl⟩ := hq
  refine W.eq (g2 := F0 mm 14 ls [.int (iI (1))]) rfl ?_
  have G : zG D AA ss.heap [(mo, .inr (5, [.int (iI (0)), .int (iI (((n : Nat) : Int))), .ref mnw, .ref mte, .ref mge, .ref mus, .int (iI (((p : Nat) : Int))), .int (iI (((st : Nat) : Int))), .int (iI (cc)), .int (iI (bc)), .ref mco, .ref mfl, .ref mba, .ref mdu, .long (lI (pot)), .long (lI (gr)), .long (lI (bk)), .int (iI (btw)), .int (iI (bhd))]))] H locs := G
  refine z_if_eq (tgt := 41) E dX5_setPrices_14 (by decide) (by decide) (fun c_14 => absurd c_14 (by decide)) (fun c_14 => ?_)
  refine z_iload_n E hl 2 rfl dX5_setPrices_17 rfl ?_
  refine z_i2l E dX5_setPrices_18 ⟨by omega, by omega⟩ ?_
  refine z_lconst E (z := 0) dX5_setPrices_19 (by decide) ?_
  refine z_ldc2 E (n := (100)) zw_135 (by decide +kernel) dX5_setPrices_20 ?_
  refine z_callS E G hl.1 (c_X5_isInF l D k4 b 0 100 (by omega) ⟨⟨by omega, by omega⟩, ⟨by omega, by omega⟩, ⟨by omega, by omega⟩⟩) kS_X5_42 ⟨rfl, rfl, Nat.le_of_ble_eq_true rfl, Nat.le_of_ble_eq_true rfl⟩ [] rfl (by decide) rfl rfl (Nat.le_of_ble_eq_true rfl) dX5_setPrices_23 ⟨(by first | exact Nat.le_of_ble_eq_true rfl | omega | (show _ ≤ (0); omega)), (by first | exact Nat.le_of_ble_eq_true rfl | omega | (show _ ≤ (0); omega))⟩ (fun v9 w9 H locs hq G => ?_)
  obtain ⟨rfl, rfl⟩ := hq
  refine W.eq (g2 := F0 mm 26 ls [.int (iI (0))]) rfl ?_
  have G : zG D AA ss.heap [(mo, .inr (5, [.int (iI (0)), .int (iI (((n : Nat) : Int))), .ref mnw, .ref mte, .ref mge, .ref mus, .int (iI (((p : Nat) : Int))), .int (iI (((st : Nat) : Int))), .int (iI (cc)), .int (iI (bc)), .ref mco, .ref mfl, .ref mba, .ref mdu, .long (lI (pot)), .long (lI (gr)), .long (lI (bk)), .int (iI (btw)), .int (iI (bhd))]))] H locs := G
  refine z_if_eq (tgt := 41) E dX5_setPrices_26 (by decide) (by decide) (fun c_26 => ?_) (fun c_26 => absurd c_26 (by decide))
  refine z_aload_n E hl 0 rfl dX5_setPrices_41 rfl ?_
  refine z_iconst E dX5_setPrices_42 ?_
  refine z_callV E G hl.1 (c_X5_no l D k4 mo mnw mte mge mus mco mfl mba mdu 0 n p st cc bc pot gr bk btw bhd 1 ) kV_X5_51 ⟨rfl, rfl, Nat.le_of_ble_eq_true rfl, Nat.le_of_ble_eq_true rfl⟩ [0] rfl (by decide) 0 5 rfl rfl rfl rfl rfl (Nat.le_of_ble_eq_true rfl) dX5_setPrices_43 ⟨(by first | exact Nat.le_of_ble_eq_true rfl | omega | (show _ ≤ (0); omega)), (by first | exact Nat.le_of_ble_eq_true rfl | omega | (show _ ≤ (0); omega))⟩ (fun v9 w9 H locs hq G => ?_)
  obtain ⟨rfl, rfl⟩ := hq
  refine W.eq (g2 := F0 mm 46 ls [.int (iI (0))]) rfl ?_
  have G : zG D AA ss.heap [(mo, .inr (5, [.int (iI (1)), .int (iI (((n : Nat) : Int))), .ref mnw, .ref mte, .ref mge, .ref mus, .int (iI (((p : Nat) : Int))), .int (iI (((st : Nat) : Int))), .int (iI (cc)), .int (iI (bc)), .ref mco, .ref mfl, .ref mba, .ref mdu, .long (lI (pot)), .long (lI (gr)), .long (lI (bk)), .int (iI (btw)), .int (iI (bhd))]))] H locs := G
  exact z_iret (w' := [(mo, .inr (5, [.int (iI (1)), .int (iI (((n : Nat) : Int))), .ref mnw, .ref mte, .ref mge, .ref mus, .int (iI (((p : Nat) : Int))), .int (iI (((st : Nat) : Int))), .int (iI (cc)), .int (iI (bc)), .ref mco, .ref mfl, .ref mba, .ref mdu, .long (lI (pot)), .long (lI (gr)), .long (lI (bk)), .int (iI (btw)), .int (iI (bhd))]))]) (v := 0) E hr hlocks G dX5_setPrices_46 (by omega) (by omega) (zx0 rfl) ⟨rfl, rfl⟩

def q_c_X5_setPrices_2 (k4 : Nat → ClassId) (mo mnw mte mge mus mco mfl mba mdu : Nat) (th : Int) (n p st : Nat) (cc bc pot gr bk btw bhd : Int) (a b d : Int) : Option Value → va_W → Prop := (fun (v9 : Option Value) (w9 : va_W) => v9 = some (.int (iI (0))) ∧ w9 = [(mo, .inr (5, [.int (iI (1)), .int (iI (((n : Nat) : Int))), .ref mnw, .ref mte, .ref mge, .ref mus, .int (iI (((p : Nat) : Int))), .int (iI (((st : Nat) : Int))), .int (iI (cc)), .int (iI (bc)), .ref mco, .ref mfl, .ref mba, .ref mdu, .long (lI (pot)), .long (lI (gr)), .long (lI (bk)), .int (iI (btw)), .int (iI (bhd))]))])
set_option maxHeartbeats 4000000 in
set_option maxRecDepth 100000 in
theorem c_X5_setPrices_2 (l : Launch) (D : va_G) (k4 : Nat → ClassId) (mo mnw mte mge mus mco mfl mba mdu : Nat) (th : Int) (n p st : Nat) (cc bc pot gr bk btw bhd : Int) (a b d : Int) (hn : n ≤ 6) (ha : 0 ≤ a ∧ a ≤ 100) (hb : 0 ≤ b ∧ b ≤ 100) (hd : (-2147483648 ≤ d ∧ d ≤ 2147483647) ∧ (d < 0 ∨ 100 < d)) : zC l yX5_setPrices (zW yX5_setPrices cX5_setPrices 5 (some .int)) ({ frames := 1, cells := 0, slots := 0, locals := 25 } : Room) D k4 [.ref mo, .int (iI (a)), .int (iI (b)), .int (iI (d))] [(mo, .inr (5, [.int (iI (th)), .int (iI (((n : Nat) : Int))), .ref mnw, .ref mte, .ref mge, .ref mus, .int (iI (((p : Nat) : Int))), .int (iI (((st : Nat) : Int))), .int (iI (cc)), .int (iI (bc)), .ref mco, .ref mfl, .ref mba, .ref mdu, .long (lI (pot)), .long (lI (gr)), .long (lI (bk)), .int (iI (btw)), .int (iI (bhd))]))] (0) (0) (q_c_X5_setPrices_2 k4 mo mnw mte mge mus mco mfl mba mdu th n p st cc bc pot gr bk btw bhd a b d) := by
  refine zC_of (cc := cX5_setPrices) (by decide) (Nat.le_of_ble_eq_true rfl) (fun pp ee ss mm bl me co AA H locs ls E hr hlocks hin G hl => ?_)
  have hl : lv_has ls 5 [(0, .ref mo), (1, .int (iI (a))), (2, .int (iI (b))), (3, .int (iI (d)))] := hl
  refine z_aload_n E hl 0 rfl dX5_setPrices_0 rfl ?_
  refine z_iconst E dX5_setPrices_1 ?_
  refine kp_X5_35 E G 0 rfl (Nat.le_of_ble_eq_true rfl) dX5_setPrices_2 (fun H locs G => ?_)
  have G : zG D AA ss.heap [(mo, .inr (5, [.int (iI (0)), .int (iI (((n : Nat) : Int))), .ref mnw, .ref mte, .ref mge, .ref mus, .int (iI (((p : Nat) : Int))), .int (iI (((st : Nat) : Int))), .int (iI (cc)), .int (iI (bc)), .ref mco, .ref mfl, .ref mba, .ref mdu, .long (lI (pot)), .long (lI (gr)), .long (lI (bk)), .int (iI (btw)), .int (iI (bhd))]))] H locs := G
  refine z_iload_n E hl 1 rfl dX5_setPrices_5 rfl ?_
  refine z_i2l E dX5_setPrices_6 ⟨by omega, by omega⟩ ?_
  refine z_lconst E (z := 0) dX5_setPrices_7 (by decide) ?_
  refine z_ldc2 E (n := (100)) zw_135 (by decide +kernel) dX5_setPrices_8 ?_
  refine z_callS E G hl.1 (c_X5_isIn l D k4 a 0 100 (by omega) ⟨⟨by omega, by omega⟩, ⟨by omega, by omega⟩, ⟨by omega, by omega⟩⟩) kS_X5_42 ⟨rfl, rfl, Nat.le_of_ble_eq_true rfl, Nat.le_of_ble_eq_true rfl⟩ [] rfl (by decide) rfl rfl (Nat.le_of_ble_eq_true rfl) dX5_setPrices_11 ⟨(by first | exact Nat.le_of_ble_eq_true rfl | omega | (show _ ≤ (0); omega)), (by first | exact Nat.le_of_ble_eq_true rfl | omega | (show _ ≤ (0); omega))⟩ (fun v9 w9 H locs hq G => ?_)
  obtain ⟨rfl, rfl⟩ := hq
  refine W.eq (g2 := F0 mm 14 ls [.int (iI (1))]) rfl ?_
  have G : zG D AA ss.heap [(mo, .inr (5, [.int (iI (0)), .int (iI (((n : Nat) : Int))), .ref mnw, .ref mte, .ref mge, .ref mus, .int (iI (((p : Nat) : Int))), .int (iI (((st : Nat) : Int))), .int (iI (cc)), .int (iI (bc)), .ref mco, .ref mfl, .ref mba, .ref mdu, .long (lI (pot)), .long (lI (gr)), .long (lI (bk)), .int (iI (btw)), .int (iI (bhd))]))] H locs := G
  refine z_if_eq (tgt := 41) E dX5_setPrices_14 (by decide) (by decide) (fun c_14 => absurd c_14 (by decide)) (fun c_14 => ?_)
  refine z_iload_n E hl 2 rfl dX5_setPrices_17 rfl ?_
  refine z_i2l E dX5_setPrices_18 ⟨by omega, by omega⟩ ?_
  refine z_lconst E (z := 0) dX5_setPrices_19 (by decide) ?_
  refine z_ldc2 E (n := (100)) zw_135 (by decide +kernel) dX5_setPrices_20 ?_
  refine z_callS E G hl.1 (c_X5_isIn l D k4 b 0 100 (by omega) ⟨⟨by omega, by omega⟩, ⟨by omega, by omega⟩, ⟨by omega, by omega⟩⟩) kS_X5_42 ⟨rfl, rfl, Nat.le_of_ble_eq_true rfl, Nat.le_of_ble_eq_true rfl⟩ [] rfl (by decide) rfl rfl (Nat.le_of_ble_eq_true rfl) dX5_setPrices_23 ⟨(by first | exact Nat.le_of_ble_eq_true rfl | omega | (show _ ≤ (0); omega)), (by first | exact Nat.le_of_ble_eq_true rfl | omega | (show _ ≤ (0); omega))⟩ (fun v9 w9 H locs hq G => ?_)
  obtain ⟨rfl, rfl⟩ := hq
  refine W.eq (g2 := F0 mm 26 ls [.int (iI (1))]) rfl ?_
  have G : zG D AA ss.heap [(mo, .inr (5, [.int (iI (0)), .int (iI (((n : Nat) : Int))), .ref mnw, .ref mte, .ref mge, .ref mus, .int (iI (((p : Nat) : Int))), .int (iI (((st : Nat) : Int))), .int (iI (cc)), .int (iI (bc)), .ref mco, .ref mfl, .ref mba, .ref mdu, .long (lI (pot)), .long (lI (gr)), .long (lI (bk)), .int (iI (btw)), .int (iI (bhd))]))] H locs := G
  refine z_if_eq (tgt := 41) E dX5_setPrices_26 (by decide) (by decide) (fun c_26 => absurd c_26 (by decide)) (fun c_26 => ?_)
  refine z_iload_n E hl 3 rfl dX5_setPrices_29 rfl ?_
  refine z_i2l E dX5_setPrices_30 ⟨by omega, by omega⟩ ?_
  refine z_lconst E (z := 0) dX5_setPrices_31 (by decide) ?_
  refine z_ldc2 E (n := (100)) zw_135 (by decide +kernel) dX5_setPrices_32 ?_
  refine z_callS E G hl.1 (c_X5_isInF l D k4 d 0 100 (by omega) ⟨⟨by omega, by omega⟩, ⟨by omega, by omega⟩, ⟨by omega, by omega⟩⟩) kS_X5_42 ⟨rfl, rfl, Nat.le_of_ble_eq_true rfl, Nat.le_of_ble_eq_true rfl⟩ [] rfl (by decide) rfl rfl (Nat.le_of_ble_eq_true rfl) dX5_setPrices_35 ⟨(by first | exact Nat.le_of_ble_eq_true rfl | omega | (show _ ≤ (0); omega)), (by first | exact Nat.le_of_ble_eq_true rfl | omega | (show _ ≤ (0); omega))⟩ (fun v9 w9 H locs hq G => ?_)
  obtain ⟨rfl, rfl⟩ := hq
  refine W.eq (g2 := F0 mm 38 ls [.int (iI (0))]) rfl ?_
  have G : zG D AA ss.heap [(mo, .inr (5, [.int (iI (0)), .int (iI (((n : Nat) : Int))), .ref mnw, .ref mte, .ref mge, .ref mus, .int (iI (((p : Nat) : Int))), .int (iI (((st : Nat) : Int))), .int (iI (cc)), .int (iI (bc)), .ref mco, .ref mfl, .ref mba, .ref mdu, .long (lI (pot)), .long (lI (gr)), .long (lI (bk)), .int (iI (btw)), .int (iI (bhd))]))] H locs := G
  refine z_if_ne (tgt := 47) E dX5_setPrices_38 (by decide) (by decide) (fun c_38 => absurd c_38 (by decide)) (fun c_38 => ?_)
  refine z_aload_n E hl 0 rfl dX5_setPrices_41 rfl ?_
  refine z_iconst E dX5_setPrices_42 ?_
  refine z_callV E G hl.1 (c_X5_no l D k4 mo mnw mte mge mus mco mfl mba mdu 0 n p st cc bc pot gr bk btw bhd 1 ) kV_X5_51 ⟨rfl, rfl, Nat.le_of_ble_eq_true rfl, Nat.le_of_ble_eq_true rfl⟩ [0] rfl (by decide) 0 5 rfl rfl rfl rfl rfl (Nat.le_of_ble_eq_true rfl) dX5_setPrices_43 ⟨(by first | exact Nat.le_of_ble_eq_true rfl | omega | (show _ ≤ (0); omega)), (by first | exact Nat.le_of_ble_eq_true rfl | omega | (show _ ≤ (0); omega))⟩ (fun v9 w9 H locs hq G => ?_)
  obtain ⟨rfl, rfl⟩ := hq
  refine W.eq (g2 := F0 mm 46 ls [.int (iI (0))]) rfl ?_
  have G : zG D AA ss.heap [(mo, .inr (5, [.int (iI (1)), .int (iI (((n : Nat) : Int))), .ref mnw, .ref mte, .ref mge, .ref mus, .int (iI (((p : Nat) : Int))), .int (iI (((st : Nat) : Int))), .int (iI (cc)), .int (iI (bc)), .ref mco, .ref mfl, .ref mba, .ref mdu, .long (lI (pot)), .long (lI (gr)), .long (lI (bk)), .int (iI (btw)), .int (iI (bhd))]))] H locs := G
  exact z_iret (w' := [(mo, .inr (5, [.int (iI (1)), .int (iI (((n : Nat) : Int))), .ref mnw, .ref mte, .ref mge, .ref mus, .int (iI (((p : Nat) : Int))), .int (iI (((st : Nat) : Int))), .int (iI (cc)), .int (iI (bc)), .ref mco, .ref mfl, .ref mba, .ref mdu, .long (lI (pot)), .long (lI (gr)), .long (lI (bk)), .int (iI (btw)), .int (iI (bhd))]))]) (v := 0) E hr hlocks G dX5_setPrices_46 (by omega) (by omega) (zx0 rfl) ⟨rfl, rfl⟩

def q_c_X5_setBattery (k4 : Nat → ClassId) (mo mnw mte mge mus mco mfl mba mdu : Nat) (th : Int) (n p st : Nat) (cc bc pot gr bk btw bhd : Int) (a b d : Int) (NW : Nat → Int) : Option Value → va_W → Prop := (fun (v9 : Option Value) (w9 : va_W) => v9 = some (.int (iI (bc - min bc a))) ∧ w9 = [(mo, .inr (5, [.int (iI (0)), .int (iI (((n : Nat) : Int))), .ref mnw, .ref mte, .ref mge, .ref mus, .int (iI (((p : Nat) : Int))), .int (iI (((st : Nat) : Int))), .int (iI (cc)), .int (iI (min bc a)), .ref mco, .ref mfl, .ref mba, .ref mdu, .long (lI (pot)), .long (lI (gr)), .long (lI (bk)), .int (iI (btw)), .int (iI (bhd))])), (mnw, .inl (k4 0, 19, .inl (fun i9 => iI ((up (up (up NW 4 a) 5 b) 6 d) i9))))])
set_option maxHeartbeats 4000000 in
set_option maxRecDepth 100000 in
theorem c_X5_setBattery (l : Launch) (D : va_G) (k4 : Nat → ClassId) (mo mnw mte mge mus mco mfl mba mdu : Nat) (th : Int) (n p st : Nat) (cc bc pot gr bk btw bhd : Int) (a b d : Int) (NW : Nat → Int) (hn : n ≤ 6) (ha : 0 ≤ a ∧ a ≤ 20000) (hb : 0 ≤ b ∧ b ≤ 5000) (hd : 1 ≤ d ∧ d ≤ 100) (hbc : 0 ≤ bc ∧ bc ≤ 20000) : zC l yX5_setBattery (zW yX5_setBattery cX5_setBattery 5 (some .int)) ({ frames := 1, cells := 0, slots := 0, locals := 25 } : Room) D k4 [.ref mo, .int (iI (a)), .int (iI (b)), .int (iI (d))] [(mo, .inr (5, [.int (iI (th)), .int (iI (((n : Nat) : Int))), .ref mnw, .ref mte, .ref mge, .ref mus, .int (iI (((p : Nat) : Int))), .int (iI (((st : Nat) : Int))), .int (iI (cc)), .int (iI (bc)), .ref mco, .ref mfl, .ref mba, .ref mdu, .long (lI (pot)), .long (lI (gr)), .long (lI (bk)), .int (iI (btw)), .int (iI (bhd))])), (mnw, .inl (k4 0, 19, .inl (fun i9 => iI (NW i9))))] (0) (0) (q_c_X5_setBattery k4 mo mnw mte mge mus mco mfl mba mdu th n p st cc bc pot gr bk btw bhd a b d NW) := by
  refine zC_of (cc := cX5_setBattery) (by decide) (Nat.le_of_ble_eq_true rfl) (fun pp ee ss mm bl me co AA H locs ls E hr hlocks hin G hl => ?_)
  have hl : lv_has ls 5 [(0, .ref mo), (1, .int (iI (a))), (2, .int (iI (b))), (3, .int (iI (d)))] := hl
  refine z_aload_n E hl 0 rfl dX5_setBattery_0 rfl ?_
  refine z_iconst E dX5_setBattery_1 ?_
  refine kp_X5_35 E G 0 rfl (Nat.le_of_ble_eq_true rfl) dX5_setBattery_2 (fun H locs G => ?_)
  have G : zG D AA ss.heap [(mo, .inr (5, [.int (iI (0)), .int (iI (((n : Nat) : Int))), .ref mnw, .ref mte, .ref mge, .ref mus, .int (iI (((p : Nat) : Int))), .int (iI (((st : Nat) : Int))), .int (iI (cc)), .int (iI (bc)), .ref mco, .ref mfl, .ref mba, .ref mdu, .long (lI (pot)), .long (lI (gr)), .long (lI (bk)), .int (iI (btw)), .int (iI (bhd))])), (mnw, .inl (k4 0, 19, .inl (fun i9 => iI (NW i9))))] H locs := G
  refine z_iload_n E hl 1 rfl dX5_setBattery_5 rfl ?_
  refine z_i2l E dX5_setBattery_6 ⟨by omega, by omega⟩ ?_
  refine z_lconst E (z := 0) dX5_setBattery_7 (by decide) ?_
  refine z_ldc2 E (n := (20000)) zw_190 (by decide +kernel) dX5_setBattery_8 ?_
  refine z_callS E G hl.1 (c_X5_isIn l D k4 a 0 20000 (by omega) ⟨⟨by omega, by omega⟩, ⟨by omega, by omega⟩, ⟨by omega, by omega⟩⟩) kS_X5_42 ⟨rfl, rfl, Nat.le_of_ble_eq_true rfl, Nat.le_of_ble_eq_true rfl⟩ [] rfl (by decide) rfl rfl (Nat.le_of_ble_eq_true rfl) dX5_setBattery_11 ⟨(by first | exact Nat.le_of_ble_eq_true rfl | omega | (show _ ≤ (0); omega)), (by first | exact Nat.le_of_ble_eq_true rfl | omega | (show _ ≤ (0); omega))⟩ (fun v9 w9 H locs hq G => ?_)
  obtain ⟨rfl, rfl⟩ := hq
  refine W.eq (g2 := F0 mm 14 ls [.int (iI (1))]) rfl ?_
  have G : zG D AA ss.heap [(mo, .inr (5, [.int (iI (0)), .int (iI (((n : Nat) : Int))), .ref mnw, .ref mte, .ref mge, .ref mus, .int (iI (((p : Nat) : Int))), .int (iI (((st : Nat) : Int))), .int (iI (cc)), .int (iI (bc)), .ref mco, .ref mfl, .ref mba, .ref mdu, .long (lI (pot)), .long (lI (gr)), .long (lI (bk)), .int (iI (btw)), .int (iI (bhd))])), (mnw, .inl (k4 0, 19, .inl (fun i9 => iI (NW i9))))] H locs := G
  refine z_if_eq (tgt := 41) E dX5_setBattery_14 (by decide) (by decide) (fun c_14 => absurd c_14 (by decide)) (fun c_14 => ?_)
  refine z_iload_n E hl 2 rfl dX5_setBattery_17 rfl ?_
  refine z_i2l E dX5_setBattery_18 ⟨by omega, by omega⟩ ?_
  refine z_lconst E (z := 0) dX5_setBattery_19 (by decide) ?_
  refine z_ldc2 E (n := (5000)) zw_191 (by decide +kernel) dX5_setBattery_20 ?_
  refine z_callS E G hl.1 (c_X5_isIn l D k4 b 0 5000 (by omega) ⟨⟨by omega, by omega⟩, ⟨by omega, by omega⟩, ⟨by omega, by omega⟩⟩) kS_X5_42 ⟨rfl, rfl, Nat.le_of_ble_eq_true rfl, Nat.le_of_ble_eq_true rfl⟩ [] rfl (by decide) rfl rfl (Nat.le_of_ble_eq_true rfl) dX5_setBattery_23 ⟨(by first | exact Nat.le_of_ble_eq_true rfl | omega | (show _ ≤ (0); omega)), (by first | exact Nat.le_of_ble_eq_true rfl | omega | (show _ ≤ (0); omega))⟩ (fun v9 w9 H locs hq G => ?_)
  obtain ⟨rfl, rfl⟩ := hq
  refine W.eq (g2 := F0 mm 26 ls [.int (iI (1))]) rfl ?_
  have G : zG D AA ss.heap [(mo, .inr (5, [.int (iI (0)), .int (iI (((n : Nat) : Int))), .ref mnw, .ref mte, .ref mge, .ref mus, .int (iI (((p : Nat) : Int))), .int (iI (((st : Nat) : Int))), .int (iI (cc)), .int (iI (bc)), .ref mco, .ref mfl, .ref mba, .ref mdu, .long (lI (pot)), .long (lI (gr)), .long (lI (bk)), .int (iI (btw)), .int (iI (bhd))])), (mnw, .inl (k4 0, 19, .inl (fun i9 => iI (NW i9))))] H locs := G
  refine z_if_eq (tgt := 41) E dX5_setBattery_26 (by decide) (by decide) (fun c_26 => absurd c_26 (by decide)) (fun c_26 => ?_)
  refine z_iload_n E hl 3 rfl dX5_setBattery_29 rfl ?_
  refine z_i2l E dX5_setBattery_30 ⟨by omega, by omega⟩ ?_
  refine z_lconst E (z := 1) dX5_setBattery_31 (by decide) ?_
  refine z_ldc2 E (n := (100)) zw_135 (by decide +kernel) dX5_setBattery_32 ?_
  refine z_callS E G hl.1 (c_X5_isIn l D k4 d 1 100 (by omega) ⟨⟨by omega, by omega⟩, ⟨by omega, by omega⟩, ⟨by omega, by omega⟩⟩) kS_X5_42 ⟨rfl, rfl, Nat.le_of_ble_eq_true rfl, Nat.le_of_ble_eq_true rfl⟩ [] rfl (by decide) rfl rfl (Nat.le_of_ble_eq_true rfl) dX5_setBattery_35 ⟨(by first | exact Nat.le_of_ble_eq_true rfl | omega | (show _ ≤ (0); omega)), (by first | exact Nat.le_of_ble_eq_true rfl | omega | (show _ ≤ (0); omega))⟩ (fun v9 w9 H locs hq G => ?_)
  obtain ⟨rfl, rfl⟩ := hq
  refine W.eq (g2 := F0 mm 38 ls [.int (iI (1))]) rfl ?_
  have G : zG D AA ss.heap [(mo, .inr (5, [.int (iI (0)), .int (iI (((n : Nat) : Int))), .ref mnw, .ref mte, .ref mge, .ref mus, .int (iI (((p : Nat) : Int))), .int (iI (((st : Nat) : Int))), .int (iI (cc)), .int (iI (bc)), .ref mco, .ref mfl, .ref mba, .ref mdu, .long (lI (pot)), .long (lI (gr)), .long (lI (bk)), .int (iI (btw)), .int (iI (bhd))])), (mnw, .inl (k4 0, 19, .inl (fun i9 => iI (NW i9))))] H locs := G
  refine z_if_ne (tgt := 47) E dX5_setBattery_38 (by decide) (by decide) (fun c_38 => ?_) (fun c_38 => absurd c_38 (by decide))
  refine z_aload_n E hl 0 rfl dX5_setBattery_47 rfl ?_
  refine kg_X5_9 E G 0 rfl rfl dX5_setBattery_48 ?_
  refine z_iconst E dX5_setBattery_51 ?_
  refine z_iload_n E hl 1 rfl dX5_setBattery_52 rfl ?_
  refine z_iast E G 1 rfl (4) rfl (by decide) (by decide) dX5_setBattery_53 (fun H locs G => ?_)
  have G : zG D AA ss.heap [(mo, .inr (5, [.int (iI (0)), .int (iI (((n : Nat) : Int))), .ref mnw, .ref mte, .ref mge, .ref mus, .int (iI (((p : Nat) : Int))), .int (iI (((st : Nat) : Int))), .int (iI (cc)), .int (iI (bc)), .ref mco, .ref mfl, .ref mba, .ref mdu, .long (lI (pot)), .long (lI (gr)), .long (lI (bk)), .int (iI (btw)), .int (iI (bhd))])), (mnw, .inl (k4 0, 19, .inl (fun i9 => iI ((up NW (4) (a)) i9))))] H locs := G
  refine z_aload_n E hl 0 rfl dX5_setBattery_54 rfl ?_
  refine kg_X5_9 E G 0 rfl rfl dX5_setBattery_55 ?_
  refine z_iconst E dX5_setBattery_58 ?_
  refine z_iload_n E hl 2 rfl dX5_setBattery_59 rfl ?_
  refine z_iast E G 1 rfl (5) rfl (by decide) (by decide) dX5_setBattery_60 (fun H locs G => ?_)
  have G : zG D AA ss.heap [(mo, .inr (5, [.int (iI (0)), .int (iI (((n : Nat) : Int))), .ref mnw, .ref mte, .ref mge, .ref mus, .int (iI (((p : Nat) : Int))), .int (iI (((st : Nat) : Int))), .int (iI (cc)), .int (iI (bc)), .ref mco, .ref mfl, .ref mba, .ref mdu, .long (lI (pot)), .long (lI (gr)), .long (lI (bk)), .int (iI (btw)), .int (iI (bhd))])), (mnw, .inl (k4 0, 19, .inl (fun i9 => iI ((up (up NW (4) (a)) (5) (b)) i9))))] H locs := G
  refine z_aload_n E hl 0 rfl dX5_setBattery_61 rfl ?_
  refine kg_X5_9 E G 0 rfl rfl dX5_setBattery_62 ?_
  refine z_bipush E dX5_setBattery_65 (by decide) ?_
  refine z_iload_n E hl 3 rfl dX5_setBattery_67 rfl ?_
  refine z_iast E G 1 rfl (6) rfl (by decide) (by decide) dX5_setBattery_68 (fun H locs G => ?_)
  have G : zG D AA ss.heap [(mo, .inr (5, [.int (iI (0)), .int (iI (((n : Nat) : Int))), .ref mnw, .ref mte, .ref mge, .ref mus, .int (iI (((p : Nat) : Int))), .int (iI (((st : Nat) : Int))), .int (iI (cc)), .int (iI (bc)), .ref mco, .ref mfl, .ref mba, .ref mdu, .long (lI (pot)), .long (lI (gr)), .long (lI (bk)), .int (iI (btw)), .int (iI (bhd))])), (mnw, .inl (k4 0, 19, .inl (fun i9 => iI ((up (up (up NW (4) (a)) (5) (b)) (6) (d)) i9))))] H locs := G
  refine z_iconst E dX5_setBattery_69 ?_
  refine z_aload_n E hl 0 rfl dX5_setBattery_70 rfl ?_
  refine kg_X5_69 E G 0 rfl rfl dX5_setBattery_71 ?_
  refine z_iload_n E hl 1 rfl dX5_setBattery_74 rfl ?_
  refine z_isub E dX5_setBattery_75 ?_
  refine z_max E hl.1 zw_193 zw_184 zw_194 zw_195 (Nat.le_of_ble_eq_true rfl) (Nat.le_of_ble_eq_true rfl) (by omega) (by omega) (by decide) ⟨by omega, by omega⟩ dX5_setBattery_76 ?_
  refine z_istore E [(4, .int (iI (max (0) ((bc) - (a))))), (0, .ref mo), (1, .int (iI (a))), (2, .int (iI (b))), (3, .int (iI (d)))] dX5_setBattery_79 hl (by decide) rfl (fun ls hl => ?_)
  refine z_aload_n E hl 1 rfl dX5_setBattery_81 rfl ?_
  refine z_dup E dX5_setBattery_82 rfl ?_
  refine kg_X5_69 E G 0 rfl rfl dX5_setBattery_83 ?_
  refine z_iload E hl 0 rfl dX5_setBattery_86 ?_
  refine z_isub E dX5_setBattery_88 ?_
  refine z_eq (y := min bc a) (by omega) ?_
  refine kp_X5_69 E G 0 rfl (Nat.le_of_ble_eq_true rfl) dX5_setBattery_89 (fun H locs G => ?_)
  have G : zG D AA ss.heap [(mo, .inr (5, [.int (iI (0)), .int (iI (((n : Nat) : Int))), .ref mnw, .ref mte, .ref mge, .ref mus, .int (iI (((p : Nat) : Int))), .int (iI (((st : Nat) : Int))), .int (iI (cc)), .int (iI (min bc a)), .ref mco, .ref mfl, .ref mba, .ref mdu, .long (lI (pot)), .long (lI (gr)), .long (lI (bk)), .int (iI (btw)), .int (iI (bhd))])), (mnw, .inl (k4 0, 19, .inl (fun i9 => iI ((up (up (up NW (4) (a)) (5) (b)) (6) (d)) i9))))] H locs := G
  refine z_iload E hl 0 rfl dX5_setBattery_92 ?_
  refine z_eq (y := bc - min bc a) (by omega) ?_
  exact z_iret (w' := [(mo, .inr (5, [.int (iI (0)), .int (iI (((n : Nat) : Int))), .ref mnw, .ref mte, .ref mge, .ref mus, .int (iI (((p : Nat) : Int))), .int (iI (((st : Nat) : Int))), .int (iI (cc)), .int (iI (min bc a)), .ref mco, .ref mfl, .ref mba, .ref mdu, .long (lI (pot)), .long (lI (gr)), .long (lI (bk)), .int (iI (btw)), .int (iI (bhd))])), (mnw, .inl (k4 0, 19, .inl (fun i9 => iI ((up (up (up NW (4) (a)) (5) (b)) (6) (d)) i9))))]) (v := bc - min bc a) E hr hlocks G dX5_setBattery_94 (by omega) (by omega) (zx0 rfl) ⟨rfl, rfl⟩

def q_c_X5_setBattery_0 (k4 : Nat → ClassId) (mo mnw mte mge mus mco mfl mba mdu : Nat) (th : Int) (n p st : Nat) (cc bc pot gr bk btw bhd : Int) (a b d : Int) : Option Value → va_W → Prop := (fun (v9 : Option Value) (w9 : va_W) => v9 = some (.int (iI (0))) ∧ w9 = [(mo, .inr (5, [.int (iI (1)), .int (iI (((n : Nat) : Int))), .ref mnw, .ref mte, .ref mge, .ref mus, .int (iI (((p : Nat) : Int))), .int (iI (((st : Nat) : Int))), .int (iI (cc)), .int (iI (bc)), .ref mco, .ref mfl, .ref mba, .ref mdu, .long (lI (pot)), .long (lI (gr)), .long (lI (bk)), .int (iI (btw)), .int (iI (bhd))]))])
set_option maxHeartbeats 4000000 in
set_option maxRecDepth 100000 in
theorem c_X5_setBattery_0 (l : Launch) (D : va_G) (k4 : Nat → ClassId) (mo mnw mte mge mus mco mfl mba mdu : Nat) (th : Int) (n p st : Nat) (cc bc pot gr bk btw bhd : Int) (a b d : Int) (hn : n ≤ 6) (ha : (-2147483648 ≤ a ∧ a ≤ 2147483647) ∧ (a < 0 ∨ 20000 < a)) : zC l yX5_setBattery (zW yX5_setBattery cX5_setBattery 5 (some .int)) ({ frames := 1, cells := 0, slots := 0, locals := 25 } : Room) D k4 [.ref mo, .int (iI (a)), .int (iI (b)), .int (iI (d))] [(mo, .inr (5, [.int (iI (th)), .int (iI (((n : Nat) : Int))), .ref mnw, .ref mte, .ref mge, .ref mus, .int (iI (((p : Nat) : Int))), .int (iI (((st : Nat) : Int))), .int (iI (cc)), .int (iI (bc)), .ref mco, .ref mfl, .ref mba, .ref mdu, .long (lI (pot)), .long (lI (gr)), .long (lI (bk)), .int (iI (btw)), .int (iI (bhd))]))] (0) (0) (q_c_X5_setBattery_0 k4 mo mnw mte mge mus mco mfl mba mdu th n p st cc bc pot gr bk btw bhd a b d) := by
  refine zC_of (cc := cX5_setBattery) (by decide) (Nat.le_of_ble_eq_true rfl) (fun pp ee ss mm bl me co AA H locs ls E hr hlocks hin G hl => ?_)
  have hl : lv_has ls 5 [(0, .ref mo), (1, .int (iI (a))), (2, .int (iI (b))), (3, .int (iI (d)))] := hl
  refine z_aload_n E hl 0 rfl dX5_setBattery_0 rfl ?_
  refine z_iconst E dX5_setBattery_1 ?_
  refine kp_X5_35 E G 0 rfl (Nat.le_of_ble_eq_true rfl) dX5_setBattery_2 (fun H locs G => ?_)
  have G : zG D AA ss.heap [(mo, .inr (5, [.int (iI (0)), .int (iI (((n : Nat) : Int))), .ref mnw, .ref mte, .ref mge, .ref mus, .int (iI (((p : Nat) : Int))), .int (iI (((st : Nat) : Int))), .int (iI (cc)), .int (iI (bc)), .ref mco, .ref mfl, .ref mba, .ref mdu, .long (lI (pot)), .long (lI (gr)), .long (lI (bk)), .int (iI (btw)), .int (iI (bhd))]))] H locs := G
  refine z_iload_n E hl 1 rfl dX5_setBattery_5 rfl ?_
  refine z_i2l E dX5_setBattery_6 ⟨by omega, by omega⟩ ?_
  refine z_lconst E (z := 0) dX5_setBattery_7 (by decide) ?_
  refine z_ldc2 E (n := (20000)) zw_190 (by decide +kernel) dX5_setBattery_8 ?_
  refine z_callS E G hl.1 (c_X5_isInF l D k4 a 0 20000 (by omega) ⟨⟨by omega, by omega⟩, ⟨by omega, by omega⟩, ⟨by omega, by omega⟩⟩) kS_X5_42 ⟨rfl, rfl, Nat.le_of_ble_eq_true rfl, Nat.le_of_ble_eq_true rfl⟩ [] rfl (by decide) rfl rfl (Nat.le_of_ble_eq_true rfl) dX5_setBattery_11 ⟨(by first | exact Nat.le_of_ble_eq_true rfl | omega | (show _ ≤ (0); omega)), (by first | exact Nat.le_of_ble_eq_true rfl | omega | (show _ ≤ (0); omega))⟩ (fun v9 w9 H locs hq G => ?_)
  obtain ⟨rfl, rfl⟩ := hq
  refine W.eq (g2 := F0 mm 14 ls [.int (iI (0))]) rfl ?_
  have G : zG D AA ss.heap [(mo, .inr (5, [.int (iI (0)), .int (iI (((n : Nat) : Int))), .ref mnw, .ref mte, .ref mge, .ref mus, .int (iI (((p : Nat) : Int))), .int (iI (((st : Nat) : Int))), .int (iI (cc)), .int (iI (bc)), .ref mco, .ref mfl, .ref mba, .ref mdu, .long (lI (pot)), .long (lI (gr)), .long (lI (bk)), .int (iI (btw)), .int (iI (bhd))]))] H locs := G
  refine z_if_eq (tgt := 41) E dX5_setBattery_14 (by decide) (by decide) (fun c_14 => ?_) (fun c_14 => absurd c_14 (by decide))
  refine z_aload_n E hl 0 rfl dX5_setBattery_41 rfl ?_
  refine z_iconst E dX5_setBattery_42 ?_
  refine z_callV E G hl.1 (c_X5_no l D k4 mo mnw mte mge mus mco mfl mba mdu 0 n p st cc bc pot gr bk btw bhd 1 ) kV_X5_51 ⟨rfl, rfl, Nat.le_of_ble_eq_true rfl, Nat.le_of_ble_eq_true rfl⟩ [0] rfl (by decide) 0 5 rfl rfl rfl rfl rfl (Nat.le_of_ble_eq_true rfl) dX5_setBattery_43 ⟨(by first | exact Nat.le_of_ble_eq_true rfl | omega | (show _ ≤ (0); omega)), (by first | exact Nat.le_of_ble_eq_true rfl | omega | (show _ ≤ (0); omega))⟩ (fun v9 w9 H locs hq G => ?_)
  obtain ⟨rfl, rfl⟩ := hq
  refine W.eq (g2 := F0 mm 46 ls [.int (iI (0))]) rfl ?_
  have G : zG D AA ss.heap [(mo, .inr (5, [.int (iI (1)), .int (iI (((n : Nat) : Int))), .ref mnw, .ref mte, .ref mge, .ref mus, .int (iI (((p : Nat) : Int))), .int (iI (((st : Nat) : Int))), .int (iI (cc)), .int (iI (bc)), .ref mco, .ref mfl, .ref mba, .ref mdu, .long (lI (pot)), .long (lI (gr)), .long (lI (bk)), .int (iI (btw)), .int (iI (bhd))]))] H locs := G
  exact z_iret (w' := [(mo, .inr (5, [.int (iI (1)), .int (iI (((n : Nat) : Int))), .ref mnw, .ref mte, .ref mge, .ref mus, .int (iI (((p : Nat) : Int))), .int (iI (((st : Nat) : Int))), .int (iI (cc)), .int (iI (bc)), .ref mco, .ref mfl, .ref mba, .ref mdu, .long (lI (pot)), .long (lI (gr)), .long (lI (bk)), .int (iI (btw)), .int (iI (bhd))]))]) (v := 0) E hr hlocks G dX5_setBattery_46 (by omega) (by omega) (zx0 rfl) ⟨rfl, rfl⟩

def q_c_X5_setBattery_1 (k4 : Nat → ClassId) (mo mnw mte mge mus mco mfl mba mdu : Nat) (th : Int) (n p st : Nat) (cc bc pot gr bk btw bhd : Int) (a b d : Int) : Option Value → va_W → Prop := (fun (v9 : Option Value) (w9 : va_W) => v9 = some (.int (iI (0))) ∧ w9 = [(mo, .inr (5, [.int (iI (1)), .int (iI (((n : Nat) : Int))), .ref mnw, .ref mte, .ref mge, .ref mus, .int (iI (((p : Nat) : Int))), .int (iI (((st : Nat) : Int))), .int (iI (cc)), .int (iI (bc)), .ref mco, .ref mfl, .ref mba, .ref mdu, .long (lI (pot)), .long (lI (gr)), .long (lI (bk)), .int (iI (btw)), .int (iI (bhd))]))])
set_option maxHeartbeats 4000000 in
set_option maxRecDepth 100000 in
theorem c_X5_setBattery_1 (l : Launch) (D : va_G) (k4 : Nat → ClassId) (mo mnw mte mge mus mco mfl mba mdu : Nat) (th : Int) (n p st : Nat) (cc bc pot gr bk btw bhd : Int) (a b d : Int) (hn : n ≤ 6) (ha : 0 ≤ a ∧ a ≤ 20000) (hb : (-2147483648 ≤ b ∧ b ≤ 2147483647) ∧ (b < 0 ∨ 5000 < b)) : zC l yX5_setBattery (zW yX5_setBattery cX5_setBattery 5 (some .int)) ({ frames := 1, cells := 0, slots := 0, locals := 25 } : Room) D k4 [.ref mo, .int (iI (a)), .int (iI (b)), .int (iI (d))] [(mo, .inr (5, [.int (iI (th)), .int (iI (((n : Nat) : Int))), .ref mnw, .ref mte, .ref mge, .ref mus, .int (iI (((p : Nat) : Int))), .int (iI (((st : Nat) : Int))), .int (iI (cc)), .int (iI (bc)), .ref mco, .ref mfl, .ref mba, .ref mdu, .long (lI (pot)), .long (lI (gr)), .long (lI (bk)), .int (iI (btw)), .int (iI (bhd))]))] (0) (0) (q_c_X5_setBattery_1 k4 mo mnw mte mge mus mco mfl mba mdu th n p st cc bc pot gr bk btw bhd a b d) := by
  refine zC_of (cc := cX5_setBattery) (by decide) (Nat.le_of_ble_eq_true rfl) (fun pp ee ss mm bl me co AA H locs ls E hr hlocks hin G hl => ?_)
  have hl : lv_has ls 5 [(0, .ref mo), (1, .int (iI (a))), (2, .int (iI (b))), (3, .int (iI (d)))] := hl
  refine z_aload_n E hl 0 rfl dX5_setBattery_0 rfl ?_
  refine z_iconst E dX5_setBattery_1 ?_
  refine kp_X5_35 E G 0 rfl (Nat.le_of_ble_eq_true rfl) dX5_setBattery_2 (fun H locs G => ?_)
  have G : zG D AA ss.heap [(mo, .inr (5, [.int (iI (0)), .int (iI (((n : Nat) : Int))), .ref mnw, .ref mte, .ref mge, .ref mus, .int (iI (((p : Nat) : Int))), .int (iI (((st : Nat) : Int))), .int (iI (cc)), .int (iI (bc)), .ref mco, .ref mfl, .ref mba, .ref mdu, .long (lI (pot)), .long (lI (gr)), .long (lI (bk)), .int (iI (btw)), .int (iI (bhd))]))] H locs := G
  refine z_iload_n E hl 1 rfl dX5_setBattery_5 rfl ?_
  refine z_i2l E dX5_setBattery_6 ⟨by omega, by omega⟩ ?_
  refine z_lconst E (z := 0) dX5_setBattery_7 (by decide) ?_
  refine z_ldc2 E (n := (20000)) zw_190 (by decide +kernel) dX5_setBattery_8 ?_
  refine z_callS E G hl.1 (c_X5_isIn l D k4 a 0 20000 (by omega) ⟨⟨by omega, by omega⟩, ⟨by omega, by omega⟩, ⟨by omega, by omega⟩⟩) kS_X5_42 ⟨rfl, rfl, Nat.le_of_ble_eq_true rfl, Nat.le_of_ble_eq_true rfl⟩ [] rfl (by decide) rfl rfl (Nat.le_of_ble_eq_true rfl) dX5_setBattery_11 ⟨(by first | exact Nat.le_of_ble_eq_true rfl | omega | (show _ ≤ (0); omega)), (by first | exact Nat.le_of_ble_eq_true rfl | omega | (show _ ≤ (0); omega))⟩ (fun v9 w9 H locs hq G => ?_)
  obtain ⟨rfl, rfl⟩ := hq
  refine W.eq (g2 := F0 mm 14 ls [.int (iI (1))]) rfl ?_
  have G : zG D AA ss.heap [(mo, .inr (5, [.int (iI (0)), .int (iI (((n : Nat) : Int))), .ref mnw, .ref mte, .ref mge, .ref mus, .int (iI (((p : Nat) : Int))), .int (iI (((st : Nat) : Int))), .int (iI (cc)), .int (iI (bc)), .ref mco, .ref mfl, .ref mba, .ref mdu, .long (lI (pot)), .long (lI (gr)), .long (lI (bk)), .int (iI (btw)), .int (iI (bhd))]))] H locs := G
  refine z_if_eq (tgt := 41) E dX5_setBattery_14 (by decide) (by decide) (fun c_14 => absurd c_14 (by decide)) (fun c_14 => ?_)
  refine z_iload_n E hl 2 rfl dX5_setBattery_17 rfl ?_
  refine z_i2l E dX5_setBattery_18 ⟨by omega, by omega⟩ ?_
  refine z_lconst E (z := 0) dX5_setBattery_19 (by decide) ?_
  refine z_ldc2 E (n := (5000)) zw_191 (by decide +kernel) dX5_setBattery_20 ?_
  refine z_callS E G hl.1 (c_X5_isInF l D k4 b 0 5000 (by omega) ⟨⟨by omega, by omega⟩, ⟨by omega, by omega⟩, ⟨by omega, by omega⟩⟩) kS_X5_42 ⟨rfl, rfl, Nat.le_of_ble_eq_true rfl, Nat.le_of_ble_eq_true rfl⟩ [] rfl (by decide) rfl rfl (Nat.le_of_ble_eq_true rfl) dX5_setBattery_23 ⟨(by first | exact Nat.le_of_ble_eq_true rfl | omega | (show _ ≤ (0); omega)), (by first | exact Nat.le_of_ble_eq_true rfl | omega | (show _ ≤ (0); omega))⟩ (fun v9 w9 H locs hq G => ?_)
  obtain ⟨rfl, rfl⟩ := hq
  refine W.eq (g2 := F0 mm 26 ls [.int (iI (0))]) rfl ?_
  have G : zG D AA ss.heap [(mo, .inr (5, [.int (iI (0)), .int (iI (((n : Nat) : Int))), .ref mnw, .ref mte, .ref mge, .ref mus, .int (iI (((p : Nat) : Int))), .int (iI (((st : Nat) : Int))), .int (iI (cc)), .int (iI (bc)), .ref mco, .ref mfl, .ref mba, .ref mdu, .long (lI (pot)), .long (lI (gr)), .long (lI (bk)), .int (iI (btw)), .int (iI (bhd))]))] H locs := G
  refine z_if_eq (tgt := 41) E dX5_setBattery_26 (by decide) (by decide) (fun c_26 => ?_) (fun c_26 => absurd c_26 (by decide))
  refine z_aload_n E hl 0 rfl dX5_setBattery_41 rfl ?_
  refine z_iconst E dX5_setBattery_42 ?_
  refine z_callV E G hl.1 (c_X5_no l D k4 mo mnw mte mge mus mco mfl mba mdu 0 n p st cc bc pot gr bk btw bhd 1 ) kV_X5_51 ⟨rfl, rfl, Nat.le_of_ble_eq_true rfl, Nat.le_of_ble_eq_true rfl⟩ [0] rfl (by decide) 0 5 rfl rfl rfl rfl rfl (Nat.le_of_ble_eq_true rfl) dX5_setBattery_43 ⟨(by first | exact Nat.le_of_ble_eq_true rfl | omega | (show _ ≤ (0); omega)), (by first | exact Nat.le_of_ble_eq_true rfl | omega | (show _ ≤ (0); omega))⟩ (fun v9 w9 H locs hq G => ?_)
  obtain ⟨rfl, rfl⟩ := hq
  refine W.eq (g2 := F0 mm 46 ls [.int (iI (0))]) rfl ?_
  have G : zG D AA ss.heap [(mo, .inr (5, [.int (iI (1)), .int (iI (((n : Nat) : Int))), .ref mnw, .ref mte, .ref mge, .ref mus, .int (iI (((p : Nat) : Int))), .int (iI (((st : Nat) : Int))), .int (iI (cc)), .int (iI (bc)), .ref mco, .ref mfl, .ref mba, .ref mdu, .long (lI (pot)), .long (lI (gr)), .long (lI (bk)), .int (iI (btw)), .int (iI (bhd))]))] H locs := G
  exact z_iret (w' := [(mo, .inr (5, [.int (iI (1)), .int (iI (((n : Nat) : Int))), .ref mnw, .ref mte, .ref mge, .ref mus, .int (iI (((p : Nat) : Int))), .int (iI (((st : Nat) : Int))), .int (iI (cc)), .int (iI (bc)), .ref mco, .ref mfl, .ref mba, .ref mdu, .long (lI (pot)), .long (lI (gr)), .long (lI (bk)), .int (iI (btw)), .int (iI (bhd))]))]) (v := 0) E hr hlocks G dX5_setBattery_46 (by omega) (by omega) (zx0 rfl) ⟨rfl, rfl⟩

def q_c_X5_setBattery_2 (k4 : Nat → ClassId) (mo mnw mte mge mus mco mfl mba mdu : Nat) (th : Int) (n p st : Nat) (cc bc pot gr bk btw bhd : Int) (a b d : Int) : Option Value → va_W → Prop := (fun (v9 : Option Value) (w9 : va_W) => v9 = some (.int (iI (0))) ∧ w9 = [(mo, .inr (5, [.int (iI (1)), .int (iI (((n : Nat) : Int))), .ref mnw, .ref mte, .ref mge, .ref mus, .int (iI (((p : Nat) : Int))), .int (iI (((st : Nat) : Int))), .int (iI (cc)), .int (iI (bc)), .ref mco, .ref mfl, .ref mba, .ref mdu, .long (lI (pot)), .long (lI (gr)), .long (lI (bk)), .int (iI (btw)), .int (iI (bhd))]))])
set_option maxHeartbeats 4000000 in
set_option maxRecDepth 100000 in
theorem c_X5_setBattery_2 (l : Launch) (D : va_G) (k4 : Nat → ClassId) (mo mnw mte mge mus mco mfl mba mdu : Nat) (th : Int) (n p st : Nat) (cc bc pot gr bk btw bhd : Int) (a b d : Int) (hn : n ≤ 6) (ha : 0 ≤ a ∧ a ≤ 20000) (hb : 0 ≤ b ∧ b ≤ 5000) (hd : (-2147483648 ≤ d ∧ d ≤ 2147483647) ∧ (d < 1 ∨ 100 < d)) : zC l yX5_setBattery (zW yX5_setBattery cX5_setBattery 5 (some .int)) ({ frames := 1, cells := 0, slots := 0, locals := 25 } : Room) D k4 [.ref mo, .int (iI (a)), .int (iI (b)), .int (iI (d))] [(mo, .inr (5, [.int (iI (th)), .int (iI (((n : Nat) : Int))), .ref mnw, .ref mte, .ref mge, .ref mus, .int (iI (((p : Nat) : Int))), .int (iI (((st : Nat) : Int))), .int (iI (cc)), .int (iI (bc)), .ref mco, .ref mfl, .ref mba, .ref mdu, .long (lI (pot)), .long (lI (gr)), .long (lI (bk)), .int (iI (btw)), .int (iI (bhd))]))] (0) (0) (q_c_X5_setBattery_2 k4 mo mnw mte mge mus mco mfl mba mdu th n p st cc bc pot gr bk btw bhd a b d) := by
  refine zC_of (cc := cX5_setBattery) (by decide) (Nat.le_of_ble_eq_true rfl) (fun pp ee ss mm bl me co AA H locs ls E hr hlocks hin G hl => ?_)
  have hl : lv_has ls 5 [(0, .ref mo), (1, .int (iI (a))), (2, .int (iI (b))), (3, .int (iI (d)))] := hl
  refine z_aload_n E hl 0 rfl dX5_setBattery_0 rfl ?_
  refine z_iconst E dX5_setBattery_1 ?_
  refine kp_X5_35 E G 0 rfl (Nat.le_of_ble_eq_true rfl) dX5_setBattery_2 (fun H locs G => ?_)
  have G : zG D AA ss.heap [(mo, .inr (5, [.int (iI (0)), .int (iI (((n : Nat) : Int))), .ref mnw, .ref mte, .ref mge, .ref mus, .int (iI (((p : Nat) : Int))), .int (iI (((st : Nat) : Int))), .int (iI (cc)), .int (iI (bc)), .ref mco, .ref mfl, .ref mba, .ref mdu, .long (lI (pot)), .long (lI (gr)), .long (lI (bk)), .int (iI (btw)), .int (iI (bhd))]))] H locs := G
  refine z_iload_n E hl 1 rfl dX5_setBattery_5 rfl ?_
  refine z_i2l E dX5_setBattery_6 ⟨by omega, by omega⟩ ?_
  refine z_lconst E (z := 0) dX5_setBattery_7 (by decide) ?_
  refine z_ldc2 E (n := (20000)) zw_190 (by decide +kernel) dX5_setBattery_8 ?_
  refine z_callS E G hl.1 (c_X5_isIn l D k4 a 0 20000 (by omega) ⟨⟨by omega, by omega⟩, ⟨by omega, by omega⟩, ⟨by omega, by omega⟩⟩) kS_X5_42 ⟨rfl, rfl, Nat.le_of_ble_eq_true rfl, Nat.le_of_ble_eq_true rfl⟩ [] rfl (by decide) rfl rfl (Nat.le_of_ble_eq_true rfl) dX5_setBattery_11 ⟨(by first | exact Nat.le_of_ble_eq_true rfl | omega | (show _ ≤ (0); omega)), (by first | exact Nat.le_of_ble_eq_true rfl | omega | (show _ ≤ (0); omega))⟩ (fun v9 w9 H locs hq G => ?_)
  obtain ⟨rfl, rfl⟩ := hq
  refine W.eq (g2 := F0 mm 14 ls [.int (iI (1))]) rfl ?_
  have G : zG D AA ss.heap [(mo, .inr (5, [.int (iI (0)), .int (iI (((n : Nat) : Int))), .ref mnw, .ref mte, .ref mge, .ref mus, .int (iI (((p : Nat) : Int))), .int (iI (((st : Nat) : Int))), .int (iI (cc)), .int (iI (bc)), .ref mco, .ref mfl, .ref mba, .ref mdu, .long (lI (pot)), .long (lI (gr)), .long (lI (bk)), .int (iI (btw)), .int (iI (bhd))]))] H locs := G
  refine z_if_eq (tgt := 41) E dX5_setBattery_14 (by decide) (by decide) (fun c_14 => absurd c_14 (by decide)) (fun c_14 => ?_)
  refine z_iload_n E hl 2 rfl dX5_setBattery_17 rfl ?_
  refine z_i2l E dX5_setBattery_18 ⟨by omega, by omega⟩ ?_
  refine z_lconst E (z := 0) dX5_setBattery_19 (by decide) ?_
  refine z_ldc2 E (n := (5000)) zw_191 (by decide +kernel) dX5_setBattery_20 ?_
  refine z_callS E G hl.1 (c_X5_isIn l D k4 b 0 5000 (by omega) ⟨⟨by omega, by omega⟩, ⟨by omega, by omega⟩, ⟨by omega, by omega⟩⟩) kS_X5_42 ⟨rfl, rfl, Nat.le_of_ble_eq_true rfl, Nat.le_of_ble_eq_true rfl⟩ [] rfl (by decide) rfl rfl (Nat.le_of_ble_eq_true rfl) dX5_setBattery_23 ⟨(by first | exact Nat.le_of_ble_eq_true rfl | omega | (show _ ≤ (0); omega)), (by first | exact Nat.le_of_ble_eq_true rfl | omega | (show _ ≤ (0); omega))⟩ (fun v9 w9 H locs hq G => ?_)
  obtain ⟨rfl, rfl⟩ := hq
  refine W.eq (g2 := F0 mm 26 ls [.int (iI (1))]) rfl ?_
  have G : zG D AA ss.heap [(mo, .inr (5, [.int (iI (0)), .int (iI (((n : Nat) : Int))), .ref mnw, .ref mte, .ref mge, .ref mus, .int (iI (((p : Nat) : Int))), .int (iI (((st : Nat) : Int))), .int (iI (cc)), .int (iI (bc)), .ref mco, .ref mfl, .ref mba, .ref mdu, .long (lI (pot)), .long (lI (gr)), .long (lI (bk)), .int (iI (btw)), .int (iI (bhd))]))] H locs := G
  refine z_if_eq (tgt := 41) E dX5_setBattery_26 (by decide) (by decide) (fun c_26 => absurd c_26 (by decide)) (fun c_26 => ?_)
  refine z_iload_n E hl 3 rfl dX5_setBattery_29 rfl ?_
  refine z_i2l E dX5_setBattery_30 ⟨by omega, by omega⟩ ?_
  refine z_lconst E (z := 1) dX5_setBattery_31 (by decide) ?_
  refine z_ldc2 E (n := (100)) zw_135 (by decide +kernel) dX5_setBattery_32 ?_
  refine z_callS E G hl.1 (c_X5_isInF l D k4 d 1 100 (by omega) ⟨⟨by omega, by omega⟩, ⟨by omega, by omega⟩, ⟨by omega, by omega⟩⟩) kS_X5_42 ⟨rfl, rfl, Nat.le_of_ble_eq_true rfl, Nat.le_of_ble_eq_true rfl⟩ [] rfl (by decide) rfl rfl (Nat.le_of_ble_eq_true rfl) dX5_setBattery_35 ⟨(by first | exact Nat.le_of_ble_eq_true rfl | omega | (show _ ≤ (0); omega)), (by first | exact Nat.le_of_ble_eq_true rfl | omega | (show _ ≤ (0); omega))⟩ (fun v9 w9 H locs hq G => ?_)
  obtain ⟨rfl, rfl⟩ := hq
  refine W.eq (g2 := F0 mm 38 ls [.int (iI (0))]) rfl ?_
  have G : zG D AA ss.heap [(mo, .inr (5, [.int (iI (0)), .int (iI (((n : Nat) : Int))), .ref mnw, .ref mte, .ref mge, .ref mus, .int (iI (((p : Nat) : Int))), .int (iI (((st : Nat) : Int))), .int (iI (cc)), .int (iI (bc)), .ref mco, .ref mfl, .ref mba, .ref mdu, .long (lI (pot)), .long (lI (gr)), .long (lI (bk)), .int (iI (btw)), .int (iI (bhd))]))] H locs := G
  refine z_if_ne (tgt := 47) E dX5_setBattery_38 (by decide) (by decide) (fun c_38 => absurd c_38 (by decide)) (fun c_38 => ?_)
  refine z_aload_n E hl 0 rfl dX5_setBattery_41 rfl ?_
  refine z_iconst E dX5_setBattery_42 ?_
  refine z_callV E G hl.1 (c_X5_no l D k4 mo mnw mte mge mus mco mfl mba mdu 0 n p st cc bc pot gr bk btw bhd 1 ) kV_X5_51 ⟨rfl, rfl, Nat.le_of_ble_eq_true rfl, Nat.le_of_ble_eq_true rfl⟩ [0] rfl (by decide) 0 5 rfl rfl rfl rfl rfl (Nat.le_of_ble_eq_true rfl) dX5_setBattery_43 ⟨(by first | exact Nat.le_of_ble_eq_true rfl | omega | (show _ ≤ (0); omega)), (by first | exact Nat.le_of_ble_eq_true rfl | omega | (show _ ≤ (0); omega))⟩ (fun v9 w9 H locs hq G => ?_)
  obtain ⟨rfl, rfl⟩ := hq
  refine W.eq (g2 := F0 mm 46 ls [.int (iI (0))]) rfl ?_
  have G : zG D AA ss.heap [(mo, .inr (5, [.int (iI (1)), .int (iI (((n : Nat) : Int))), .ref mnw, .ref mte, .ref mge, .ref mus, .int (iI (((p : Nat) : Int))), .int (iI (((st : Nat) : Int))), .int (iI (cc)), .int (iI (bc)), .ref mco, .ref mfl, .ref mba, .ref mdu, .long (lI (pot)), .long (lI (gr)), .long (lI (bk)), .int (iI (btw)), .int (iI (bhd))]))] H locs := G
  exact z_iret (w' := [(mo, .inr (5, [.int (iI (1)), .int (iI (((n : Nat) : Int))), .ref mnw, .ref mte, .ref mge, .ref mus, .int (iI (((p : Nat) : Int))), .int (iI (((st : Nat) : Int))), .int (iI (cc)), .int (iI (bc)), .ref mco, .ref mfl, .ref mba, .ref mdu, .long (lI (pot)), .long (lI (gr)), .long (lI (bk)), .int (iI (btw)), .int (iI (bhd))]))]) (v := 0) E hr hlocks G dX5_setBattery_46 (by omega) (by omega) (zx0 rfl) ⟨rfl, rfl⟩

def q_c_X5_meter (k4 : Nat → ClassId) (mo mnw mte mge mus mco mfl mba mdu : Nat) (th : Int) (n p st : Nat) (cc bc pot gr bk btw bhd : Int) (m k : Nat) (a b : Int) (GE US : Nat → Int) : Option Value → va_W → Prop := (fun (v9 : Option Value) (w9 : va_W) => v9 = some (.int (iI (if GE (48 * m + k) ≠ a ∨ US (48 * m + k) ≠ b then 1 else 0))) ∧ w9 = [(mo, .inr (5, [.int (iI (0)), .int (iI (((n : Nat) : Int))), .ref mnw, .ref mte, .ref mge, .ref mus, .int (iI (((p : Nat) : Int))), .int (iI (((st : Nat) : Int))), .int (iI (cc)), .int (iI (bc)), .ref mco, .ref mfl, .ref mba, .ref mdu, .long (lI (pot)), .long (lI (gr)), .long (lI (bk)), .int (iI (btw)), .int (iI (bhd))])), (mge, .inl (k4 0, 288, .inl (fun i9 => iI ((up GE (48 * m + k) a) i9)))), (mus, .inl (k4 0, 288, .inl (fun i9 => iI ((up US (48 * m + k) b) i9))))])
set_option maxHeartbeats 4000000 in
set_option maxRecDepth 100000 in
theorem c_X5_meter (l : Launch) (D : va_G) (k4 : Nat → ClassId) (mo mnw mte mge mus mco mfl mba mdu : Nat) (th : Int) (n p st : Nat) (cc bc pot gr bk btw bhd : Int) (m k : Nat) (a b : Int) (GE US : Nat → Int) (hn : n ≤ 6) (hm : m < n) (hk : k < 48) (ha : 0 ≤ a ∧ a ≤ 5000) (hb : 0 ≤ b ∧ b ≤ 5000) (hgk : 0 ≤ GE (48 * m + k) ∧ GE (48 * m + k) ≤ 5000) (huk : 0 ≤ US (48 * m + k) ∧ US (48 * m + k) ≤ 5000) (hkp : p ≤ k) : zC l yX5_meter (zW yX5_meter cX5_meter 7 (some .boolean)) ({ frames := 2, cells := 0, slots := 0, locals := 46 } : Room) D k4 [.ref mo, .int (iI (((m : Nat) : Int))), .int (iI (((k : Nat) : Int))), .int (iI (a)), .int (iI (b))] [(mo, .inr (5, [.int (iI (th)), .int (iI (((n : Nat) : Int))), .ref mnw, .ref mte, .ref mge, .ref mus, .int (iI (((p : Nat) : Int))), .int (iI (((st : Nat) : Int))), .int (iI (cc)), .int (iI (bc)), .ref mco, .ref mfl, .ref mba, .ref mdu, .long (lI (pot)), .long (lI (gr)), .long (lI (bk)), .int (iI (btw)), .int (iI (bhd))])), (mge, .inl (k4 0, 288, .inl (fun i9 => iI (GE i9)))), (mus, .inl (k4 0, 288, .inl (fun i9 => iI (US i9))))] (0) (0) (q_c_X5_meter k4 mo mnw mte mge mus mco mfl mba mdu th n p st cc bc pot gr bk btw bhd m k a b GE US) := by
  refine zC_of (cc := cX5_meter) (by decide) (Nat.le_of_ble_eq_true rfl) (fun pp ee ss mm bl me co AA H locs ls E hr hlocks hin G hl => ?_)
  have hl : lv_has ls 7 [(0, .ref mo), (1, .int (iI (((m : Nat) : Int)))), (2, .int (iI (((k : Nat) : Int)))), (3, .int (iI (a))), (4, .int (iI (b)))] := hl
  refine z_aload_n E hl 0 rfl dX5_meter_0 rfl ?_
  refine z_aload_n E hl 0 rfl dX5_meter_1 rfl ?_
  refine z_iload_n E hl 1 rfl dX5_meter_2 rfl ?_
  refine z_callV E G hl.1 (c_X5_isMember l D k4 mo mnw mte mge mus mco mfl mba mdu th n p st cc bc pot gr bk btw bhd (((m : Nat) : Int)) (by omega) ⟨by omega, by omega⟩ hn) kV_X5_55 ⟨rfl, rfl, Nat.le_of_ble_eq_true rfl, Nat.le_of_ble_eq_true rfl⟩ [0] rfl (by decide) 0 5 rfl rfl rfl rfl rfl (Nat.le_of_ble_eq_true rfl) dX5_meter_3 ⟨(by first | exact Nat.le_of_ble_eq_true rfl | omega | (show _ ≤ (0); omega)), (by first | exact Nat.le_of_ble_eq_true rfl | omega | (show _ ≤ (0); omega))⟩ (fun v9 w9 H locs hq G => ?_)
  obtain ⟨rfl, rfl⟩ := hq
  refine W.eq (g2 := F0 mm 6 ls [.int (iI (1)), .ref mo]) rfl ?_
  have G : zG D AA ss.heap [(mo, .inr (5, [.int (iI (th)), .int (iI (((n : Nat) : Int))), .ref mnw, .ref mte, .ref mge, .ref mus, .int (iI (((p : Nat) : Int))), .int (iI (((st : Nat) : Int))), .int (iI (cc)), .int (iI (bc)), .ref mco, .ref mfl, .ref mba, .ref mdu, .long (lI (pot)), .long (lI (gr)), .long (lI (bk)), .int (iI (btw)), .int (iI (bhd))])), (mge, .inl (k4 0, 288, .inl (fun i9 => iI (GE i9)))), (mus, .inl (k4 0, 288, .inl (fun i9 => iI (US i9))))] H locs := G
  refine z_if_eq (tgt := 16) E dX5_meter_6 (by decide) (by decide) (fun c_6 => absurd c_6 (by decide)) (fun c_6 => ?_)
  refine z_iload_n E hl 2 rfl dX5_meter_9 rfl ?_
  refine z_callS E G hl.1 (c_X5_isSlot l D k4 (((k : Nat) : Int)) (by omega) ⟨by omega, by omega⟩) kS_X5_147 ⟨rfl, rfl, Nat.le_of_ble_eq_true rfl, Nat.le_of_ble_eq_true rfl⟩ [] rfl (by decide) rfl rfl (Nat.le_of_ble_eq_true rfl) dX5_meter_10 ⟨(by first | exact Nat.le_of_ble_eq_true rfl | omega | (show _ ≤ (0); omega)), (by first | exact Nat.le_of_ble_eq_true rfl | omega | (show _ ≤ (0); omega))⟩ (fun v9 w9 H locs hq G => ?_)
  obtain ⟨rfl, rfl⟩ := hq
  refine W.eq (g2 := F0 mm 13 ls [.int (iI (1)), .ref mo]) rfl ?_
  have G : zG D AA ss.heap [(mo, .inr (5, [.int (iI (th)), .int (iI (((n : Nat) : Int))), .ref mnw, .ref mte, .ref mge, .ref mus, .int (iI (((p : Nat) : Int))), .int (iI (((st : Nat) : Int))), .int (iI (cc)), .int (iI (bc)), .ref mco, .ref mfl, .ref mba, .ref mdu, .long (lI (pot)), .long (lI (gr)), .long (lI (bk)), .int (iI (btw)), .int (iI (bhd))])), (mge, .inl (k4 0, 288, .inl (fun i9 => iI (GE i9)))), (mus, .inl (k4 0, 288, .inl (fun i9 => iI (US i9))))] H locs := G
  refine z_if_ne (tgt := 20) E dX5_meter_13 (by decide) (by decide) (fun c_13 => ?_) (fun c_13 => absurd c_13 (by decide))
  refine z_iload_n E hl 3 rfl dX5_meter_20 rfl ?_
  refine z_i2l E dX5_meter_21 ⟨by omega, by omega⟩ ?_
  refine z_lconst E (z := 0) dX5_meter_22 (by decide) ?_
  refine z_ldc2 E (n := (5000)) zw_191 (by decide +kernel) dX5_meter_23 ?_
  refine z_callS E G hl.1 (c_X5_isIn l D k4 a 0 5000 (by omega) ⟨⟨by omega, by omega⟩, ⟨by omega, by omega⟩, ⟨by omega, by omega⟩⟩) kS_X5_42 ⟨rfl, rfl, Nat.le_of_ble_eq_true rfl, Nat.le_of_ble_eq_true rfl⟩ [] rfl (by decide) rfl rfl (Nat.le_of_ble_eq_true rfl) dX5_meter_26 ⟨(by first | exact Nat.le_of_ble_eq_true rfl | omega | (show _ ≤ (0); omega)), (by first | exact Nat.le_of_ble_eq_true rfl | omega | (show _ ≤ (0); omega))⟩ (fun v9 w9 H locs hq G => ?_)
  obtain ⟨rfl, rfl⟩ := hq
  refine W.eq (g2 := F0 mm 29 ls [.int (iI (1)), .ref mo]) rfl ?_
  have G : zG D AA ss.heap [(mo, .inr (5, [.int (iI (th)), .int (iI (((n : Nat) : Int))), .ref mnw, .ref mte, .ref mge, .ref mus, .int (iI (((p : Nat) : Int))), .int (iI (((st : Nat) : Int))), .int (iI (cc)), .int (iI (bc)), .ref mco, .ref mfl, .ref mba, .ref mdu, .long (lI (pot)), .long (lI (gr)), .long (lI (bk)), .int (iI (btw)), .int (iI (bhd))])), (mge, .inl (k4 0, 288, .inl (fun i9 => iI (GE i9)))), (mus, .inl (k4 0, 288, .inl (fun i9 => iI (US i9))))] H locs := G
  refine z_if_eq (tgt := 45) E dX5_meter_29 (by decide) (by decide) (fun c_29 => absurd c_29 (by decide)) (fun c_29 => ?_)
  refine z_iload E hl 4 rfl dX5_meter_32 ?_
  refine z_i2l E dX5_meter_34 ⟨by omega, by omega⟩ ?_
  refine z_lconst E (z := 0) dX5_meter_35 (by decide) ?_
  refine z_ldc2 E (n := (5000)) zw_191 (by decide +kernel) dX5_meter_36 ?_
  refine z_callS E G hl.1 (c_X5_isIn l D k4 b 0 5000 (by omega) ⟨⟨by omega, by omega⟩, ⟨by omega, by omega⟩, ⟨by omega, by omega⟩⟩) kS_X5_42 ⟨rfl, rfl, Nat.le_of_ble_eq_true rfl, Nat.le_of_ble_eq_true rfl⟩ [] rfl (by decide) rfl rfl (Nat.le_of_ble_eq_true rfl) dX5_meter_39 ⟨(by first | exact Nat.le_of_ble_eq_true rfl | omega | (show _ ≤ (0); omega)), (by first | exact Nat.le_of_ble_eq_true rfl | omega | (show _ ≤ (0); omega))⟩ (fun v9 w9 H locs hq G => ?_)
  obtain ⟨rfl, rfl⟩ := hq
  refine W.eq (g2 := F0 mm 42 ls [.int (iI (1)), .ref mo]) rfl ?_
  have G : zG D AA ss.heap [(mo, .inr (5, [.int (iI (th)), .int (iI (((n : Nat) : Int))), .ref mnw, .ref mte, .ref mge, .ref mus, .int (iI (((p : Nat) : Int))), .int (iI (((st : Nat) : Int))), .int (iI (cc)), .int (iI (bc)), .ref mco, .ref mfl, .ref mba, .ref mdu, .long (lI (pot)), .long (lI (gr)), .long (lI (bk)), .int (iI (btw)), .int (iI (bhd))])), (mge, .inl (k4 0, 288, .inl (fun i9 => iI (GE i9)))), (mus, .inl (k4 0, 288, .inl (fun i9 => iI (US i9))))] H locs := G
  refine z_if_ne (tgt := 49) E dX5_meter_42 (by decide) (by decide) (fun c_42 => ?_) (fun c_42 => absurd c_42 (by decide))
  refine z_iload_n E hl 2 rfl dX5_meter_49 rfl ?_
  refine z_aload_n E hl 0 rfl dX5_meter_50 rfl ?_
  refine kg_X5_48 E G 0 rfl rfl dX5_meter_51 ?_
  refine z_icmp_ge (tgt := 61) E dX5_meter_54 (by decide) ⟨by omega, by omega⟩ ⟨by omega, by omega⟩ (fun c_54 => ?_) (fun c_54 => absurd c_54 (by omega))
  refine z_iconst E dX5_meter_61 ?_
  refine kp_X5_35 E G 0 rfl (Nat.le_of_ble_eq_true rfl) dX5_meter_62 (fun H locs G => ?_)
  have G : zG D AA ss.heap [(mo, .inr (5, [.int (iI (0)), .int (iI (((n : Nat) : Int))), .ref mnw, .ref mte, .ref mge, .ref mus, .int (iI (((p : Nat) : Int))), .int (iI (((st : Nat) : Int))), .int (iI (cc)), .int (iI (bc)), .ref mco, .ref mfl, .ref mba, .ref mdu, .long (lI (pot)), .long (lI (gr)), .long (lI (bk)), .int (iI (btw)), .int (iI (bhd))])), (mge, .inl (k4 0, 288, .inl (fun i9 => iI (GE i9)))), (mus, .inl (k4 0, 288, .inl (fun i9 => iI (US i9))))] H locs := G
  refine z_aload_n E hl 0 rfl dX5_meter_65 rfl ?_
  refine kg_X5_35 E G 0 rfl rfl dX5_meter_66 ?_
  refine z_if_eq (tgt := 74) E dX5_meter_69 (by decide) (by decide) (fun c_69 => ?_) (fun c_69 => absurd c_69 (by decide))
  refine z_bipush E dX5_meter_74 (by decide) ?_
  refine z_iload_n E hl 1 rfl dX5_meter_76 rfl ?_
  refine z_imul E dX5_meter_77 ?_
  refine z_iload_n E hl 2 rfl dX5_meter_78 rfl ?_
  refine z_iadd E dX5_meter_79 ?_
  refine z_istore E [(5, .int (iI (((48) * (((m : Nat) : Int))) + (((k : Nat) : Int))))), (0, .ref mo), (1, .int (iI (((m : Nat) : Int)))), (2, .int (iI (((k : Nat) : Int)))), (3, .int (iI (a))), (4, .int (iI (b)))] dX5_meter_80 hl (by decide) rfl (fun ls hl => ?_)
  refine z_aload_n E hl 1 rfl dX5_meter_82 rfl ?_
  refine kg_X5_16 E G 0 rfl rfl dX5_meter_83 ?_
  refine z_iload E hl 0 rfl dX5_meter_86 ?_
  refine z_iald E G 1 rfl (48 * m + k) (by omega) (by omega) (by decide) dX5_meter_88 ?_
  refine z_iload_n E hl 4 rfl dX5_meter_89 rfl ?_
  refine z_icmp_ne (tgt := 105) E dX5_meter_90 (by decide) ⟨by omega, by omega⟩ ⟨by omega, by omega⟩ (fun c_90 => ?_) (fun c_90 => ?_)
  · skip
    refine z_iconst E dX5_meter_105 ?_
    refine z_eq (y := if GE (48 * m + k) ≠ a ∨ US (48 * m + k) ≠ b then 1 else 0) (by first | exact (if_pos (Or.inl c_90)).symm | exact (if_pos (Or.inr c_102)).symm) ?_
    refine z_goto (tgt := 110) E dX5_meter_106 (by decide) ?_
    refine z_istore E [(6, .int (iI (if GE (48 * m + k) ≠ a ∨ US (48 * m + k) ≠ b then 1 else 0))), (5, .int (iI (((48) * (((m : Nat) : Int))) + (((k : Nat) : Int))))), (0, .ref mo), (1, .int (iI (((m : Nat) : Int)))), (2, .int (iI (((k : Nat) : Int)))), (3, .int (iI (a))), (4, .int (iI (b)))] dX5_meter_110 hl (by decide) rfl (fun ls hl => ?_)
    refine z_aload_n E hl 2 rfl dX5_meter_112 rfl ?_
    refine kg_X5_16 E G 0 rfl rfl dX5_meter_113 ?_
    refine z_iload E hl 1 rfl dX5_meter_116 ?_
    refine z_iload_n E hl 5 rfl dX5_meter_118 rfl ?_
    refine z_iast E G 1 rfl (48 * m + k) (by omega) (by omega) (by decide) dX5_meter_119 (fun H locs G => ?_)
    have G : zG D AA ss.heap [(mo, .inr (5, [.int (iI (0)), .int (iI (((n : Nat) : Int))), .ref mnw, .ref mte, .ref mge, .ref mus, .int (iI (((p : Nat) : Int))), .int (iI (((st : Nat) : Int))), .int (iI (cc)), .int (iI (bc)), .ref mco, .ref mfl, .ref mba, .ref mdu, .long (lI (pot)), .long (lI (gr)), .long (lI (bk)), .int (iI (btw)), .int (iI (bhd))])), (mge, .inl (k4 0, 288, .inl (fun i9 => iI ((up GE (48 * m + k) (a)) i9)))), (mus, .inl (k4 0, 288, .inl (fun i9 => iI (US i9))))] H locs := G
    refine z_aload_n E hl 2 rfl dX5_meter_120 rfl ?_
    refine kg_X5_19 E G 0 rfl rfl dX5_meter_121 ?_
    refine z_iload E hl 1 rfl dX5_meter_124 ?_
    refine z_iload E hl 6 rfl dX5_meter_126 ?_
    refine z_iast E G 2 rfl (48 * m + k) (by omega) (by omega) (by decide) dX5_meter_128 (fun H locs G => ?_)
    have G : zG D AA ss.heap [(mo, .inr (5, [.int (iI (0)), .int (iI (((n : Nat) : Int))), .ref mnw, .ref mte, .ref mge, .ref mus, .int (iI (((p : Nat) : Int))), .int (iI (((st : Nat) : Int))), .int (iI (cc)), .int (iI (bc)), .ref mco, .ref mfl, .ref mba, .ref mdu, .long (lI (pot)), .long (lI (gr)), .long (lI (bk)), .int (iI (btw)), .int (iI (bhd))])), (mge, .inl (k4 0, 288, .inl (fun i9 => iI ((up GE (48 * m + k) (a)) i9)))), (mus, .inl (k4 0, 288, .inl (fun i9 => iI ((up US (48 * m + k) (b)) i9))))] H locs := G
    refine z_iload E hl 0 rfl dX5_meter_129 ?_
    refine z_eq (y := if GE (48 * m + k) ≠ a ∨ US (48 * m + k) ≠ b then 1 else 0) rfl ?_
    exact z_zret (w' := [(mo, .inr (5, [.int (iI (0)), .int (iI (((n : Nat) : Int))), .ref mnw, .ref mte, .ref mge, .ref mus, .int (iI (((p : Nat) : Int))), .int (iI (((st : Nat) : Int))), .int (iI (cc)), .int (iI (bc)), .ref mco, .ref mfl, .ref mba, .ref mdu, .long (lI (pot)), .long (lI (gr)), .long (lI (bk)), .int (iI (btw)), .int (iI (bhd))])), (mge, .inl (k4 0, 288, .inl (fun i9 => iI ((up GE (48 * m + k) (a)) i9)))), (mus, .inl (k4 0, 288, .inl (fun i9 => iI ((up US (48 * m + k) (b)) i9))))]) (v := if GE (48 * m + k) ≠ a ∨ US (48 * m + k) ≠ b then 1 else 0) E hr hlocks G dX5_meter_131 (by omega) (by omega) (by split <;> simp) (zx0 rfl) ⟨rfl, rfl⟩
  · skip
    refine z_aload_n E hl 1 rfl dX5_meter_93 rfl ?_
    refine kg_X5_19 E G 0 rfl rfl dX5_meter_94 ?_
    refine z_iload E hl 0 rfl dX5_meter_97 ?_
    refine z_iald E G 2 rfl (48 * m + k) (by omega) (by omega) (by decide) dX5_meter_99 ?_
    refine z_iload E hl 5 rfl dX5_meter_100 ?_
    refine z_icmp_eq (tgt := 109) E dX5_meter_102 (by decide) ⟨by omega, by omega⟩ ⟨by omega, by omega⟩ (fun c_102 => ?_) (fun c_102 => ?_)
    · skip
      refine z_iconst E dX5_meter_109 ?_
      refine z_eq (y := if GE (48 * m + k) ≠ a ∨ US (48 * m + k) ≠ b then 1 else 0) (if_neg (fun h => h.elim (fun h => h c_90) (fun h => h c_102))).symm ?_
      refine z_istore E [(6, .int (iI (if GE (48 * m + k) ≠ a ∨ US (48 * m + k) ≠ b then 1 else 0))), (5, .int (iI (((48) * (((m : Nat) : Int))) + (((k : Nat) : Int))))), (0, .ref mo), (1, .int (iI (((m : Nat) : Int)))), (2, .int (iI (((k : Nat) : Int)))), (3, .int (iI (a))), (4, .int (iI (b)))] dX5_meter_110 hl (by decide) rfl (fun ls hl => ?_)
      refine z_aload_n E hl 2 rfl dX5_meter_112 rfl ?_
      refine kg_X5_16 E G 0 rfl rfl dX5_meter_113 ?_
      refine z_iload E hl 1 rfl dX5_meter_116 ?_
      refine z_iload_n E hl 5 rfl dX5_meter_118 rfl ?_
      refine z_iast E G 1 rfl (48 * m + k) (by omega) (by omega) (by decide) dX5_meter_119 (fun H locs G => ?_)
      have G : zG D AA ss.heap [(mo, .inr (5, [.int (iI (0)), .int (iI (((n : Nat) : Int))), .ref mnw, .ref mte, .ref mge, .ref mus, .int (iI (((p : Nat) : Int))), .int (iI (((st : Nat) : Int))), .int (iI (cc)), .int (iI (bc)), .ref mco, .ref mfl, .ref mba, .ref mdu, .long (lI (pot)), .long (lI (gr)), .long (lI (bk)), .int (iI (btw)), .int (iI (bhd))])), (mge, .inl (k4 0, 288, .inl (fun i9 => iI ((up GE (48 * m + k) (a)) i9)))), (mus, .inl (k4 0, 288, .inl (fun i9 => iI (US i9))))] H locs := G
      refine z_aload_n E hl 2 rfl dX5_meter_120 rfl ?_
      refine kg_X5_19 E G 0 rfl rfl dX5_meter_121 ?_
      refine z_iload E hl 1 rfl dX5_meter_124 ?_
      refine z_iload E hl 6 rfl dX5_meter_126 ?_
      refine z_iast E G 2 rfl (48 * m + k) (by omega) (by omega) (by decide) dX5_meter_128 (fun H locs G => ?_)
      have G : zG D AA ss.heap [(mo, .inr (5, [.int (iI (0)), .int (iI (((n : Nat) : Int))), .ref mnw, .ref mte, .ref mge, .ref mus, .int (iI (((p : Nat) : Int))), .int (iI (((st : Nat) : Int))), .int (iI (cc)), .int (iI (bc)), .ref mco, .ref mfl, .ref mba, .ref mdu, .long (lI (pot)), .long (lI (gr)), .long (lI (bk)), .int (iI (btw)), .int (iI (bhd))])), (mge, .inl (k4 0, 288, .inl (fun i9 => iI ((up GE (48 * m + k) (a)) i9)))), (mus, .inl (k4 0, 288, .inl (fun i9 => iI ((up US (48 * m + k) (b)) i9))))] H locs := G
      refine z_iload E hl 0 rfl dX5_meter_129 ?_
      refine z_eq (y := if GE (48 * m + k) ≠ a ∨ US (48 * m + k) ≠ b then 1 else 0) rfl ?_
      exact z_zret (w' := [(mo, .inr (5, [.int (iI (0)), .int (iI (((n : Nat) : Int))), .ref mnw, .ref mte, .ref mge, .ref mus, .int (iI (((p : Nat) : Int))), .int (iI (((st : Nat) : Int))), .int (iI (cc)), .int (iI (bc)), .ref mco, .ref mfl, .ref mba, .ref mdu, .long (lI (pot)), .long (lI (gr)), .long (lI (bk)), .int (iI (btw)), .int (iI (bhd))])), (mge, .inl (k4 0, 288, .inl (fun i9 => iI ((up GE (48 * m + k) (a)) i9)))), (mus, .inl (k4 0, 288, .inl (fun i9 => iI ((up US (48 * m + k) (b)) i9))))]) (v := if GE (48 * m + k) ≠ a ∨ US (48 * m + k) ≠ b then 1 else 0) E hr hlocks G dX5_meter_131 (by omega) (by omega) (by split <;> simp) (zx0 rfl) ⟨rfl, rfl⟩
    · skip
      refine z_iconst E dX5_meter_105 ?_
      refine z_eq (y := if GE (48 * m + k) ≠ a ∨ US (48 * m + k) ≠ b then 1 else 0) (by first | exact (if_pos (Or.inl c_90)).symm | exact (if_pos (Or.inr c_102)).symm) ?_
      refine z_goto (tgt := 110) E dX5_meter_106 (by decide) ?_
      refine z_istore E [(6, .int (iI (if GE (48 * m + k) ≠ a ∨ US (48 * m + k) ≠ b then 1 else 0))), (5, .int (iI (((48) * (((m : Nat) : Int))) + (((k : Nat) : Int))))), (0, .ref mo), (1, .int (iI (((m : Nat) : Int)))), (2, .int (iI (((k : Nat) : Int)))), (3, .int (iI (a))), (4, .int (iI (b)))] dX5_meter_110 hl (by decide) rfl (fun ls hl => ?_)
      refine z_aload_n E hl 2 rfl dX5_meter_112 rfl ?_
      refine kg_X5_16 E G 0 rfl rfl dX5_meter_113 ?_
      refine z_iload E hl 1 rfl dX5_meter_116 ?_
      refine z_iload_n E hl 5 rfl dX5_meter_118 rfl ?_
      refine z_iast E G 1 rfl (48 * m + k) (by omega) (by omega) (by decide) dX5_meter_119 (fun H locs G => ?_)
      have G : zG D AA ss.heap [(mo, .inr (5, [.int (iI (0)), .int (iI (((n : Nat) : Int))), .ref mnw, .ref mte, .ref mge, .ref mus, .int (iI (((p : Nat) : Int))), .int (iI (((st : Nat) : Int))), .int (iI (cc)), .int (iI (bc)), .ref mco, .ref mfl, .ref mba, .ref mdu, .long (lI (pot)), .long (lI (gr)), .long (lI (bk)), .int (iI (btw)), .int (iI (bhd))])), (mge, .inl (k4 0, 288, .inl (fun i9 => iI ((up GE (48 * m + k) (a)) i9)))), (mus, .inl (k4 0, 288, .inl (fun i9 => iI (US i9))))] H locs := G
      refine z_aload_n E hl 2 rfl dX5_meter_120 rfl ?_
      refine kg_X5_19 E G 0 rfl rfl dX5_meter_121 ?_
      refine z_iload E hl 1 rfl dX5_meter_124 ?_
      refine z_iload E hl 6 rfl dX5_meter_126 ?_
      refine z_iast E G 2 rfl (48 * m + k) (by omega) (by omega) (by decide) dX5_meter_128 (fun H locs G => ?_)
      have G : zG D AA ss.heap [(mo, .inr (5, [.int (iI (0)), .int (iI (((n : Nat) : Int))), .ref mnw, .ref mte, .ref mge, .ref mus, .int (iI (((p : Nat) : Int))), .int (iI (((st : Nat) : Int))), .int (iI (cc)), .int (iI (bc)), .ref mco, .ref mfl, .ref mba, .ref mdu, .long (lI (pot)), .long (lI (gr)), .long (lI (bk)), .int (iI (btw)), .int (iI (bhd))])), (mge, .inl (k4 0, 288, .inl (fun i9 => iI ((up GE (48 * m + k) (a)) i9)))), (mus, .inl (k4 0, 288, .inl (fun i9 => iI ((up US (48 * m + k) (b)) i9))))] H locs := G
      refine z_iload E hl 0 rfl dX5_meter_129 ?_
      refine z_eq (y := if GE (48 * m + k) ≠ a ∨ US (48 * m + k) ≠ b then 1 else 0) rfl ?_
      exact z_zret (w' := [(mo, .inr (5, [.int (iI (0)), .int (iI (((n : Nat) : Int))), .ref mnw, .ref mte, .ref mge, .ref mus, .int (iI (((p : Nat) : Int))), .int (iI (((st : Nat) : Int))), .int (iI (cc)), .int (iI (bc)), .ref mco, .ref mfl, .ref mba, .ref mdu, .long (lI (pot)), .long (lI (gr)), .long (lI (bk)), .int (iI (btw)), .int (iI (bhd))])), (mge, .inl (k4 0, 288, .inl (fun i9 => iI ((up GE (48 * m + k) (a)) i9)))), (mus, .inl (k4 0, 288, .inl (fun i9 => iI ((up US (48 * m + k) (b)) i9))))]) (v := if GE (48 * m + k) ≠ a ∨ US (48 * m + k) ≠ b then 1 else 0) E hr hlocks G dX5_meter_131 (by omega) (by omega) (by split <;> simp) (zx0 rfl) ⟨rfl, rfl⟩

def q_c_X5_meter_0 (k4 : Nat → ClassId) (mo mnw mte mge mus mco mfl mba mdu : Nat) (th : Int) (n p st : Nat) (cc bc pot gr bk btw bhd : Int) (m k a b : Int) : Option Value → va_W → Prop := (fun (v9 : Option Value) (w9 : va_W) => v9 = some (.int (iI (0))) ∧ w9 = [(mo, .inr (5, [.int (iI (1)), .int (iI (((n : Nat) : Int))), .ref mnw, .ref mte, .ref mge, .ref mus, .int (iI (((p : Nat) : Int))), .int (iI (((st : Nat) : Int))), .int (iI (cc)), .int (iI (bc)), .ref mco, .ref mfl, .ref mba, .ref mdu, .long (lI (pot)), .long (lI (gr)), .long (lI (bk)), .int (iI (btw)), .int (iI (bhd))]))])
set_option maxHeartbeats 4000000 in
set_option maxRecDepth 100000 in
theorem c_X5_meter_0 (l : Launch) (D : va_G) (k4 : Nat → ClassId) (mo mnw mte mge mus mco mfl mba mdu : Nat) (th : Int) (n p st : Nat) (cc bc pot gr bk btw bhd : Int) (m k a b : Int) (hn : n ≤ 6) (hm : (-2147483648 ≤ m ∧ m ≤ 2147483647) ∧ (m < 0 ∨ (n : Int) ≤ m)) : zC l yX5_meter (zW yX5_meter cX5_meter 7 (some .boolean)) ({ frames := 2, cells := 0, slots := 0, locals := 46 } : Room) D k4 [.ref mo, .int (iI (m)), .int (iI (k)), .int (iI (a)), .int (iI (b))] [(mo, .inr (5, [.int (iI (th)), .int (iI (((n : Nat) : Int))), .ref mnw, .ref mte, .ref mge, .ref mus, .int (iI (((p : Nat) : Int))), .int (iI (((st : Nat) : Int))), .int (iI (cc)), .int (iI (bc)), .ref mco, .ref mfl, .ref mba, .ref mdu, .long (lI (pot)), .long (lI (gr)), .long (lI (bk)), .int (iI (btw)), .int (iI (bhd))]))] (0) (0) (q_c_X5_meter_0 k4 mo mnw mte mge mus mco mfl mba mdu th n p st cc bc pot gr bk btw bhd m k a b) := by
  refine zC_of (cc := cX5_meter) (by decide) (Nat.le_of_ble_eq_true rfl) (fun pp ee ss mm bl me co AA H locs ls E hr hlocks hin G hl => ?_)
  have hl : lv_has ls 7 [(0, .ref mo), (1, .int (iI (m))), (2, .int (iI (k))), (3, .int (iI (a))), (4, .int (iI (b)))] := hl
  refine z_aload_n E hl 0 rfl dX5_meter_0 rfl ?_
  refine z_aload_n E hl 0 rfl dX5_meter_1 rfl ?_
  refine z_iload_n E hl 1 rfl dX5_meter_2 rfl ?_
  refine z_callV E G hl.1 (c_X5_isMemberF l D k4 mo mnw mte mge mus mco mfl mba mdu th n p st cc bc pot gr bk btw bhd m (by omega) ⟨by omega, by omega⟩ hn) kV_X5_55 ⟨rfl, rfl, Nat.le_of_ble_eq_true rfl, Nat.le_of_ble_eq_true rfl⟩ [0] rfl (by decide) 0 5 rfl rfl rfl rfl rfl (Nat.le_of_ble_eq_true rfl) dX5_meter_3 ⟨(by first | exact Nat.le_of_ble_eq_true rfl | omega | (show _ ≤ (0); omega)), (by first | exact Nat.le_of_ble_eq_true rfl | omega | (show _ ≤ (0); omega))⟩ (fun v9 w9 H locs hq G => ?_)
  obtain ⟨rfl, rfl⟩ := hq
  refine W.eq (g2 := F0 mm 6 ls [.int (iI (0)), .ref mo]) rfl ?_
  have G : zG D AA ss.heap [(mo, .inr (5, [.int (iI (th)), .int (iI (((n : Nat) : Int))), .ref mnw, .ref mte, .ref mge, .ref mus, .int (iI (((p : Nat) : Int))), .int (iI (((st : Nat) : Int))), .int (iI (cc)), .int (iI (bc)), .ref mco, .ref mfl, .ref mba, .ref mdu, .long (lI (pot)), .long (lI (gr)), .long (lI (bk)), .int (iI (btw)), .int (iI (bhd))]))] H locs := G
  refine z_if_eq (tgt := 16) E dX5_meter_6 (by decide) (by decide) (fun c_6 => ?_) (fun c_6 => absurd c_6 (by decide))
  refine z_iconst E dX5_meter_16 ?_
  refine z_goto (tgt := 62) E dX5_meter_17 (by decide) ?_
  refine kp_X5_35 E G 0 rfl (Nat.le_of_ble_eq_true rfl) dX5_meter_62 (fun H locs G => ?_)
  have G : zG D AA ss.heap [(mo, .inr (5, [.int (iI (1)), .int (iI (((n : Nat) : Int))), .ref mnw, .ref mte, .ref mge, .ref mus, .int (iI (((p : Nat) : Int))), .int (iI (((st : Nat) : Int))), .int (iI (cc)), .int (iI (bc)), .ref mco, .ref mfl, .ref mba, .ref mdu, .long (lI (pot)), .long (lI (gr)), .long (lI (bk)), .int (iI (btw)), .int (iI (bhd))]))] H locs := G
  refine z_aload_n E hl 0 rfl dX5_meter_65 rfl ?_
  refine kg_X5_35 E G 0 rfl rfl dX5_meter_66 ?_
  refine z_if_eq (tgt := 74) E dX5_meter_69 (by decide) (by decide) (fun c_69 => absurd c_69 (by decide)) (fun c_69 => ?_)
  refine z_iconst E dX5_meter_72 ?_
  exact z_zret (w' := [(mo, .inr (5, [.int (iI (1)), .int (iI (((n : Nat) : Int))), .ref mnw, .ref mte, .ref mge, .ref mus, .int (iI (((p : Nat) : Int))), .int (iI (((st : Nat) : Int))), .int (iI (cc)), .int (iI (bc)), .ref mco, .ref mfl, .ref mba, .ref mdu, .long (lI (pot)), .long (lI (gr)), .long (lI (bk)), .int (iI (btw)), .int (iI (bhd))]))]) (v := 0) E hr hlocks G dX5_meter_73 (by omega) (by omega) (by omega) (zx0 rfl) ⟨rfl, rfl⟩

def q_c_X5_meter_1 (k4 : Nat → ClassId) (mo mnw mte mge mus mco mfl mba mdu : Nat) (th : Int) (n p st : Nat) (cc bc pot gr bk btw bhd : Int) (m : Nat) (k a b : Int) : Option Value → va_W → Prop := (fun (v9 : Option Value) (w9 : va_W) => v9 = some (.int (iI (0))) ∧ w9 = [(mo, .inr (5, [.int (iI (1)), .int (iI (((n : Nat) : Int))), .ref mnw, .ref mte, .ref mge, .ref mus, .int (iI (((p : Nat) : Int))), .int (iI (((st : Nat) : Int))), .int (iI (cc)), .int (iI (bc)), .ref mco, .ref mfl, .ref mba, .ref mdu, .long (lI (pot)), .long (lI (gr)), .long (lI (bk)), .int (iI (btw)), .int (iI (bhd))]))])
set_option maxHeartbeats 4000000 in
set_option maxRecDepth 100000 in
theorem c_X5_meter_1 (l : Launch) (D : va_G) (k4 : Nat → ClassId) (mo mnw mte mge mus mco mfl mba mdu : Nat) (th : Int) (n p st : Nat) (cc bc pot gr bk btw bhd : Int) (m : Nat) (k a b : Int) (hn : n ≤ 6) (hm : m < n) (hk : (-2147483648 ≤ k ∧ k ≤ 2147483647) ∧ (k < 0 ∨ 47 < k)) : zC l yX5_meter (zW yX5_meter cX5_meter 7 (some .boolean)) ({ frames := 2, cells := 0, slots := 0, locals := 46 } : Room) D k4 [.ref mo, .int (iI (((m : Nat) : Int))), .int (iI (k)), .int (iI (a)), .int (iI (b))] [(mo, .inr (5, [.int (iI (th)), .int (iI (((n : Nat) : Int))), .ref mnw, .ref mte, .ref mge, .ref mus, .int (iI (((p : Nat) : Int))), .int (iI (((st : Nat) : Int))), .int (iI (cc)), .int (iI (bc)), .ref mco, .ref mfl, .ref mba, .ref mdu, .long (lI (pot)), .long (lI (gr)), .long (lI (bk)), .int (iI (btw)), .int (iI (bhd))]))] (0) (0) (q_c_X5_meter_1 k4 mo mnw mte mge mus mco mfl mba mdu th n p st cc bc pot gr bk btw bhd m k a b) := by
  refine zC_of (cc := cX5_meter) (by decide) (Nat.le_of_ble_eq_true rfl) (fun pp ee ss mm bl me co AA H locs ls E hr hlocks hin G hl => ?_)
  have hl : lv_has ls 7 [(0, .ref mo), (1, .int (iI (((m : Nat) : Int)))), (2, .int (iI (k))), (3, .int (iI (a))), (4, .int (iI (b)))] := hl
  refine z_aload_n E hl 0 rfl dX5_meter_0 rfl ?_
  refine z_aload_n E hl 0 rfl dX5_meter_1 rfl ?_
  refine z_iload_n E hl 1 rfl dX5_meter_2 rfl ?_
  refine z_callV E G hl.1 (c_X5_isMember l D k4 mo mnw mte mge mus mco mfl mba mdu th n p st cc bc pot gr bk btw bhd (((m : Nat) : Int)) (by omega) ⟨by omega, by omega⟩ hn) kV_X5_55 ⟨rfl, rfl, Nat.le_of_ble_eq_true rfl, Nat.le_of_ble_eq_true rfl⟩ [0] rfl (by decide) 0 5 rfl rfl rfl rfl rfl (Nat.le_of_ble_eq_true rfl) dX5_meter_3 ⟨(by first | exact Nat.le_of_ble_eq_true rfl | omega | (show _ ≤ (0); omega)), (by first | exact Nat.le_of_ble_eq_true rfl | omega | (show _ ≤ (0); omega))⟩ (fun v9 w9 H locs hq G => ?_)
  obtain ⟨rfl, rfl⟩ := hq
  refine W.eq (g2 := F0 mm 6 ls [.int (iI (1)), .ref mo]) rfl ?_
  have G : zG D AA ss.heap [(mo, .inr (5, [.int (iI (th)), .int (iI (((n : Nat) : Int))), .ref mnw, .ref mte, .ref mge, .ref mus, .int (iI (((p : Nat) : Int))), .int (iI (((st : Nat) : Int))), .int (iI (cc)), .int (iI (bc)), .ref mco, .ref mfl, .ref mba, .ref mdu, .long (lI (pot)), .long (lI (gr)), .long (lI (bk)), .int (iI (btw)), .int (iI (bhd))]))] H locs := G
  refine z_if_eq (tgt := 16) E dX5_meter_6 (by decide) (by decide) (fun c_6 => absurd c_6 (by decide)) (fun c_6 => ?_)
  refine z_iload_n E hl 2 rfl dX5_meter_9 rfl ?_
  refine z_callS E G hl.1 (c_X5_isSlotF l D k4 k (by omega) ⟨by omega, by omega⟩) kS_X5_147 ⟨rfl, rfl, Nat.le_of_ble_eq_true rfl, Nat.le_of_ble_eq_true rfl⟩ [] rfl (by decide) rfl rfl (Nat.le_of_ble_eq_true rfl) dX5_meter_10 ⟨(by first | exact Nat.le_of_ble_eq_true rfl | omega | (show _ ≤ (0); omega)), (by first | exact Nat.le_of_ble_eq_true rfl | omega | (show _ ≤ (0); omega))⟩ (fun v9 w9 H locs hq G => ?_)
  obtain ⟨rfl, rfl⟩ := hq
  refine W.eq (g2 := F0 mm 13 ls [.int (iI (0)), .ref mo]) rfl ?_
  have G : zG D AA ss.heap [(mo, .inr (5, [.int (iI (th)), .int (iI (((n : Nat) : Int))), .ref mnw, .ref mte, .ref mge, .ref mus, .int (iI (((p : Nat) : Int))), .int (iI (((st : Nat) : Int))), .int (iI (cc)), .int (iI (bc)), .ref mco, .ref mfl, .ref mba, .ref mdu, .long (lI (pot)), .long (lI (gr)), .long (lI (bk)), .int (iI (btw)), .int (iI (bhd))]))] H locs := G
  refine z_if_ne (tgt := 20) E dX5_meter_13 (by decide) (by decide) (fun c_13 => absurd c_13 (by decide)) (fun c_13 => ?_)
  refine z_iconst E dX5_meter_16 ?_
  refine z_goto (tgt := 62) E dX5_meter_17 (by decide) ?_
  refine kp_X5_35 E G 0 rfl (Nat.le_of_ble_eq_true rfl) dX5_meter_62 (fun H locs G => ?_)
  have G : zG D AA ss.heap [(mo, .inr (5, [.int (iI (1)), .int (iI (((n : Nat) : Int))), .ref mnw, .ref mte, .ref mge, .ref mus, .int (iI (((p : Nat) : Int))), .int (iI (((st : Nat) : Int))), .int (iI (cc)), .int (iI (bc)), .ref mco, .ref mfl, .ref mba, .ref mdu, .long (lI (pot)), .long (lI (gr)), .long (lI (bk)), .int (iI (btw)), .int (iI (bhd))]))] H locs := G
  refine z_aload_n E hl 0 rfl dX5_meter_65 rfl ?_
  refine kg_X5_35 E G 0 rfl rfl dX5_meter_66 ?_
  refine z_if_eq (tgt := 74) E dX5_meter_69 (by decide) (by decide) (fun c_69 => absurd c_69 (by decide)) (fun c_69 => ?_)
  refine z_iconst E dX5_meter_72 ?_
  exact z_zret (w' := [(mo, .inr (5, [.int (iI (1)), .int (iI (((n : Nat) : Int))), .ref mnw, .ref mte, .ref mge, .ref mus, .int (iI (((p : Nat) : Int))), .int (iI (((st : Nat) : Int))), .int (iI (cc)), .int (iI (bc)), .ref mco, .ref mfl, .ref mba, .ref mdu, .long (lI (pot)), .long (lI (gr)), .long (lI (bk)), .int (iI (btw)), .int (iI (bhd))]))]) (v := 0) E hr hlocks G dX5_meter_73 (by omega) (by omega) (by omega) (zx0 rfl) ⟨rfl, rfl⟩

def q_c_X5_meter_2 (k4 : Nat → ClassId) (mo mnw mte mge mus mco mfl mba mdu : Nat) (th : Int) (n p st : Nat) (cc bc pot gr bk btw bhd : Int) (m k : Nat) (a b : Int) : Option Value → va_W → Prop := (fun (v9 : Option Value) (w9 : va_W) => v9 = some (.int (iI (0))) ∧ w9 = [(mo, .inr (5, [.int (iI (2)), .int (iI (((n : Nat) : Int))), .ref mnw, .ref mte, .ref mge, .ref mus, .int (iI (((p : Nat) : Int))), .int (iI (((st : Nat) : Int))), .int (iI (cc)), .int (iI (bc)), .ref mco, .ref mfl, .ref mba, .ref mdu, .long (lI (pot)), .long (lI (gr)), .long (lI (bk)), .int (iI (btw)), .int (iI (bhd))]))])
set_option maxHeartbeats 4000000 in
set_option maxRecDepth 100000 in
theorem c_X5_meter_2 (l : Launch) (D : va_G) (k4 : Nat → ClassId) (mo mnw mte mge mus mco mfl mba mdu : Nat) (th : Int) (n p st : Nat) (cc bc pot gr bk btw bhd : Int) (m k : Nat) (a b : Int) (hn : n ≤ 6) (hm : m < n) (hk : k < 48) (ha : (-2147483648 ≤ a ∧ a ≤ 2147483647) ∧ (a < 0 ∨ 5000 < a)) : zC l yX5_meter (zW yX5_meter cX5_meter 7 (some .boolean)) ({ frames := 2, cells := 0, slots := 0, locals := 46 } : Room) D k4 [.ref mo, .int (iI (((m : Nat) : Int))), .int (iI (((k : Nat) : Int))), .int (iI (a)), .int (iI (b))] [(mo, .inr (5, [.int (iI (th)), .int (iI (((n : Nat) : Int))), .ref mnw, .ref mte, .ref mge, .ref mus, .int (iI (((p : Nat) : Int))), .int (iI (((st : Nat) : Int))), .int (iI (cc)), .int (iI (bc)), .ref mco, .ref mfl, .ref mba, .ref mdu, .long (lI (pot)), .long (lI (gr)), .long (lI (bk)), .int (iI (btw)), .int (iI (bhd))]))] (0) (0) (q_c_X5_meter_2 k4 mo mnw mte mge mus mco mfl mba mdu th n p st cc bc pot gr bk btw bhd m k a b) := by
  refine zC_of (cc := cX5_meter) (by decide) (Nat.le_of_ble_eq_true rfl) (fun pp ee ss mm bl me co AA H locs ls E hr hlocks hin G hl => ?_)
  have hl : lv_has ls 7 [(0, .ref mo), (1, .int (iI (((m : Nat) : Int)))), (2, .int (iI (((k : Nat) : Int)))), (3, .int (iI (a))), (4, .int (iI (b)))] := hl
  refine z_aload_n E hl 0 rfl dX5_meter_0 rfl ?_
  refine z_aload_n E hl 0 rfl dX5_meter_1 rfl ?_
  refine z_iload_n E hl 1 rfl dX5_meter_2 rfl ?_
  refine z_callV E G hl.1 (c_X5_isMember l D k4 mo mnw mte mge mus mco mfl mba mdu th n p st cc bc pot gr bk btw bhd (((m : Nat) : Int)) (by omega) ⟨by omega, by omega⟩ hn) kV_X5_55 ⟨rfl, rfl, Nat.le_of_ble_eq_true rfl, Nat.le_of_ble_eq_true rfl⟩ [0] rfl (by decide) 0 5 rfl rfl rfl rfl rfl (Nat.le_of_ble_eq_true rfl) dX5_meter_3 ⟨(by first | exact Nat.le_of_ble_eq_true rfl | omega | (show _ ≤ (0); omega)), (by first | exact Nat.le_of_ble_eq_true rfl | omega | (show _ ≤ (0); omega))⟩ (fun v9 w9 H locs hq G => ?_)
  obtain ⟨rfl, rfl⟩ := hq
  refine W.eq (g2 := F0 mm 6 ls [.int (iI (1)), .ref mo]) rfl ?_
  have G : zG D AA ss.heap [(mo, .inr (5, [.int (iI (th)), .int (iI (((n : Nat) : Int))), .ref mnw, .ref mte, .ref mge, .ref mus, .int (iI (((p : Nat) : Int))), .int (iI (((st : Nat) : Int))), .int (iI (cc)), .int (iI (bc)), .ref mco, .ref mfl, .ref mba, .ref mdu, .long (lI (pot)), .long (lI (gr)), .long (lI (bk)), .int (iI (btw)), .int (iI (bhd))]))] H locs := G
  refine z_if_eq (tgt := 16) E dX5_meter_6 (by decide) (by decide) (fun c_6 => absurd c_6 (by decide)) (fun c_6 => ?_)
  refine z_iload_n E hl 2 rfl dX5_meter_9 rfl ?_
  refine z_callS E G hl.1 (c_X5_isSlot l D k4 (((k : Nat) : Int)) (by omega) ⟨by omega, by omega⟩) kS_X5_147 ⟨rfl, rfl, Nat.le_of_ble_eq_true rfl, Nat.le_of_ble_eq_true rfl⟩ [] rfl (by decide) rfl rfl (Nat.le_of_ble_eq_true rfl) dX5_meter_10 ⟨(by first | exact Nat.le_of_ble_eq_true rfl | omega | (show _ ≤ (0); omega)), (by first | exact Nat.le_of_ble_eq_true rfl | omega | (show _ ≤ (0); omega))⟩ (fun v9 w9 H locs hq G => ?_)
  obtain ⟨rfl, rfl⟩ := hq
  refine W.eq (g2 := F0 mm 13 ls [.int (iI (1)), .ref mo]) rfl ?_
  have G : zG D AA ss.heap [(mo, .inr (5, [.int (iI (th)), .int (iI (((n : Nat) : Int))), .ref mnw, .ref mte, .ref mge, .ref mus, .int (iI (((p : Nat) : Int))), .int (iI (((st : Nat) : Int))), .int (iI (cc)), .int (iI (bc)), .ref mco, .ref mfl, .ref mba, .ref mdu, .long (lI (pot)), .long (lI (gr)), .long (lI (bk)), .int (iI (btw)), .int (iI (bhd))]))] H locs := G
  refine z_if_ne (tgt := 20) E dX5_meter_13 (by decide) (by decide) (fun c_13 => ?_) (fun c_13 => absurd c_13 (by decide))
  refine z_iload_n E hl 3 rfl dX5_meter_20 rfl ?_
  refine z_i2l E dX5_meter_21 ⟨by omega, by omega⟩ ?_
  refine z_lconst E (z := 0) dX5_meter_22 (by decide) ?_
  refine z_ldc2 E (n := (5000)) zw_191 (by decide +kernel) dX5_meter_23 ?_
  refine z_callS E G hl.1 (c_X5_isInF l D k4 a 0 5000 (by omega) ⟨⟨by omega, by omega⟩, ⟨by omega, by omega⟩, ⟨by omega, by omega⟩⟩) kS_X5_42 ⟨rfl, rfl, Nat.le_of_ble_eq_true rfl, Nat.le_of_ble_eq_true rfl⟩ [] rfl (by decide) rfl rfl (Nat.le_of_ble_eq_true rfl) dX5_meter_26 ⟨(by first | exact Nat.le_of_ble_eq_true rfl | omega | (show _ ≤ (0); omega)), (by first | exact Nat.le_of_ble_eq_true rfl | omega | (show _ ≤ (0); omega))⟩ (fun v9 w9 H locs hq G => ?_)
  obtain ⟨rfl, rfl⟩ := hq
  refine W.eq (g2 := F0 mm 29 ls [.int (iI (0)), .ref mo]) rfl ?_
  have G : zG D AA ss.heap [(mo, .inr (5, [.int (iI (th)), .int (iI (((n : Nat) : Int))), .ref mnw, .ref mte, .ref mge, .ref mus, .int (iI (((p : Nat) : Int))), .int (iI (((st : Nat) : Int))), .int (iI (cc)), .int (iI (bc)), .ref mco, .ref mfl, .ref mba, .ref mdu, .long (lI (pot)), .long (lI (gr)), .long (lI (bk)), .int (iI (btw)), .int (iI (bhd))]))] H locs := G
  refine z_if_eq (tgt := 45) E dX5_meter_29 (by decide) (by decide) (fun c_29 => ?_) (fun c_29 => absurd c_29 (by decide))
  refine z_iconst E dX5_meter_45 ?_
  refine z_goto (tgt := 62) E dX5_meter_46 (by decide) ?_
  refine kp_X5_35 E G 0 rfl (Nat.le_of_ble_eq_true rfl) dX5_meter_62 (fun H locs G => ?_)
  have G : zG D AA ss.heap [(mo, .inr (5, [.int (iI (2)), .int (iI (((n : Nat) : Int))), .ref mnw, .ref mte, .ref mge, .ref mus, .int (iI (((p : Nat) : Int))), .int (iI (((st : Nat) : Int))), .int (iI (cc)), .int (iI (bc)), .ref mco, .ref mfl, .ref mba, .ref mdu, .long (lI (pot)), .long (lI (gr)), .long (lI (bk)), .int (iI (btw)), .int (iI (bhd))]))] H locs := G
  refine z_aload_n E hl 0 rfl dX5_meter_65 rfl ?_
  refine kg_X5_35 E G 0 rfl rfl dX5_meter_66 ?_
  refine z_if_eq (tgt := 74) E dX5_meter_69 (by decide) (by decide) (fun c_69 => absurd c_69 (by decide)) (fun c_69 => ?_)
  refine z_iconst E dX5_meter_72 ?_
  exact z_zret (w' := [(mo, .inr (5, [.int (iI (2)), .int (iI (((n : Nat) : Int))), .ref mnw, .ref mte, .ref mge, .ref mus, .int (iI (((p : Nat) : Int))), .int (iI (((st : Nat) : Int))), .int (iI (cc)), .int (iI (bc)), .ref mco, .ref mfl, .ref mba, .ref mdu, .long (lI (pot)), .long (lI (gr)), .long (lI (bk)), .int (iI (btw)), .int (iI (bhd))]))]) (v := 0) E hr hlocks G dX5_meter_73 (by omega) (by omega) (by omega) (zx0 rfl) ⟨rfl, rfl⟩

def q_c_X5_meter_3 (k4 : Nat → ClassId) (mo mnw mte mge mus mco mfl mba mdu : Nat) (th : Int) (n p st : Nat) (cc bc pot gr bk btw bhd : Int) (m k : Nat) (a b : Int) : Option Value → va_W → Prop := (fun (v9 : Option Value) (w9 : va_W) => v9 = some (.int (iI (0))) ∧ w9 = [(mo, .inr (5, [.int (iI (2)), .int (iI (((n : Nat) : Int))), .ref mnw, .ref mte, .ref mge, .ref mus, .int (iI (((p : Nat) : Int))), .int (iI (((st : Nat) : Int))), .int (iI (cc)), .int (iI (bc)), .ref mco, .ref mfl, .ref mba, .ref mdu, .long (lI (pot)), .long (lI (gr)), .long (lI (bk)), .int (iI (btw)), .int (iI (bhd))]))])
set_option maxHeartbeats 4000000 in
set_option maxRecDepth 100000 in
theorem c_X5_meter_3 (l : Launch) (D : va_G) (k4 : Nat → ClassId) (mo mnw mte mge mus mco mfl mba mdu : Nat) (th : Int) (n p st : Nat) (cc bc pot gr bk btw bhd : Int) (m k : Nat) (a b : Int) (hn : n ≤ 6) (hm : m < n) (hk : k < 48) (ha : 0 ≤ a ∧ a ≤ 5000) (hb : (-2147483648 ≤ b ∧ b ≤ 2147483647) ∧ (b < 0 ∨ 5000 < b)) : zC l yX5_meter (zW yX5_meter cX5_meter 7 (some .boolean)) ({ frames := 2, cells := 0, slots := 0, locals := 46 } : Room) D k4 [.ref mo, .int (iI (((m : Nat) : Int))), .int (iI (((k : Nat) : Int))), .int (iI (a)), .int (iI (b))] [(mo, .inr (5, [.int (iI (th)), .int (iI (((n : Nat) : Int))), .ref mnw, .ref mte, .ref mge, .ref mus, .int (iI (((p : Nat) : Int))), .int (iI (((st : Nat) : Int))), .int (iI (cc)), .int (iI (bc)), .ref mco, .ref mfl, .ref mba, .ref mdu, .long (lI (pot)), .long (lI (gr)), .long (lI (bk)), .int (iI (btw)), .int (iI (bhd))]))] (0) (0) (q_c_X5_meter_3 k4 mo mnw mte mge mus mco mfl mba mdu th n p st cc bc pot gr bk btw bhd m k a b) := by
  refine zC_of (cc := cX5_meter) (by decide) (Nat.le_of_ble_eq_true rfl) (fun pp ee ss mm bl me co AA H locs ls E hr hlocks hin G hl => ?_)
  have hl : lv_has ls 7 [(0, .ref mo), (1, .int (iI (((m : Nat) : Int)))), (2, .int (iI (((k : Nat) : Int)))), (3, .int (iI (a))), (4, .int (iI (b)))] := hl
  refine z_aload_n E hl 0 rfl dX5_meter_0 rfl ?_
  refine z_aload_n E hl 0 rfl dX5_meter_1 rfl ?_
  refine z_iload_n E hl 1 rfl dX5_meter_2 rfl ?_
  refine z_callV E G hl.1 (c_X5_isMember l D k4 mo mnw mte mge mus mco mfl mba mdu th n p st cc bc pot gr bk btw bhd (((m : Nat) : Int)) (by omega) ⟨by omega, by omega⟩ hn) kV_X5_55 ⟨rfl, rfl, Nat.le_of_ble_eq_true rfl, Nat.le_of_ble_eq_true rfl⟩ [0] rfl (by decide) 0 5 rfl rfl rfl rfl rfl (Nat.le_of_ble_eq_true rfl) dX5_meter_3 ⟨(by first | exact Nat.le_of_ble_eq_true rfl | omega | (show _ ≤ (0); omega)), (by first | exact Nat.le_of_ble_eq_true rfl | omega | (show _ ≤ (0); omega))⟩ (fun v9 w9 H locs hq G => ?_)
  obtain ⟨rfl, rfl⟩ := hq
  refine W.eq (g2 := F0 mm 6 ls [.int (iI (1)), .ref mo]) rfl ?_
  have G : zG D AA ss.heap [(mo, .inr (5, [.int (iI (th)), .int (iI (((n : Nat) : Int))), .ref mnw, .ref mte, .ref mge, .ref mus, .int (iI (((p : Nat) : Int))), .int (iI (((st : Nat) : Int))), .int (iI (cc)), .int (iI (bc)), .ref mco, .ref mfl, .ref mba, .ref mdu, .long (lI (pot)), .long (lI (gr)), .long (lI (bk)), .int (iI (btw)), .int (iI (bhd))]))] H locs := G
  refine z_if_eq (tgt := 16) E dX5_meter_6 (by decide) (by decide) (fun c_6 => absurd c_6 (by decide)) (fun c_6 => ?_)
  refine z_iload_n E hl 2 rfl dX5_meter_9 rfl ?_
  refine z_callS E G hl.1 (c_X5_isSlot l D k4 (((k : Nat) : Int)) (by omega) ⟨by omega, by omega⟩) kS_X5_147 ⟨rfl, rfl, Nat.le_of_ble_eq_true rfl, Nat.le_of_ble_eq_true rfl⟩ [] rfl (by decide) rfl rfl (Nat.le_of_ble_eq_true rfl) dX5_meter_10 ⟨(by first | exact Nat.le_of_ble_eq_true rfl | omega | (show _ ≤ (0); omega)), (by first | exact Nat.le_of_ble_eq_true rfl | omega | (show _ ≤ (0); omega))⟩ (fun v9 w9 H locs hq G => ?_)
  obtain ⟨rfl, rfl⟩ := hq
  refine W.eq (g2 := F0 mm 13 ls [.int (iI (1)), .ref mo]) rfl ?_
  have G : zG D AA ss.heap [(mo, .inr (5, [.int (iI (th)), .int (iI (((n : Nat) : Int))), .ref mnw, .ref mte, .ref mge, .ref mus, .int (iI (((p : Nat) : Int))), .int (iI (((st : Nat) : Int))), .int (iI (cc)), .int (iI (bc)), .ref mco, .ref mfl, .ref mba, .ref mdu, .long (lI (pot)), .long (lI (gr)), .long (lI (bk)), .int (iI (btw)), .int (iI (bhd))]))] H locs := G
  refine z_if_ne (tgt := 20) E dX5_meter_13 (by decide) (by decide) (fun c_13 => ?_) (fun c_13 => absurd c_13 (by decide))
  refine z_iload_n E hl 3 rfl dX5_meter_20 rfl ?_
  refine z_i2l E dX5_meter_21 ⟨by omega, by omega⟩ ?_
  refine z_lconst E (z := 0) dX5_meter_22 (by decide) ?_
  refine z_ldc2 E (n := (5000)) zw_191 (by decide +kernel) dX5_meter_23 ?_
  refine z_callS E G hl.1 (c_X5_isIn l D k4 a 0 5000 (by omega) ⟨⟨by omega, by omega⟩, ⟨by omega, by omega⟩, ⟨by omega, by omega⟩⟩) kS_X5_42 ⟨rfl, rfl, Nat.le_of_ble_eq_true rfl, Nat.le_of_ble_eq_true rfl⟩ [] rfl (by decide) rfl rfl (Nat.le_of_ble_eq_true rfl) dX5_meter_26 ⟨(by first | exact Nat.le_of_ble_eq_true rfl | omega | (show _ ≤ (0); omega)), (by first | exact Nat.le_of_ble_eq_true rfl | omega | (show _ ≤ (0); omega))⟩ (fun v9 w9 H locs hq G => ?_)
  obtain ⟨rfl, rfl⟩ := hq
  refine W.eq (g2 := F0 mm 29 ls [.int (iI (1)), .ref mo]) rfl ?_
  have G : zG D AA ss.heap [(mo, .inr (5, [.int (iI (th)), .int (iI (((n : Nat) : Int))), .ref mnw, .ref mte, .ref mge, .ref mus, .int (iI (((p : Nat) : Int))), .int (iI (((st : Nat) : Int))), .int (iI (cc)), .int (iI (bc)), .ref mco, .ref mfl, .ref mba, .ref mdu, .long (lI (pot)), .long (lI (gr)), .long (lI (bk)), .int (iI (btw)), .int (iI (bhd))]))] H locs := G
  refine z_if_eq (tgt := 45) E dX5_meter_29 (by decide) (by decide) (fun c_29 => absurd c_29 (by decide)) (fun c_29 => ?_)
  refine z_iload E hl 4 rfl dX5_meter_32 ?_
  refine z_i2l E dX5_meter_34 ⟨by omega, by omega⟩ ?_
  refine z_lconst E (z := 0) dX5_meter_35 (by decide) ?_
  refine z_ldc2 E (n := (5000)) zw_191 (by decide +kernel) dX5_meter_36 ?_
  refine z_callS E G hl.1 (c_X5_isInF l D k4 b 0 5000 (by omega) ⟨⟨by omega, by omega⟩, ⟨by omega, by omega⟩, ⟨by omega, by omega⟩⟩) kS_X5_42 ⟨rfl, rfl, Nat.le_of_ble_eq_true rfl, Nat.le_of_ble_eq_true rfl⟩ [] rfl (by decide) rfl rfl (Nat.le_of_ble_eq_true rfl) dX5_meter_39 ⟨(by first | exact Nat.le_of_ble_eq_true rfl | omega | (show _ ≤ (0); omega)), (by first | exact Nat.le_of_ble_eq_true rfl | omega | (show _ ≤ (0); omega))⟩ (fun v9 w9 H locs hq G => ?_)
  obtain ⟨rfl, rfl⟩ := hq
  refine W.eq (g2 := F0 mm 42 ls [.int (iI (0)), .ref mo]) rfl ?_
  have G : zG D AA ss.heap [(mo, .inr (5, [.int (iI (th)), .int (iI (((n : Nat) : Int))), .ref mnw, .ref mte, .ref mge, .ref mus, .int (iI (((p : Nat) : Int))), .int (iI (((st : Nat) : Int))), .int (iI (cc)), .int (iI (bc)), .ref mco, .ref mfl, .ref mba, .ref mdu, .long (lI (pot)), .long (lI (gr)), .long (lI (bk)), .int (iI (btw)), .int (iI (bhd))]))] H locs := G
  refine z_if_ne (tgt := 49) E dX5_meter_42 (by decide) (by decide) (fun c_42 => absurd c_42 (by decide)) (fun c_42 => ?_)
  refine z_iconst E dX5_meter_45 ?_
  refine z_goto (tgt := 62) E dX5_meter_46 (by decide) ?_
  refine kp_X5_35 E G 0 rfl (Nat.le_of_ble_eq_true rfl) dX5_meter_62 (fun H locs G => ?_)
  have G : zG D AA ss.heap [(mo, .inr (5, [.int (iI (2)), .int (iI (((n : Nat) : Int))), .ref mnw, .ref mte, .ref mge, .ref mus, .int (iI (((p : Nat) : Int))), .int (iI (((st : Nat) : Int))), .int (iI (cc)), .int (iI (bc)), .ref mco, .ref mfl, .ref mba, .ref mdu, .long (lI (pot)), .long (lI (gr)), .long (lI (bk)), .int (iI (btw)), .int (iI (bhd))]))] H locs := G
  refine z_aload_n E hl 0 rfl dX5_meter_65 rfl ?_
  refine kg_X5_35 E G 0 rfl rfl dX5_meter_66 ?_
  refine z_if_eq (tgt := 74) E dX5_meter_69 (by decide) (by decide) (fun c_69 => absurd c_69 (by decide)) (fun c_69 => ?_)
  refine z_iconst E dX5_meter_72 ?_
  exact z_zret (w' := [(mo, .inr (5, [.int (iI (2)), .int (iI (((n : Nat) : Int))), .ref mnw, .ref mte, .ref mge, .ref mus, .int (iI (((p : Nat) : Int))), .int (iI (((st : Nat) : Int))), .int (iI (cc)), .int (iI (bc)), .ref mco, .ref mfl, .ref mba, .ref mdu, .long (lI (pot)), .long (lI (gr)), .long (lI (bk)), .int (iI (btw)), .int (iI (bhd))]))]) (v := 0) E hr hlocks G dX5_meter_73 (by omega) (by omega) (by omega) (zx0 rfl) ⟨rfl, rfl⟩

def q_c_X5_meter_4 (k4 : Nat → ClassId) (mo mnw mte mge mus mco mfl mba mdu : Nat) (th : Int) (n p st : Nat) (cc bc pot gr bk btw bhd : Int) (m k : Nat) (a b : Int) : Option Value → va_W → Prop := (fun (v9 : Option Value) (w9 : va_W) => v9 = some (.int (iI (0))) ∧ w9 = [(mo, .inr (5, [.int (iI (3)), .int (iI (((n : Nat) : Int))), .ref mnw, .ref mte, .ref mge, .ref mus, .int (iI (((p : Nat) : Int))), .int (iI (((st : Nat) : Int))), .int (iI (cc)), .int (iI (bc)), .ref mco, .ref mfl, .ref mba, .ref mdu, .long (lI (pot)), .long (lI (gr)), .long (lI (bk)), .int (iI (btw)), .int (iI (bhd))]))])
set_option maxHeartbeats 4000000 in
set_option maxRecDepth 100000 in
theorem c_X5_meter_4 (l : Launch) (D : va_G) (k4 : Nat → ClassId) (mo mnw mte mge mus mco mfl mba mdu : Nat) (th : Int) (n p st : Nat) (cc bc pot gr bk btw bhd : Int) (m k : Nat) (a b : Int) (hn : n ≤ 6) (hm : m < n) (hk : k < 48) (ha : 0 ≤ a ∧ a ≤ 5000) (hb : 0 ≤ b ∧ b ≤ 5000) (hkp : k < p) (hp48 : p ≤ 48) : zC l yX5_meter (zW yX5_meter cX5_meter 7 (some .boolean)) ({ frames := 2, cells := 0, slots := 0, locals := 46 } : Room) D k4 [.ref mo, .int (iI (((m : Nat) : Int))), .int (iI (((k : Nat) : Int))), .int (iI (a)), .int (iI (b))] [(mo, .inr (5, [.int (iI (th)), .int (iI (((n : Nat) : Int))), .ref mnw, .ref mte, .ref mge, .ref mus, .int (iI (((p : Nat) : Int))), .int (iI (((st : Nat) : Int))), .int (iI (cc)), .int (iI (bc)), .ref mco, .ref mfl, .ref mba, .ref mdu, .long (lI (pot)), .long (lI (gr)), .long (lI (bk)), .int (iI (btw)), .int (iI (bhd))]))] (0) (0) (q_c_X5_meter_4 k4 mo mnw mte mge mus mco mfl mba mdu th n p st cc bc pot gr bk btw bhd m k a b) := by
  refine zC_of (cc := cX5_meter) (by decide) (Nat.le_of_ble_eq_true rfl) (fun pp ee ss mm bl me co AA H locs ls E hr hlocks hin G hl => ?_)
  have hl : lv_has ls 7 [(0, .ref mo), (1, .int (iI (((m : Nat) : Int)))), (2, .int (iI (((k : Nat) : Int)))), (3, .int (iI (a))), (4, .int (iI (b)))] := hl
  refine z_aload_n E hl 0 rfl dX5_meter_0 rfl ?_
  refine z_aload_n E hl 0 rfl dX5_meter_1 rfl ?_
  refine z_iload_n E hl 1 rfl dX5_meter_2 rfl ?_
  refine z_callV E G hl.1 (c_X5_isMember l D k4 mo mnw mte mge mus mco mfl mba mdu th n p st cc bc pot gr bk btw bhd (((m : Nat) : Int)) (by omega) ⟨by omega, by omega⟩ hn) kV_X5_55 ⟨rfl, rfl, Nat.le_of_ble_eq_true rfl, Nat.le_of_ble_eq_true rfl⟩ [0] rfl (by decide) 0 5 rfl rfl rfl rfl rfl (Nat.le_of_ble_eq_true rfl) dX5_meter_3 ⟨(by first | exact Nat.le_of_ble_eq_true rfl | omega | (show _ ≤ (0); omega)), (by first | exact Nat.le_of_ble_eq_true rfl | omega | (show _ ≤ (0); omega))⟩ (fun v9 w9 H locs hq G => ?_)
  obtain ⟨rfl, rfl⟩ := hq
  refine W.eq (g2 := F0 mm 6 ls [.int (iI (1)), .ref mo]) rfl ?_
  have G : zG D AA ss.heap [(mo, .inr (5, [.int (iI (th)), .int (iI (((n : Nat) : Int))), .ref mnw, .ref mte, .ref mge, .ref mus, .int (iI (((p : Nat) : Int))), .int (iI (((st : Nat) : Int))), .int (iI (cc)), .int (iI (bc)), .ref mco, .ref mfl, .ref mba, .ref mdu, .long (lI (pot)), .long (lI (gr)), .long (lI (bk)), .int (iI (btw)), .int (iI (bhd))]))] H locs := G
  refine z_if_eq (tgt := 16) E dX5_meter_6 (by decide) (by decide) (fun c_6 => absurd c_6 (by decide)) (fun c_6 => ?_)
  refine z_iload_n E hl 2 rfl dX5_meter_9 rfl ?_
  refine z_callS E G hl.1 (c_X5_isSlot l D k4 (((k : Nat) : Int)) (by omega) ⟨by omega, by omega⟩) kS_X5_147 ⟨rfl, rfl, Nat.le_of_ble_eq_true rfl, Nat.le_of_ble_eq_true rfl⟩ [] rfl (by decide) rfl rfl (Nat.le_of_ble_eq_true rfl) dX5_meter_10 ⟨(by first | exact Nat.le_of_ble_eq_true rfl | omega | (show _ ≤ (0); omega)), (by first | exact Nat.le_of_ble_eq_true rfl | omega | (show _ ≤ (0); omega))⟩ (fun v9 w9 H locs hq G => ?_)
  obtain ⟨rfl, rfl⟩ := hq
  refine W.eq (g2 := F0 mm 13 ls [.int (iI (1)), .ref mo]) rfl ?_
  have G : zG D AA ss.heap [(mo, .inr (5, [.int (iI (th)), .int (iI (((n : Nat) : Int))), .ref mnw, .ref mte, .ref mge, .ref mus, .int (iI (((p : Nat) : Int))), .int (iI (((st : Nat) : Int))), .int (iI (cc)), .int (iI (bc)), .ref mco, .ref mfl, .ref mba, .ref mdu, .long (lI (pot)), .long (lI (gr)), .long (lI (bk)), .int (iI (btw)), .int (iI (bhd))]))] H locs := G
  refine z_if_ne (tgt := 20) E dX5_meter_13 (by decide) (by decide) (fun c_13 => ?_) (fun c_13 => absurd c_13 (by decide))
  refine z_iload_n E hl 3 rfl dX5_meter_20 rfl ?_
  refine z_i2l E dX5_meter_21 ⟨by omega, by omega⟩ ?_
  refine z_lconst E (z := 0) dX5_meter_22 (by decide) ?_
  refine z_ldc2 E (n := (5000)) zw_191 (by decide +kernel) dX5_meter_23 ?_
  refine z_callS E G hl.1 (c_X5_isIn l D k4 a 0 5000 (by omega) ⟨⟨by omega, by omega⟩, ⟨by omega, by omega⟩, ⟨by omega, by omega⟩⟩) kS_X5_42 ⟨rfl, rfl, Nat.le_of_ble_eq_true rfl, Nat.le_of_ble_eq_true rfl⟩ [] rfl (by decide) rfl rfl (Nat.le_of_ble_eq_true rfl) dX5_meter_26 ⟨(by first | exact Nat.le_of_ble_eq_true rfl | omega | (show _ ≤ (0); omega)), (by first | exact Nat.le_of_ble_eq_true rfl | omega | (show _ ≤ (0); omega))⟩ (fun v9 w9 H locs hq G => ?_)
  obtain ⟨rfl, rfl⟩ := hq
  refine W.eq (g2 := F0 mm 29 ls [.int (iI (1)), .ref mo]) rfl ?_
  have G : zG D AA ss.heap [(mo, .inr (5, [.int (iI (th)), .int (iI (((n : Nat) : Int))), .ref mnw, .ref mte, .ref mge, .ref mus, .int (iI (((p : Nat) : Int))), .int (iI (((st : Nat) : Int))), .int (iI (cc)), .int (iI (bc)), .ref mco, .ref mfl, .ref mba, .ref mdu, .long (lI (pot)), .long (lI (gr)), .long (lI (bk)), .int (iI (btw)), .int (iI (bhd))]))] H locs := G
  refine z_if_eq (tgt := 45) E dX5_meter_29 (by decide) (by decide) (fun c_29 => absurd c_29 (by decide)) (fun c_29 => ?_)
  refine z_iload E hl 4 rfl dX5_meter_32 ?_
  refine z_i2l E dX5_meter_34 ⟨by omega, by omega⟩ ?_
  refine z_lconst E (z := 0) dX5_meter_35 (by decide) ?_
  refine z_ldc2 E (n := (5000)) zw_191 (by decide +kernel) dX5_meter_36 ?_
  refine z_callS E G hl.1 (c_X5_isIn l D k4 b 0 5000 (by omega) ⟨⟨by omega, by omega⟩, ⟨by omega, by omega⟩, ⟨by omega, by omega⟩⟩) kS_X5_42 ⟨rfl, rfl, Nat.le_of_ble_eq_true rfl, Nat.le_of_ble_eq_true rfl⟩ [] rfl (by decide) rfl rfl (Nat.le_of_ble_eq_true rfl) dX5_meter_39 ⟨(by first | exact Nat.le_of_ble_eq_true rfl | omega | (show _ ≤ (0); omega)), (by first | exact Nat.le_of_ble_eq_true rfl | omega | (show _ ≤ (0); omega))⟩ (fun v9 w9 H locs hq G => ?_)
  obtain ⟨rfl, rfl⟩ := hq
  refine W.eq (g2 := F0 mm 42 ls [.int (iI (1)), .ref mo]) rfl ?_
  have G : zG D AA ss.heap [(mo, .inr (5, [.int (iI (th)), .int (iI (((n : Nat) : Int))), .ref mnw, .ref mte, .ref mge, .ref mus, .int (iI (((p : Nat) : Int))), .int (iI (((st : Nat) : Int))), .int (iI (cc)), .int (iI (bc)), .ref mco, .ref mfl, .ref mba, .ref mdu, .long (lI (pot)), .long (lI (gr)), .long (lI (bk)), .int (iI (btw)), .int (iI (bhd))]))] H locs := G
  refine z_if_ne (tgt := 49) E dX5_meter_42 (by decide) (by decide) (fun c_42 => ?_) (fun c_42 => absurd c_42 (by decide))
  refine z_iload_n E hl 2 rfl dX5_meter_49 rfl ?_
  refine z_aload_n E hl 0 rfl dX5_meter_50 rfl ?_
  refine kg_X5_48 E G 0 rfl rfl dX5_meter_51 ?_
  refine z_icmp_ge (tgt := 61) E dX5_meter_54 (by decide) ⟨by omega, by omega⟩ ⟨by omega, by omega⟩ (fun c_54 => absurd c_54 (by omega)) (fun c_54 => ?_)
  refine z_iconst E dX5_meter_57 ?_
  refine z_goto (tgt := 62) E dX5_meter_58 (by decide) ?_
  refine kp_X5_35 E G 0 rfl (Nat.le_of_ble_eq_true rfl) dX5_meter_62 (fun H locs G => ?_)
  have G : zG D AA ss.heap [(mo, .inr (5, [.int (iI (3)), .int (iI (((n : Nat) : Int))), .ref mnw, .ref mte, .ref mge, .ref mus, .int (iI (((p : Nat) : Int))), .int (iI (((st : Nat) : Int))), .int (iI (cc)), .int (iI (bc)), .ref mco, .ref mfl, .ref mba, .ref mdu, .long (lI (pot)), .long (lI (gr)), .long (lI (bk)), .int (iI (btw)), .int (iI (bhd))]))] H locs := G
  refine z_aload_n E hl 0 rfl dX5_meter_65 rfl ?_
  refine kg_X5_35 E G 0 rfl rfl dX5_meter_66 ?_
  refine z_if_eq (tgt := 74) E dX5_meter_69 (by decide) (by decide) (fun c_69 => absurd c_69 (by decide)) (fun c_69 => ?_)
  refine z_iconst E dX5_meter_72 ?_
  exact z_zret (w' := [(mo, .inr (5, [.int (iI (3)), .int (iI (((n : Nat) : Int))), .ref mnw, .ref mte, .ref mge, .ref mus, .int (iI (((p : Nat) : Int))), .int (iI (((st : Nat) : Int))), .int (iI (cc)), .int (iI (bc)), .ref mco, .ref mfl, .ref mba, .ref mdu, .long (lI (pot)), .long (lI (gr)), .long (lI (bk)), .int (iI (btw)), .int (iI (bhd))]))]) (v := 0) E hr hlocks G dX5_meter_73 (by omega) (by omega) (by omega) (zx0 rfl) ⟨rfl, rfl⟩

def q_c_X5_reading (k4 : Nat → ClassId) (mo mnw mte mge mus mco mfl mba mdu : Nat) (th : Int) (n p st : Nat) (cc bc pot gr bk btw bhd : Int) (m k : Nat) (iu : Int) (GE US : Nat → Int) : Option Value → va_W → Prop := (fun (v9 : Option Value) (w9 : va_W) => v9 = some (.int (iI (if iu = 0 then GE (48 * m + k) else US (48 * m + k)))) ∧ w9 = [(mo, .inr (5, [.int (iI (0)), .int (iI (((n : Nat) : Int))), .ref mnw, .ref mte, .ref mge, .ref mus, .int (iI (((p : Nat) : Int))), .int (iI (((st : Nat) : Int))), .int (iI (cc)), .int (iI (bc)), .ref mco, .ref mfl, .ref mba, .ref mdu, .long (lI (pot)), .long (lI (gr)), .long (lI (bk)), .int (iI (btw)), .int (iI (bhd))])), (mge, .inl (k4 0, 288, .inl (fun i9 => iI (GE i9)))), (mus, .inl (k4 0, 288, .inl (fun i9 => iI (US i9))))])
set_option maxHeartbeats 4000000 in
set_option maxRecDepth 100000 in
theorem c_X5_reading (l : Launch) (D : va_G) (k4 : Nat → ClassId) (mo mnw mte mge mus mco mfl mba mdu : Nat) (th : Int) (n p st : Nat) (cc bc pot gr bk btw bhd : Int) (m k : Nat) (iu : Int) (GE US : Nat → Int) (hn : n ≤ 6) (hm : m < n) (hk : k < 48) (hiu : iu = 0 ∨ iu = 1) : zC l yX5_reading (zW yX5_reading cX5_reading 4 (some .int)) ({ frames := 2, cells := 0, slots := 0, locals := 46 } : Room) D k4 [.ref mo, .int (iI (((m : Nat) : Int))), .int (iI (((k : Nat) : Int))), .int (iI (iu))] [(mo, .inr (5, [.int (iI (th)), .int (iI (((n : Nat) : Int))), .ref mnw, .ref mte, .ref mge, .ref mus, .int (iI (((p : Nat) : Int))), .int (iI (((st : Nat) : Int))), .int (iI (cc)), .int (iI (bc)), .ref mco, .ref mfl, .ref mba, .ref mdu, .long (lI (pot)), .long (lI (gr)), .long (lI (bk)), .int (iI (btw)), .int (iI (bhd))])), (mge, .inl (k4 0, 288, .inl (fun i9 => iI (GE i9)))), (mus, .inl (k4 0, 288, .inl (fun i9 => iI (US i9))))] (0) (0) (q_c_X5_reading k4 mo mnw mte mge mus mco mfl mba mdu th n p st cc bc pot gr bk btw bhd m k iu GE US) := by
  refine zC_of (cc := cX5_reading) (by decide) (Nat.le_of_ble_eq_true rfl) (fun pp ee ss mm bl me co AA H locs ls E hr hlocks hin G hl => ?_)
  have hl : lv_has ls 4 [(0, .ref mo), (1, .int (iI (((m : Nat) : Int)))), (2, .int (iI (((k : Nat) : Int)))), (3, .int (iI (iu)))] := hl
  refine z_aload_n E hl 0 rfl dX5_reading_0 rfl ?_
  refine z_iconst E dX5_reading_1 ?_
  refine kp_X5_35 E G 0 rfl (Nat.le_of_ble_eq_true rfl) dX5_reading_2 (fun H locs G => ?_)
  have G : zG D AA ss.heap [(mo, .inr (5, [.int (iI (0)), .int (iI (((n : Nat) : Int))), .ref mnw, .ref mte, .ref mge, .ref mus, .int (iI (((p : Nat) : Int))), .int (iI (((st : Nat) : Int))), .int (iI (cc)), .int (iI (bc)), .ref mco, .ref mfl, .ref mba, .ref mdu, .long (lI (pot)), .long (lI (gr)), .long (lI (bk)), .int (iI (btw)), .int (iI (bhd))])), (mge, .inl (k4 0, 288, .inl (fun i9 => iI (GE i9)))), (mus, .inl (k4 0, 288, .inl (fun i9 => iI (US i9))))] H locs := G
  refine z_aload_n E hl 0 rfl dX5_reading_5 rfl ?_
  refine z_iload_n E hl 1 rfl dX5_reading_6 rfl ?_
  refine z_callV E G hl.1 (c_X5_isMember l D k4 mo mnw mte mge mus mco mfl mba mdu 0 n p st cc bc pot gr bk btw bhd (((m : Nat) : Int)) (by omega) ⟨by omega, by omega⟩ hn) kV_X5_55 ⟨rfl, rfl, Nat.le_of_ble_eq_true rfl, Nat.le_of_ble_eq_true rfl⟩ [0] rfl (by decide) 0 5 rfl rfl rfl rfl rfl (Nat.le_of_ble_eq_true rfl) dX5_reading_7 ⟨(by first | exact Nat.le_of_ble_eq_true rfl | omega | (show _ ≤ (0); omega)), (by first | exact Nat.le_of_ble_eq_true rfl | omega | (show _ ≤ (0); omega))⟩ (fun v9 w9 H locs hq G => ?_)
  obtain ⟨rfl, rfl⟩ := hq
  refine W.eq (g2 := F0 mm 10 ls [.int (iI (1))]) rfl ?_
  have G : zG D AA ss.heap [(mo, .inr (5, [.int (iI (0)), .int (iI (((n : Nat) : Int))), .ref mnw, .ref mte, .ref mge, .ref mus, .int (iI (((p : Nat) : Int))), .int (iI (((st : Nat) : Int))), .int (iI (cc)), .int (iI (bc)), .ref mco, .ref mfl, .ref mba, .ref mdu, .long (lI (pot)), .long (lI (gr)), .long (lI (bk)), .int (iI (btw)), .int (iI (bhd))])), (mge, .inl (k4 0, 288, .inl (fun i9 => iI (GE i9)))), (mus, .inl (k4 0, 288, .inl (fun i9 => iI (US i9))))] H locs := G
  refine z_if_eq (tgt := 20) E dX5_reading_10 (by decide) (by decide) (fun c_10 => absurd c_10 (by decide)) (fun c_10 => ?_)
  refine z_iload_n E hl 2 rfl dX5_reading_13 rfl ?_
  refine z_callS E G hl.1 (c_X5_isSlot l D k4 (((k : Nat) : Int)) (by omega) ⟨by omega, by omega⟩) kS_X5_147 ⟨rfl, rfl, Nat.le_of_ble_eq_true rfl, Nat.le_of_ble_eq_true rfl⟩ [] rfl (by decide) rfl rfl (Nat.le_of_ble_eq_true rfl) dX5_reading_14 ⟨(by first | exact Nat.le_of_ble_eq_true rfl | omega | (show _ ≤ (0); omega)), (by first | exact Nat.le_of_ble_eq_true rfl | omega | (show _ ≤ (0); omega))⟩ (fun v9 w9 H locs hq G => ?_)
  obtain ⟨rfl, rfl⟩ := hq
  refine W.eq (g2 := F0 mm 17 ls [.int (iI (1))]) rfl ?_
  have G : zG D AA ss.heap [(mo, .inr (5, [.int (iI (0)), .int (iI (((n : Nat) : Int))), .ref mnw, .ref mte, .ref mge, .ref mus, .int (iI (((p : Nat) : Int))), .int (iI (((st : Nat) : Int))), .int (iI (cc)), .int (iI (bc)), .ref mco, .ref mfl, .ref mba, .ref mdu, .long (lI (pot)), .long (lI (gr)), .long (lI (bk)), .int (iI (btw)), .int (iI (bhd))])), (mge, .inl (k4 0, 288, .inl (fun i9 => iI (GE i9)))), (mus, .inl (k4 0, 288, .inl (fun i9 => iI (US i9))))] H locs := G
  refine z_if_ne (tgt := 26) E dX5_reading_17 (by decide) (by decide) (fun c_17 => ?_) (fun c_17 => absurd c_17 (by decide))
  refine z_iload_n E hl 3 rfl dX5_reading_26 rfl ?_
  refine z_if_eq (tgt := 37) E dX5_reading_27 (by decide) ⟨by omega, by omega⟩ (fun c_27 => ?_) (fun c_27 => ?_)
  · skip
    refine z_aload_n E hl 0 rfl dX5_reading_37 rfl ?_
    refine kg_X5_16 E G 0 rfl rfl dX5_reading_38 ?_
    refine z_bipush E dX5_reading_41 (by decide) ?_
    refine z_iload_n E hl 1 rfl dX5_reading_43 rfl ?_
    refine z_imul E dX5_reading_44 ?_
    refine z_iload_n E hl 2 rfl dX5_reading_45 rfl ?_
    refine z_iadd E dX5_reading_46 ?_
    refine z_iald E G 1 rfl (48 * m + k) (by omega) (by omega) (by decide) dX5_reading_47 ?_
    refine z_eq (y := if iu = 0 then GE (48 * m + k) else US (48 * m + k)) (if_pos c_27).symm ?_
    exact z_iret (w' := [(mo, .inr (5, [.int (iI (0)), .int (iI (((n : Nat) : Int))), .ref mnw, .ref mte, .ref mge, .ref mus, .int (iI (((p : Nat) : Int))), .int (iI (((st : Nat) : Int))), .int (iI (cc)), .int (iI (bc)), .ref mco, .ref mfl, .ref mba, .ref mdu, .long (lI (pot)), .long (lI (gr)), .long (lI (bk)), .int (iI (btw)), .int (iI (bhd))])), (mge, .inl (k4 0, 288, .inl (fun i9 => iI (GE i9)))), (mus, .inl (k4 0, 288, .inl (fun i9 => iI (US i9))))]) (v := if iu = 0 then GE (48 * m + k) else US (48 * m + k)) E hr hlocks G dX5_reading_48 (by omega) (by omega) (zx0 rfl) ⟨rfl, rfl⟩
  · skip
    refine z_aload_n E hl 0 rfl dX5_reading_30 rfl ?_
    refine kg_X5_19 E G 0 rfl rfl dX5_reading_31 ?_
    refine z_goto (tgt := 41) E dX5_reading_34 (by decide) ?_
    refine z_bipush E dX5_reading_41 (by decide) ?_
    refine z_iload_n E hl 1 rfl dX5_reading_43 rfl ?_
    refine z_imul E dX5_reading_44 ?_
    refine z_iload_n E hl 2 rfl dX5_reading_45 rfl ?_
    refine z_iadd E dX5_reading_46 ?_
    refine z_iald E G 2 rfl (48 * m + k) (by omega) (by omega) (by decide) dX5_reading_47 ?_
    refine z_eq (y := if iu = 0 then GE (48 * m + k) else US (48 * m + k)) (if_neg c_27).symm ?_
    exact z_iret (w' := [(mo, .inr (5, [.int (iI (0)), .int (iI (((n : Nat) : Int))), .ref mnw, .ref mte, .ref mge, .ref mus, .int (iI (((p : Nat) : Int))), .int (iI (((st : Nat) : Int))), .int (iI (cc)), .int (iI (bc)), .ref mco, .ref mfl, .ref mba, .ref mdu, .long (lI (pot)), .long (lI (gr)), .long (lI (bk)), .int (iI (btw)), .int (iI (bhd))])), (mge, .inl (k4 0, 288, .inl (fun i9 => iI (GE i9)))), (mus, .inl (k4 0, 288, .inl (fun i9 => iI (US i9))))]) (v := if iu = 0 then GE (48 * m + k) else US (48 * m + k)) E hr hlocks G dX5_reading_48 (by omega) (by omega) (zx0 rfl) ⟨rfl, rfl⟩

def q_c_X5_reading_0 (k4 : Nat → ClassId) (mo mnw mte mge mus mco mfl mba mdu : Nat) (th : Int) (n p st : Nat) (cc bc pot gr bk btw bhd : Int) (m k iu : Int) : Option Value → va_W → Prop := (fun (v9 : Option Value) (w9 : va_W) => v9 = some (.int (iI (0))) ∧ w9 = [(mo, .inr (5, [.int (iI (1)), .int (iI (((n : Nat) : Int))), .ref mnw, .ref mte, .ref mge, .ref mus, .int (iI (((p : Nat) : Int))), .int (iI (((st : Nat) : Int))), .int (iI (cc)), .int (iI (bc)), .ref mco, .ref mfl, .ref mba, .ref mdu, .long (lI (pot)), .long (lI (gr)), .long (lI (bk)), .int (iI (btw)), .int (iI (bhd))]))])
set_option maxHeartbeats 4000000 in
set_option maxRecDepth 100000 in
theorem c_X5_reading_0 (l : Launch) (D : va_G) (k4 : Nat → ClassId) (mo mnw mte mge mus mco mfl mba mdu : Nat) (th : Int) (n p st : Nat) (cc bc pot gr bk btw bhd : Int) (m k iu : Int) (hn : n ≤ 6) (hm : (-2147483648 ≤ m ∧ m ≤ 2147483647) ∧ (m < 0 ∨ (n : Int) ≤ m)) : zC l yX5_reading (zW yX5_reading cX5_reading 4 (some .int)) ({ frames := 2, cells := 0, slots := 0, locals := 46 } : Room) D k4 [.ref mo, .int (iI (m)), .int (iI (k)), .int (iI (iu))] [(mo, .inr (5, [.int (iI (th)), .int (iI (((n : Nat) : Int))), .ref mnw, .ref mte, .ref mge, .ref mus, .int (iI (((p : Nat) : Int))), .int (iI (((st : Nat) : Int))), .int (iI (cc)), .int (iI (bc)), .ref mco, .ref mfl, .ref mba, .ref mdu, .long (lI (pot)), .long (lI (gr)), .long (lI (bk)), .int (iI (btw)), .int (iI (bhd))]))] (0) (0) (q_c_X5_reading_0 k4 mo mnw mte mge mus mco mfl mba mdu th n p st cc bc pot gr bk btw bhd m k iu) := by
  refine zC_of (cc := cX5_reading) (by decide) (Nat.le_of_ble_eq_true rfl) (fun pp ee ss mm bl me co AA H locs ls E hr hlocks hin G hl => ?_)
  have hl : lv_has ls 4 [(0, .ref mo), (1, .int (iI (m))), (2, .int (iI (k))), (3, .int (iI (iu)))] := hl
  refine z_aload_n E hl 0 rfl dX5_reading_0 rfl ?_
  refine z_iconst E dX5_reading_1 ?_
  refine kp_X5_35 E G 0 rfl (Nat.le_of_ble_eq_true rfl) dX5_reading_2 (fun H locs G => ?_)
  have G : zG D AA ss.heap [(mo, .inr (5, [.int (iI (0)), .int (iI (((n : Nat) : Int))), .ref mnw, .ref mte, .ref mge, .ref mus, .int (iI (((p : Nat) : Int))), .int (iI (((st : Nat) : Int))), .int (iI (cc)), .int (iI (bc)), .ref mco, .ref mfl, .ref mba, .ref mdu, .long (lI (pot)), .long (lI (gr)), .long (lI (bk)), .int (iI (btw)), .int (iI (bhd))]))] H locs := G
  refine z_aload_n E hl 0 rfl dX5_reading_5 rfl ?_
  refine z_iload_n E hl 1 rfl dX5_reading_6 rfl ?_
  refine z_callV E G hl.1 (c_X5_isMemberF l D k4 mo mnw mte mge mus mco mfl mba mdu 0 n p st cc bc pot gr bk btw bhd m (by omega) ⟨by omega, by omega⟩ hn) kV_X5_55 ⟨rfl, rfl, Nat.le_of_ble_eq_true rfl, Nat.le_of_ble_eq_true rfl⟩ [0] rfl (by decide) 0 5 rfl rfl rfl rfl rfl (Nat.le_of_ble_eq_true rfl) dX5_reading_7 ⟨(by first | exact Nat.le_of_ble_eq_true rfl | omega | (show _ ≤ (0); omega)), (by first | exact Nat.le_of_ble_eq_true rfl | omega | (show _ ≤ (0); omega))⟩ (fun v9 w9 H locs hq G => ?_)
  obtain ⟨rfl, rfl⟩ := hq
  refine W.eq (g2 := F0 mm 10 ls [.int (iI (0))]) rfl ?_
  have G : zG D AA ss.heap [(mo, .inr (5, [.int (iI (0)), .int (iI (((n : Nat) : Int))), .ref mnw, .ref mte, .ref mge, .ref mus, .int (iI (((p : Nat) : Int))), .int (iI (((st : Nat) : Int))), .int (iI (cc)), .int (iI (bc)), .ref mco, .ref mfl, .ref mba, .ref mdu, .long (lI (pot)), .long (lI (gr)), .long (lI (bk)), .int (iI (btw)), .int (iI (bhd))]))] H locs := G
  refine z_if_eq (tgt := 20) E dX5_reading_10 (by decide) (by decide) (fun c_10 => ?_) (fun c_10 => absurd c_10 (by decide))
  refine z_aload_n E hl 0 rfl dX5_reading_20 rfl ?_
  refine z_iconst E dX5_reading_21 ?_
  refine z_callV E G hl.1 (c_X5_no l D k4 mo mnw mte mge mus mco mfl mba mdu 0 n p st cc bc pot gr bk btw bhd 1 ) kV_X5_51 ⟨rfl, rfl, Nat.le_of_ble_eq_true rfl, Nat.le_of_ble_eq_true rfl⟩ [0] rfl (by decide) 0 5 rfl rfl rfl rfl rfl (Nat.le_of_ble_eq_true rfl) dX5_reading_22 ⟨(by first | exact Nat.le_of_ble_eq_true rfl | omega | (show _ ≤ (0); omega)), (by first | exact Nat.le_of_ble_eq_true rfl | omega | (show _ ≤ (0); omega))⟩ (fun v9 w9 H locs hq G => ?_)
  obtain ⟨rfl, rfl⟩ := hq
  refine W.eq (g2 := F0 mm 25 ls [.int (iI (0))]) rfl ?_
  have G : zG D AA ss.heap [(mo, .inr (5, [.int (iI (1)), .int (iI (((n : Nat) : Int))), .ref mnw, .ref mte, .ref mge, .ref mus, .int (iI (((p : Nat) : Int))), .int (iI (((st : Nat) : Int))), .int (iI (cc)), .int (iI (bc)), .ref mco, .ref mfl, .ref mba, .ref mdu, .long (lI (pot)), .long (lI (gr)), .long (lI (bk)), .int (iI (btw)), .int (iI (bhd))]))] H locs := G
  exact z_iret (w' := [(mo, .inr (5, [.int (iI (1)), .int (iI (((n : Nat) : Int))), .ref mnw, .ref mte, .ref mge, .ref mus, .int (iI (((p : Nat) : Int))), .int (iI (((st : Nat) : Int))), .int (iI (cc)), .int (iI (bc)), .ref mco, .ref mfl, .ref mba, .ref mdu, .long (lI (pot)), .long (lI (gr)), .long (lI (bk)), .int (iI (btw)), .int (iI (bhd))]))]) (v := 0) E hr hlocks G dX5_reading_25 (by omega) (by omega) (zx0 rfl) ⟨rfl, rfl⟩

def q_c_X5_reading_1 (k4 : Nat → ClassId) (mo mnw mte mge mus mco mfl mba mdu : Nat) (th : Int) (n p st : Nat) (cc bc pot gr bk btw bhd : Int) (m : Nat) (k iu : Int) : Option Value → va_W → Prop := (fun (v9 : Option Value) (w9 : va_W) => v9 = some (.int (iI (0))) ∧ w9 = [(mo, .inr (5, [.int (iI (1)), .int (iI (((n : Nat) : Int))), .ref mnw, .ref mte, .ref mge, .ref mus, .int (iI (((p : Nat) : Int))), .int (iI (((st : Nat) : Int))), .int (iI (cc)), .int (iI (bc)), .ref mco, .ref mfl, .ref mba, .ref mdu, .long (lI (pot)), .long (lI (gr)), .long (lI (bk)), .int (iI (btw)), .int (iI (bhd))]))])
set_option maxHeartbeats 4000000 in
set_option maxRecDepth 100000 in
theorem c_X5_reading_1 (l : Launch) (D : va_G) (k4 : Nat → ClassId) (mo mnw mte mge mus mco mfl mba mdu : Nat) (th : Int) (n p st : Nat) (cc bc pot gr bk btw bhd : Int) (m : Nat) (k iu : Int) (hn : n ≤ 6) (hm : m < n) (hk : (-2147483648 ≤ k ∧ k ≤ 2147483647) ∧ (k < 0 ∨ 47 < k)) : zC l yX5_reading (zW yX5_reading cX5_reading 4 (some .int)) ({ frames := 2, cells := 0, slots := 0, locals := 46 } : Room) D k4 [.ref mo, .int (iI (((m : Nat) : Int))), .int (iI (k)), .int (iI (iu))] [(mo, .inr (5, [.int (iI (th)), .int (iI (((n : Nat) : Int))), .ref mnw, .ref mte, .ref mge, .ref mus, .int (iI (((p : Nat) : Int))), .int (iI (((st : Nat) : Int))), .int (iI (cc)), .int (iI (bc)), .ref mco, .ref mfl, .ref mba, .ref mdu, .long (lI (pot)), .long (lI (gr)), .long (lI (bk)), .int (iI (btw)), .int (iI (bhd))]))] (0) (0) (q_c_X5_reading_1 k4 mo mnw mte mge mus mco mfl mba mdu th n p st cc bc pot gr bk btw bhd m k iu) := by
  refine zC_of (cc := cX5_reading) (by decide) (Nat.le_of_ble_eq_true rfl) (fun pp ee ss mm bl me co AA H locs ls E hr hlocks hin G hl => ?_)
  have hl : lv_has ls 4 [(0, .ref mo), (1, .int (iI (((m : Nat) : Int)))), (2, .int (iI (k))), (3, .int (iI (iu)))] := hl
  refine z_aload_n E hl 0 rfl dX5_reading_0 rfl ?_
  refine z_iconst E dX5_reading_1 ?_
  refine kp_X5_35 E G 0 rfl (Nat.le_of_ble_eq_true rfl) dX5_reading_2 (fun H locs G => ?_)
  have G : zG D AA ss.heap [(mo, .inr (5, [.int (iI (0)), .int (iI (((n : Nat) : Int))), .ref mnw, .ref mte, .ref mge, .ref mus, .int (iI (((p : Nat) : Int))), .int (iI (((st : Nat) : Int))), .int (iI (cc)), .int (iI (bc)), .ref mco, .ref mfl, .ref mba, .ref mdu, .long (lI (pot)), .long (lI (gr)), .long (lI (bk)), .int (iI (btw)), .int (iI (bhd))]))] H locs := G
  refine z_aload_n E hl 0 rfl dX5_reading_5 rfl ?_
  refine z_iload_n E hl 1 rfl dX5_reading_6 rfl ?_
  refine z_callV E G hl.1 (c_X5_isMember l D k4 mo mnw mte mge mus mco mfl mba mdu 0 n p st cc bc pot gr bk btw bhd (((m : Nat) : Int)) (by omega) ⟨by omega, by omega⟩ hn) kV_X5_55 ⟨rfl, rfl, Nat.le_of_ble_eq_true rfl, Nat.le_of_ble_eq_true rfl⟩ [0] rfl (by decide) 0 5 rfl rfl rfl rfl rfl (Nat.le_of_ble_eq_true rfl) dX5_reading_7 ⟨(by first | exact Nat.le_of_ble_eq_true rfl | omega | (show _ ≤ (0); omega)), (by first | exact Nat.le_of_ble_eq_true rfl | omega | (show _ ≤ (0); omega))⟩ (fun v9 w9 H locs hq G => ?_)
  obtain ⟨rfl, rfl⟩ := hq
  refine W.eq (g2 := F0 mm 10 ls [.int (iI (1))]) rfl ?_
  have G : zG D AA ss.heap [(mo, .inr (5, [.int (iI (0)), .int (iI (((n : Nat) : Int))), .ref mnw, .ref mte, .ref mge, .ref mus, .int (iI (((p : Nat) : Int))), .int (iI (((st : Nat) : Int))), .int (iI (cc)), .int (iI (bc)), .ref mco, .ref mfl, .ref mba, .ref mdu, .long (lI (pot)), .long (lI (gr)), .long (lI (bk)), .int (iI (btw)), .int (iI (bhd))]))] H locs := G
  refine z_if_eq (tgt := 20) E dX5_reading_10 (by decide) (by decide) (fun c_10 => absurd c_10 (by decide)) (fun c_10 => ?_)
  refine z_iload_n E hl 2 rfl dX5_reading_13 rfl ?_
  refine z_callS E G hl.1 (c_X5_isSlotF l D k4 k (by omega) ⟨by omega, by omega⟩) kS_X5_147 ⟨rfl, rfl, Nat.le_of_ble_eq_true rfl, Nat.le_of_ble_eq_true rfl⟩ [] rfl (by decide) rfl rfl (Nat.le_of_ble_eq_true rfl) dX5_reading_14 ⟨(by first | exact Nat.le_of_ble_eq_true rfl | omega | (show _ ≤ (0); omega)), (by first | exact Nat.le_of_ble_eq_true rfl | omega | (show _ ≤ (0); omega))⟩ (fun v9 w9 H locs hq G => ?_)
  obtain ⟨rfl, rfl⟩ := hq
  refine W.eq (g2 := F0 mm 17 ls [.int (iI (0))]) rfl ?_
  have G : zG D AA ss.heap [(mo, .inr (5, [.int (iI (0)), .int (iI (((n : Nat) : Int))), .ref mnw, .ref mte, .ref mge, .ref mus, .int (iI (((p : Nat) : Int))), .int (iI (((st : Nat) : Int))), .int (iI (cc)), .int (iI (bc)), .ref mco, .ref mfl, .ref mba, .ref mdu, .long (lI (pot)), .long (lI (gr)), .long (lI (bk)), .int (iI (btw)), .int (iI (bhd))]))] H locs := G
  refine z_if_ne (tgt := 26) E dX5_reading_17 (by decide) (by decide) (fun c_17 => absurd c_17 (by decide)) (fun c_17 => ?_)
  refine z_aload_n E hl 0 rfl dX5_reading_20 rfl ?_
  refine z_iconst E dX5_reading_21 ?_
  refine z_callV E G hl.1 (c_X5_no l D k4 mo mnw mte mge mus mco mfl mba mdu 0 n p st cc bc pot gr bk btw bhd 1 ) kV_X5_51 ⟨rfl, rfl, Nat.le_of_ble_eq_true rfl, Nat.le_of_ble_eq_true rfl⟩ [0] rfl (by decide) 0 5 rfl rfl rfl rfl rfl (Nat.le_of_ble_eq_true rfl) dX5_reading_22 ⟨(by first | exact Nat.le_of_ble_eq_true rfl | omega | (show _ ≤ (0); omega)), (by first | exact Nat.le_of_ble_eq_true rfl | omega | (show _ ≤ (0); omega))⟩ (fun v9 w9 H locs hq G => ?_)
  obtain ⟨rfl, rfl⟩ := hq
  refine W.eq (g2 := F0 mm 25 ls [.int (iI (0))]) rfl ?_
  have G : zG D AA ss.heap [(mo, .inr (5, [.int (iI (1)), .int (iI (((n : Nat) : Int))), .ref mnw, .ref mte, .ref mge, .ref mus, .int (iI (((p : Nat) : Int))), .int (iI (((st : Nat) : Int))), .int (iI (cc)), .int (iI (bc)), .ref mco, .ref mfl, .ref mba, .ref mdu, .long (lI (pot)), .long (lI (gr)), .long (lI (bk)), .int (iI (btw)), .int (iI (bhd))]))] H locs := G
  exact z_iret (w' := [(mo, .inr (5, [.int (iI (1)), .int (iI (((n : Nat) : Int))), .ref mnw, .ref mte, .ref mge, .ref mus, .int (iI (((p : Nat) : Int))), .int (iI (((st : Nat) : Int))), .int (iI (cc)), .int (iI (bc)), .ref mco, .ref mfl, .ref mba, .ref mdu, .long (lI (pot)), .long (lI (gr)), .long (lI (bk)), .int (iI (btw)), .int (iI (bhd))]))]) (v := 0) E hr hlocks G dX5_reading_25 (by omega) (by omega) (zx0 rfl) ⟨rfl, rfl⟩

def q_c_X5_flow (k4 : Nat → ClassId) (mo mnw mte mge mus mco mfl mba mdu : Nat) (th : Int) (n p st : Nat) (cc bc pot gr bk btw bhd : Int) (k m w : Nat) (FL : Nat → Int) : Option Value → va_W → Prop := (fun (v9 : Option Value) (w9 : va_W) => v9 = some (.int (iI (if k < p then FL (48 * k + (m * 8 + w)) else 0))) ∧ w9 = [(mo, .inr (5, [.int (iI (0)), .int (iI (((n : Nat) : Int))), .ref mnw, .ref mte, .ref mge, .ref mus, .int (iI (((p : Nat) : Int))), .int (iI (((st : Nat) : Int))), .int (iI (cc)), .int (iI (bc)), .ref mco, .ref mfl, .ref mba, .ref mdu, .long (lI (pot)), .long (lI (gr)), .long (lI (bk)), .int (iI (btw)), .int (iI (bhd))])), (mfl, .inl (k4 0, 2304, .inl (fun i9 => iI (FL i9))))])
set_option maxHeartbeats 4000000 in
set_option maxRecDepth 100000 in
theorem c_X5_flow (l : Launch) (D : va_G) (k4 : Nat → ClassId) (mo mnw mte mge mus mco mfl mba mdu : Nat) (th : Int) (n p st : Nat) (cc bc pot gr bk btw bhd : Int) (k m w : Nat) (FL : Nat → Int) (hn : n ≤ 6) (hm : m < n) (hk : k < 48) (hw : w < 8) (hp48 : p ≤ 48) : zC l yX5_flow (zW yX5_flow cX5_flow 4 (some .int)) ({ frames := 2, cells := 0, slots := 0, locals := 46 } : Room) D k4 [.ref mo, .int (iI (((k : Nat) : Int))), .int (iI (((m : Nat) : Int))), .int (iI (((w : Nat) : Int)))] [(mo, .inr (5, [.int (iI (th)), .int (iI (((n : Nat) : Int))), .ref mnw, .ref mte, .ref mge, .ref mus, .int (iI (((p : Nat) : Int))), .int (iI (((st : Nat) : Int))), .int (iI (cc)), .int (iI (bc)), .ref mco, .ref mfl, .ref mba, .ref mdu, .long (lI (pot)), .long (lI (gr)), .long (lI (bk)), .int (iI (btw)), .int (iI (bhd))])), (mfl, .inl (k4 0, 2304, .inl (fun i9 => iI (FL i9))))] (0) (0) (q_c_X5_flow k4 mo mnw mte mge mus mco mfl mba mdu th n p st cc bc pot gr bk btw bhd k m w FL) := by
  refine zC_of (cc := cX5_flow) (by decide) (Nat.le_of_ble_eq_true rfl) (fun pp ee ss mm bl me co AA H locs ls E hr hlocks hin G hl => ?_)
  have hl : lv_has ls 4 [(0, .ref mo), (1, .int (iI (((k : Nat) : Int)))), (2, .int (iI (((m : Nat) : Int)))), (3, .int (iI (((w : Nat) : Int))))] := hl
  refine z_aload_n E hl 0 rfl dX5_flow_0 rfl ?_
  refine z_iconst E dX5_flow_1 ?_
  refine kp_X5_35 E G 0 rfl (Nat.le_of_ble_eq_true rfl) dX5_flow_2 (fun H locs G => ?_)
  have G : zG D AA ss.heap [(mo, .inr (5, [.int (iI (0)), .int (iI (((n : Nat) : Int))), .ref mnw, .ref mte, .ref mge, .ref mus, .int (iI (((p : Nat) : Int))), .int (iI (((st : Nat) : Int))), .int (iI (cc)), .int (iI (bc)), .ref mco, .ref mfl, .ref mba, .ref mdu, .long (lI (pot)), .long (lI (gr)), .long (lI (bk)), .int (iI (btw)), .int (iI (bhd))])), (mfl, .inl (k4 0, 2304, .inl (fun i9 => iI (FL i9))))] H locs := G
  refine z_iload_n E hl 1 rfl dX5_flow_5 rfl ?_
  refine z_callS E G hl.1 (c_X5_isSlot l D k4 (((k : Nat) : Int)) (by omega) ⟨by omega, by omega⟩) kS_X5_147 ⟨rfl, rfl, Nat.le_of_ble_eq_true rfl, Nat.le_of_ble_eq_true rfl⟩ [] rfl (by decide) rfl rfl (Nat.le_of_ble_eq_true rfl) dX5_flow_6 ⟨(by first | exact Nat.le_of_ble_eq_true rfl | omega | (show _ ≤ (0); omega)), (by first | exact Nat.le_of_ble_eq_true rfl | omega | (show _ ≤ (0); omega))⟩ (fun v9 w9 H locs hq G => ?_)
  obtain ⟨rfl, rfl⟩ := hq
  refine W.eq (g2 := F0 mm 9 ls [.int (iI (1))]) rfl ?_
  have G : zG D AA ss.heap [(mo, .inr (5, [.int (iI (0)), .int (iI (((n : Nat) : Int))), .ref mnw, .ref mte, .ref mge, .ref mus, .int (iI (((p : Nat) : Int))), .int (iI (((st : Nat) : Int))), .int (iI (cc)), .int (iI (bc)), .ref mco, .ref mfl, .ref mba, .ref mdu, .long (lI (pot)), .long (lI (gr)), .long (lI (bk)), .int (iI (btw)), .int (iI (bhd))])), (mfl, .inl (k4 0, 2304, .inl (fun i9 => iI (FL i9))))] H locs := G
  refine z_if_eq (tgt := 32) E dX5_flow_9 (by decide) (by decide) (fun c_9 => absurd c_9 (by decide)) (fun c_9 => ?_)
  refine z_aload_n E hl 0 rfl dX5_flow_12 rfl ?_
  refine z_iload_n E hl 2 rfl dX5_flow_13 rfl ?_
  refine z_callV E G hl.1 (c_X5_isMember l D k4 mo mnw mte mge mus mco mfl mba mdu 0 n p st cc bc pot gr bk btw bhd (((m : Nat) : Int)) (by omega) ⟨by omega, by omega⟩ hn) kV_X5_55 ⟨rfl, rfl, Nat.le_of_ble_eq_true rfl, Nat.le_of_ble_eq_true rfl⟩ [0] rfl (by decide) 0 5 rfl rfl rfl rfl rfl (Nat.le_of_ble_eq_true rfl) dX5_flow_14 ⟨(by first | exact Nat.le_of_ble_eq_true rfl | omega | (show _ ≤ (0); omega)), (by first | exact Nat.le_of_ble_eq_true rfl | omega | (show _ ≤ (0); omega))⟩ (fun v9 w9 H locs hq G => ?_)
  obtain ⟨rfl, rfl⟩ := hq
  refine W.eq (g2 := F0 mm 17 ls [.int (iI (1))]) rfl ?_
  have G : zG D AA ss.heap [(mo, .inr (5, [.int (iI (0)), .int (iI (((n : Nat) : Int))), .ref mnw, .ref mte, .ref mge, .ref mus, .int (iI (((p : Nat) : Int))), .int (iI (((st : Nat) : Int))), .int (iI (cc)), .int (iI (bc)), .ref mco, .ref mfl, .ref mba, .ref mdu, .long (lI (pot)), .long (lI (gr)), .long (lI (bk)), .int (iI (btw)), .int (iI (bhd))])), (mfl, .inl (k4 0, 2304, .inl (fun i9 => iI (FL i9))))] H locs := G
  refine z_if_eq (tgt := 32) E dX5_flow_17 (by decide) (by decide) (fun c_17 => absurd c_17 (by decide)) (fun c_17 => ?_)
  refine z_iload_n E hl 3 rfl dX5_flow_20 rfl ?_
  refine z_i2l E dX5_flow_21 ⟨by omega, by omega⟩ ?_
  refine z_lconst E (z := 0) dX5_flow_22 (by decide) ?_
  refine z_ldc2 E (n := (7)) zw_502 (by decide +kernel) dX5_flow_23 ?_
  refine z_callS E G hl.1 (c_X5_isIn l D k4 (((w : Nat) : Int)) 0 7 (by omega) ⟨⟨by omega, by omega⟩, ⟨by omega, by omega⟩, ⟨by omega, by omega⟩⟩) kS_X5_42 ⟨rfl, rfl, Nat.le_of_ble_eq_true rfl, Nat.le_of_ble_eq_true rfl⟩ [] rfl (by decide) rfl rfl (Nat.le_of_ble_eq_true rfl) dX5_flow_26 ⟨(by first | exact Nat.le_of_ble_eq_true rfl | omega | (show _ ≤ (0); omega)), (by first | exact Nat.le_of_ble_eq_true rfl | omega | (show _ ≤ (0); omega))⟩ (fun v9 w9 H locs hq G => ?_)
  obtain ⟨rfl, rfl⟩ := hq
  refine W.eq (g2 := F0 mm 29 ls [.int (iI (1))]) rfl ?_
  have G : zG D AA ss.heap [(mo, .inr (5, [.int (iI (0)), .int (iI (((n : Nat) : Int))), .ref mnw, .ref mte, .ref mge, .ref mus, .int (iI (((p : Nat) : Int))), .int (iI (((st : Nat) : Int))), .int (iI (cc)), .int (iI (bc)), .ref mco, .ref mfl, .ref mba, .ref mdu, .long (lI (pot)), .long (lI (gr)), .long (lI (bk)), .int (iI (btw)), .int (iI (bhd))])), (mfl, .inl (k4 0, 2304, .inl (fun i9 => iI (FL i9))))] H locs := G
  refine z_if_ne (tgt := 38) E dX5_flow_29 (by decide) (by decide) (fun c_29 => ?_) (fun c_29 => absurd c_29 (by decide))
  refine z_iload_n E hl 1 rfl dX5_flow_38 rfl ?_
  refine z_aload_n E hl 0 rfl dX5_flow_39 rfl ?_
  refine kg_X5_48 E G 0 rfl rfl dX5_flow_40 ?_
  refine z_icmp_ge (tgt := 65) E dX5_flow_43 (by decide) ⟨by omega, by omega⟩ ⟨by omega, by omega⟩ (fun c_43 => ?_) (fun c_43 => ?_)
  · skip
    refine z_iconst E dX5_flow_65 ?_
    refine z_eq (y := if k < p then FL (48 * k + (m * 8 + w)) else 0) (if_neg (by omega)).symm ?_
    exact z_iret (w' := [(mo, .inr (5, [.int (iI (0)), .int (iI (((n : Nat) : Int))), .ref mnw, .ref mte, .ref mge, .ref mus, .int (iI (((p : Nat) : Int))), .int (iI (((st : Nat) : Int))), .int (iI (cc)), .int (iI (bc)), .ref mco, .ref mfl, .ref mba, .ref mdu, .long (lI (pot)), .long (lI (gr)), .long (lI (bk)), .int (iI (btw)), .int (iI (bhd))])), (mfl, .inl (k4 0, 2304, .inl (fun i9 => iI (FL i9))))]) (v := if k < p then FL (48 * k + (m * 8 + w)) else 0) E hr hlocks G dX5_flow_66 (by omega) (by omega) (zx0 rfl) ⟨rfl, rfl⟩
  · skip
    refine z_aload_n E hl 0 rfl dX5_flow_46 rfl ?_
    refine kg_X5_25 E G 0 rfl rfl dX5_flow_47 ?_
    refine z_bipush E dX5_flow_50 (by decide) ?_
    refine z_bipush E dX5_flow_52 (by decide) ?_
    refine z_iload_n E hl 1 rfl dX5_flow_54 rfl ?_
    refine z_imul E dX5_flow_55 ?_
    refine z_iload_n E hl 2 rfl dX5_flow_56 rfl ?_
    refine z_iadd E dX5_flow_57 ?_
    refine z_imul E dX5_flow_58 ?_
    refine z_iload_n E hl 3 rfl dX5_flow_59 rfl ?_
    refine z_iadd E dX5_flow_60 ?_
    refine z_iald E G 1 rfl (48 * k + (m * 8 + w)) (by omega) (by omega) (by decide) dX5_flow_61 ?_
    refine z_goto (tgt := 66) E dX5_flow_62 (by decide) ?_
    refine z_eq (y := if k < p then FL (48 * k + (m * 8 + w)) else 0) (if_pos (by omega)).symm ?_
    exact z_iret (w' := [(mo, .inr (5, [.int (iI (0)), .int (iI (((n : Nat) : Int))), .ref mnw, .ref mte, .ref mge, .ref mus, .int (iI (((p : Nat) : Int))), .int (iI (((st : Nat) : Int))), .int (iI (cc)), .int (iI (bc)), .ref mco, .ref mfl, .ref mba, .ref mdu, .long (lI (pot)), .long (lI (gr)), .long (lI (bk)), .int (iI (btw)), .int (iI (bhd))])), (mfl, .inl (k4 0, 2304, .inl (fun i9 => iI (FL i9))))]) (v := if k < p then FL (48 * k + (m * 8 + w)) else 0) E hr hlocks G dX5_flow_66 (by omega) (by omega) (zx0 rfl) ⟨rfl, rfl⟩

def q_c_X5_flow_0 (k4 : Nat → ClassId) (mo mnw mte mge mus mco mfl mba mdu : Nat) (th : Int) (n p st : Nat) (cc bc pot gr bk btw bhd : Int) (k m w : Int) : Option Value → va_W → Prop := (fun (v9 : Option Value) (w9 : va_W) => v9 = some (.int (iI (0))) ∧ w9 = [(mo, .inr (5, [.int (iI (1)), .int (iI (((n : Nat) : Int))), .ref mnw, .ref mte, .ref mge, .ref mus, .int (iI (((p : Nat) : Int))), .int (iI (((st : Nat) : Int))), .int (iI (cc)), .int (iI (bc)), .ref mco, .ref mfl, .ref mba, .ref mdu, .long (lI (pot)), .long (lI (gr)), .long (lI (bk)), .int (iI (btw)), .int (iI (bhd))]))])
set_option maxHeartbeats 4000000 in
set_option maxRecDepth 100000 in
theorem c_X5_flow_0 (l : Launch) (D : va_G) (k4 : Nat → ClassId) (mo mnw mte mge mus mco mfl mba mdu : Nat) (th : Int) (n p st : Nat) (cc bc pot gr bk btw bhd : Int) (k m w : Int) (hn : n ≤ 6) (hk : (-2147483648 ≤ k ∧ k ≤ 2147483647) ∧ (k < 0 ∨ 47 < k)) : zC l yX5_flow (zW yX5_flow cX5_flow 4 (some .int)) ({ frames := 2, cells := 0, slots := 0, locals := 45 } : Room) D k4 [.ref mo, .int (iI (k)), .int (iI (m)), .int (iI (w))] [(mo, .inr (5, [.int (iI (th)), .int (iI (((n : Nat) : Int))), .ref mnw, .ref mte, .ref mge, .ref mus, .int (iI (((p : Nat) : Int))), .int (iI (((st : Nat) : Int))), .int (iI (cc)), .int (iI (bc)), .ref mco, .ref mfl, .ref mba, .ref mdu, .long (lI (pot)), .long (lI (gr)), .long (lI (bk)), .int (iI (btw)), .int (iI (bhd))]))] (0) (0) (q_c_X5_flow_0 k4 mo mnw mte mge mus mco mfl mba mdu th n p st cc bc pot gr bk btw bhd k m w) := by
  refine zC_of (cc := cX5_flow) (by decide) (Nat.le_of_ble_eq_true rfl) (fun pp ee ss mm bl me co AA H locs ls E hr hlocks hin G hl => ?_)
  have hl : lv_has ls 4 [(0, .ref mo), (1, .int (iI (k))), (2, .int (iI (m))), (3, .int (iI (w)))] := hl
  refine z_aload_n E hl 0 rfl dX5_flow_0 rfl ?_
  refine z_iconst E dX5_flow_1 ?_
  refine kp_X5_35 E G 0 rfl (Nat.le_of_ble_eq_true rfl) dX5_flow_2 (fun H locs G => ?_)
  have G : zG D AA ss.heap [(mo, .inr (5, [.int (iI (0)), .int (iI (((n : Nat) : Int))), .ref mnw, .ref mte, .ref mge, .ref mus, .int (iI (((p : Nat) : Int))), .int (iI (((st : Nat) : Int))), .int (iI (cc)), .int (iI (bc)), .ref mco, .ref mfl, .ref mba, .ref mdu, .long (lI (pot)), .long (lI (gr)), .long (lI (bk)), .int (iI (btw)), .int (iI (bhd))]))] H locs := G
  refine z_iload_n E hl 1 rfl dX5_flow_5 rfl ?_
  refine z_callS E G hl.1 (c_X5_isSlotF l D k4 k (by omega) ⟨by omega, by omega⟩) kS_X5_147 ⟨rfl, rfl, Nat.le_of_ble_eq_true rfl, Nat.le_of_ble_eq_true rfl⟩ [] rfl (by decide) rfl rfl (Nat.le_of_ble_eq_true rfl) dX5_flow_6 ⟨(by first | exact Nat.le_of_ble_eq_true rfl | omega | (show _ ≤ (0); omega)), (by first | exact Nat.le_of_ble_eq_true rfl | omega | (show _ ≤ (0); omega))⟩ (fun v9 w9 H locs hq G => ?_)
  obtain ⟨rfl, rfl⟩ := hq
  refine W.eq (g2 := F0 mm 9 ls [.int (iI (0))]) rfl ?_
  have G : zG D AA ss.heap [(mo, .inr (5, [.int (iI (0)), .int (iI (((n : Nat) : Int))), .ref mnw, .ref mte, .ref mge, .ref mus, .int (iI (((p : Nat) : Int))), .int (iI (((st : Nat) : Int))), .int (iI (cc)), .int (iI (bc)), .ref mco, .ref mfl, .ref mba, .ref mdu, .long (lI (pot)), .long (lI (gr)), .long (lI (bk)), .int (iI (btw)), .int (iI (bhd))]))] H locs := G
  refine z_if_eq (tgt := 32) E dX5_flow_9 (by decide) (by decide) (fun c_9 => ?_) (fun c_9 => absurd c_9 (by decide))
  refine z_aload_n E hl 0 rfl dX5_flow_32 rfl ?_
  refine z_iconst E dX5_flow_33 ?_
  refine z_callV E G hl.1 (c_X5_no l D k4 mo mnw mte mge mus mco mfl mba mdu 0 n p st cc bc pot gr bk btw bhd 1 ) kV_X5_51 ⟨rfl, rfl, Nat.le_of_ble_eq_true rfl, Nat.le_of_ble_eq_true rfl⟩ [0] rfl (by decide) 0 5 rfl rfl rfl rfl rfl (Nat.le_of_ble_eq_true rfl) dX5_flow_34 ⟨(by first | exact Nat.le_of_ble_eq_true rfl | omega | (show _ ≤ (0); omega)), (by first | exact Nat.le_of_ble_eq_true rfl | omega | (show _ ≤ (0); omega))⟩ (fun v9 w9 H locs hq G => ?_)
  obtain ⟨rfl, rfl⟩ := hq
  refine W.eq (g2 := F0 mm 37 ls [.int (iI (0))]) rfl ?_
  have G : zG D AA ss.heap [(mo, .inr (5, [.int (iI (1)), .int (iI (((n : Nat) : Int))), .ref mnw, .ref mte, .ref mge, .ref mus, .int (iI (((p : Nat) : Int))), .int (iI (((st : Nat) : Int))), .int (iI (cc)), .int (iI (bc)), .ref mco, .ref mfl, .ref mba, .ref mdu, .long (lI (pot)), .long (lI (gr)), .long (lI (bk)), .int (iI (btw)), .int (iI (bhd))]))] H locs := G
  exact z_iret (w' := [(mo, .inr (5, [.int (iI (1)), .int (iI (((n : Nat) : Int))), .ref mnw, .ref mte, .ref mge, .ref mus, .int (iI (((p : Nat) : Int))), .int (iI (((st : Nat) : Int))), .int (iI (cc)), .int (iI (bc)), .ref mco, .ref mfl, .ref mba, .ref mdu, .long (lI (pot)), .long (lI (gr)), .long (lI (bk)), .int (iI (btw)), .int (iI (bhd))]))]) (v := 0) E hr hlocks G dX5_flow_37 (by omega) (by omega) (zx0 rfl) ⟨rfl, rfl⟩

def q_c_X5_flow_1 (k4 : Nat → ClassId) (mo mnw mte mge mus mco mfl mba mdu : Nat) (th : Int) (n p st : Nat) (cc bc pot gr bk btw bhd : Int) (k : Nat) (m w : Int) : Option Value → va_W → Prop := (fun (v9 : Option Value) (w9 : va_W) => v9 = some (.int (iI (0))) ∧ w9 = [(mo, .inr (5, [.int (iI (1)), .int (iI (((n : Nat) : Int))), .ref mnw, .ref mte, .ref mge, .ref mus, .int (iI (((p : Nat) : Int))), .int (iI (((st : Nat) : Int))), .int (iI (cc)), .int (iI (bc)), .ref mco, .ref mfl, .ref mba, .ref mdu, .long (lI (pot)), .long (lI (gr)), .long (lI (bk)), .int (iI (btw)), .int (iI (bhd))]))])
set_option maxHeartbeats 4000000 in
set_option maxRecDepth 100000 in
theorem c_X5_flow_1 (l : Launch) (D : va_G) (k4 : Nat → ClassId) (mo mnw mte mge mus mco mfl mba mdu : Nat) (th : Int) (n p st : Nat) (cc bc pot gr bk btw bhd : Int) (k : Nat) (m w : Int) (hn : n ≤ 6) (hk : k < 48) (hm : (-2147483648 ≤ m ∧ m ≤ 2147483647) ∧ (m < 0 ∨ (n : Int) ≤ m)) : zC l yX5_flow (zW yX5_flow cX5_flow 4 (some .int)) ({ frames := 2, cells := 0, slots := 0, locals := 46 } : Room) D k4 [.ref mo, .int (iI (((k : Nat) : Int))), .int (iI (m)), .int (iI (w))] [(mo, .inr (5, [.int (iI (th)), .int (iI (((n : Nat) : Int))), .ref mnw, .ref mte, .ref mge, .ref mus, .int (iI (((p : Nat) : Int))), .int (iI (((st : Nat) : Int))), .int (iI (cc)), .int (iI (bc)), .ref mco, .ref mfl, .ref mba, .ref mdu, .long (lI (pot)), .long (lI (gr)), .long (lI (bk)), .int (iI (btw)), .int (iI (bhd))]))] (0) (0) (q_c_X5_flow_1 k4 mo mnw mte mge mus mco mfl mba mdu th n p st cc bc pot gr bk btw bhd k m w) := by
  refine zC_of (cc := cX5_flow) (by decide) (Nat.le_of_ble_eq_true rfl) (fun pp ee ss mm bl me co AA H locs ls E hr hlocks hin G hl => ?_)
  have hl : lv_has ls 4 [(0, .ref mo), (1, .int (iI (((k : Nat) : Int)))), (2, .int (iI (m))), (3, .int (iI (w)))] := hl
  refine z_aload_n E hl 0 rfl dX5_flow_0 rfl ?_
  refine z_iconst E dX5_flow_1 ?_
  refine kp_X5_35 E G 0 rfl (Nat.le_of_ble_eq_true rfl) dX5_flow_2 (fun H locs G => ?_)
  have G : zG D AA ss.heap [(mo, .inr (5, [.int (iI (0)), .int (iI (((n : Nat) : Int))), .ref mnw, .ref mte, .ref mge, .ref mus, .int (iI (((p : Nat) : Int))), .int (iI (((st : Nat) : Int))), .int (iI (cc)), .int (iI (bc)), .ref mco, .ref mfl, .ref mba, .ref mdu, .long (lI (pot)), .long (lI (gr)), .long (lI (bk)), .int (iI (btw)), .int (iI (bhd))]))] H locs := G
  refine z_iload_n E hl 1 rfl dX5_flow_5 rfl ?_
  refine z_callS E G hl.1 (c_X5_isSlot l D k4 (((k : Nat) : Int)) (by omega) ⟨by omega, by omega⟩) kS_X5_147 ⟨rfl, rfl, Nat.le_of_ble_eq_true rfl, Nat.le_of_ble_eq_true rfl⟩ [] rfl (by decide) rfl rfl (Nat.le_of_ble_eq_true rfl) dX5_flow_6 ⟨(by first | exact Nat.le_of_ble_eq_true rfl | omega | (show _ ≤ (0); omega)), (by first | exact Nat.le_of_ble_eq_true rfl | omega | (show _ ≤ (0); omega))⟩ (fun v9 w9 H locs hq G => ?_)
  obtain ⟨rfl, rfl⟩ := hq
  refine W.eq (g2 := F0 mm 9 ls [.int (iI (1))]) rfl ?_
  have G : zG D AA ss.heap [(mo, .inr (5, [.int (iI (0)), .int (iI (((n : Nat) : Int))), .ref mnw, .ref mte, .ref mge, .ref mus, .int (iI (((p : Nat) : Int))), .int (iI (((st : Nat) : Int))), .int (iI (cc)), .int (iI (bc)), .ref mco, .ref mfl, .ref mba, .ref mdu, .long (lI (pot)), .long (lI (gr)), .long (lI (bk)), .int (iI (btw)), .int (iI (bhd))]))] H locs := G
  refine z_if_eq (tgt := 32) E dX5_flow_9 (by decide) (by decide) (fun c_9 => absurd c_9 (by decide)) (fun c_9 => ?_)
  refine z_aload_n E hl 0 rfl dX5_flow_12 rfl ?_
  refine z_iload_n E hl 2 rfl dX5_flow_13 rfl ?_
  refine z_callV E G hl.1 (c_X5_isMemberF l D k4 mo mnw mte mge mus mco mfl mba mdu 0 n p st cc bc pot gr bk btw bhd m (by omega) ⟨by omega, by omega⟩ hn) kV_X5_55 ⟨rfl, rfl, Nat.le_of_ble_eq_true rfl, Nat.le_of_ble_eq_true rfl⟩ [0] rfl (by decide) 0 5 rfl rfl rfl rfl rfl (Nat.le_of_ble_eq_true rfl) dX5_flow_14 ⟨(by first | exact Nat.le_of_ble_eq_true rfl | omega | (show _ ≤ (0); omega)), (by first | exact Nat.le_of_ble_eq_true rfl | omega | (show _ ≤ (0); omega))⟩ (fun v9 w9 H locs hq G => ?_)
  obtain ⟨rfl, rfl⟩ := hq
  refine W.eq (g2 := F0 mm 17 ls [.int (iI (0))]) rfl ?_
  have G : zG D AA ss.heap [(mo, .inr (5, [.int (iI (0)), .int (iI (((n : Nat) : Int))), .ref mnw, .ref mte, .ref mge, .ref mus, .int (iI (((p : Nat) : Int))), .int (iI (((st : Nat) : Int))), .int (iI (cc)), .int (iI (bc)), .ref mco, .ref mfl, .ref mba, .ref mdu, .long (lI (pot)), .long (lI (gr)), .long (lI (bk)), .int (iI (btw)), .int (iI (bhd))]))] H locs := G
  refine z_if_eq (tgt := 32) E dX5_flow_17 (by decide) (by decide) (fun c_17 => ?_) (fun c_17 => absurd c_17 (by decide))
  refine z_aload_n E hl 0 rfl dX5_flow_32 rfl ?_
  refine z_iconst E dX5_flow_33 ?_
  refine z_callV E G hl.1 (c_X5_no l D k4 mo mnw mte mge mus mco mfl mba mdu 0 n p st cc bc pot gr bk btw bhd 1 ) kV_X5_51 ⟨rfl, rfl, Nat.le_of_ble_eq_true rfl, Nat.le_of_ble_eq_true rfl⟩ [0] rfl (by decide) 0 5 rfl rfl rfl rfl rfl (Nat.le_of_ble_eq_true rfl) dX5_flow_34 ⟨(by first | exact Nat.le_of_ble_eq_true rfl | omega | (show _ ≤ (0); omega)), (by first | exact Nat.le_of_ble_eq_true rfl | omega | (show _ ≤ (0); omega))⟩ (fun v9 w9 H locs hq G => ?_)
  obtain ⟨rfl, rfl⟩ := hq
  refine W.eq (g2 := F0 mm 37 ls [.int (iI (0))]) rfl ?_
  have G : zG D AA ss.heap [(mo, .inr (5, [.int (iI (1)), .int (iI (((n : Nat) : Int))), .ref mnw, .ref mte, .ref mge, .ref mus, .int (iI (((p : Nat) : Int))), .int (iI (((st : Nat) : Int))), .int (iI (cc)), .int (iI (bc)), .ref mco, .ref mfl, .ref mba, .ref mdu, .long (lI (pot)), .long (lI (gr)), .long (lI (bk)), .int (iI (btw)), .int (iI (bhd))]))] H locs := G
  exact z_iret (w' := [(mo, .inr (5, [.int (iI (1)), .int (iI (((n : Nat) : Int))), .ref mnw, .ref mte, .ref mge, .ref mus, .int (iI (((p : Nat) : Int))), .int (iI (((st : Nat) : Int))), .int (iI (cc)), .int (iI (bc)), .ref mco, .ref mfl, .ref mba, .ref mdu, .long (lI (pot)), .long (lI (gr)), .long (lI (bk)), .int (iI (btw)), .int (iI (bhd))]))]) (v := 0) E hr hlocks G dX5_flow_37 (by omega) (by omega) (zx0 rfl) ⟨rfl, rfl⟩

def q_c_X5_flow_2 (k4 : Nat → ClassId) (mo mnw mte mge mus mco mfl mba mdu : Nat) (th : Int) (n p st : Nat) (cc bc pot gr bk btw bhd : Int) (k m : Nat) (w : Int) : Option Value → va_W → Prop := (fun (v9 : Option Value) (w9 : va_W) => v9 = some (.int (iI (0))) ∧ w9 = [(mo, .inr (5, [.int (iI (1)), .int (iI (((n : Nat) : Int))), .ref mnw, .ref mte, .ref mge, .ref mus, .int (iI (((p : Nat) : Int))), .int (iI (((st : Nat) : Int))), .int (iI (cc)), .int (iI (bc)), .ref mco, .ref mfl, .ref mba, .ref mdu, .long (lI (pot)), .long (lI (gr)), .long (lI (bk)), .int (iI (btw)), .int (iI (bhd))]))])
set_option maxHeartbeats 4000000 in
set_option maxRecDepth 100000 in
theorem c_X5_flow_2 (l : Launch) (D : va_G) (k4 : Nat → ClassId) (mo mnw mte mge mus mco mfl mba mdu : Nat) (th : Int) (n p st : Nat) (cc bc pot gr bk btw bhd : Int) (k m : Nat) (w : Int) (hn : n ≤ 6) (hk : k < 48) (hm : m < n) (hw : (-2147483648 ≤ w ∧ w ≤ 2147483647) ∧ (w < 0 ∨ 7 < w)) : zC l yX5_flow (zW yX5_flow cX5_flow 4 (some .int)) ({ frames := 2, cells := 0, slots := 0, locals := 46 } : Room) D k4 [.ref mo, .int (iI (((k : Nat) : Int))), .int (iI (((m : Nat) : Int))), .int (iI (w))] [(mo, .inr (5, [.int (iI (th)), .int (iI (((n : Nat) : Int))), .ref mnw, .ref mte, .ref mge, .ref mus, .int (iI (((p : Nat) : Int))), .int (iI (((st : Nat) : Int))), .int (iI (cc)), .int (iI (bc)), .ref mco, .ref mfl, .ref mba, .ref mdu, .long (lI (pot)), .long (lI (gr)), .long (lI (bk)), .int (iI (btw)), .int (iI (bhd))]))] (0) (0) (q_c_X5_flow_2 k4 mo mnw mte mge mus mco mfl mba mdu th n p st cc bc pot gr bk btw bhd k m w) := by
  refine zC_of (cc := cX5_flow) (by decide) (Nat.le_of_ble_eq_true rfl) (fun pp ee ss mm bl me co AA H locs ls E hr hlocks hin G hl => ?_)
  have hl : lv_has ls 4 [(0, .ref mo), (1, .int (iI (((k : Nat) : Int)))), (2, .int (iI (((m : Nat) : Int)))), (3, .int (iI (w)))] := hl
  refine z_aload_n E hl 0 rfl dX5_flow_0 rfl ?_
  refine z_iconst E dX5_flow_1 ?_
  refine kp_X5_35 E G 0 rfl (Nat.le_of_ble_eq_true rfl) dX5_flow_2 (fun H locs G => ?_)
  have G : zG D AA ss.heap [(mo, .inr (5, [.int (iI (0)), .int (iI (((n : Nat) : Int))), .ref mnw, .ref mte, .ref mge, .ref mus, .int (iI (((p : Nat) : Int))), .int (iI (((st : Nat) : Int))), .int (iI (cc)), .int (iI (bc)), .ref mco, .ref mfl, .ref mba, .ref mdu, .long (lI (pot)), .long (lI (gr)), .long (lI (bk)), .int (iI (btw)), .int (iI (bhd))]))] H locs := G
  refine z_iload_n E hl 1 rfl dX5_flow_5 rfl ?_
  refine z_callS E G hl.1 (c_X5_isSlot l D k4 (((k : Nat) : Int)) (by omega) ⟨by omega, by omega⟩) kS_X5_147 ⟨rfl, rfl, Nat.le_of_ble_eq_true rfl, Nat.le_of_ble_eq_true rfl⟩ [] rfl (by decide) rfl rfl (Nat.le_of_ble_eq_true rfl) dX5_flow_6 ⟨(by first | exact Nat.le_of_ble_eq_true rfl | omega | (show _ ≤ (0); omega)), (by first | exact Nat.le_of_ble_eq_true rfl | omega | (show _ ≤ (0); omega))⟩ (fun v9 w9 H locs hq G => ?_)
  obtain ⟨rfl, rfl⟩ := hq
  refine W.eq (g2 := F0 mm 9 ls [.int (iI (1))]) rfl ?_
  have G : zG D AA ss.heap [(mo, .inr (5, [.int (iI (0)), .int (iI (((n : Nat) : Int))), .ref mnw, .ref mte, .ref mge, .ref mus, .int (iI (((p : Nat) : Int))), .int (iI (((st : Nat) : Int))), .int (iI (cc)), .int (iI (bc)), .ref mco, .ref mfl, .ref mba, .ref mdu, .long (lI (pot)), .long (lI (gr)), .long (lI (bk)), .int (iI (btw)), .int (iI (bhd))]))] H locs := G
  refine z_if_eq (tgt := 32) E dX5_flow_9 (by decide) (by decide) (fun c_9 => absurd c_9 (by decide)) (fun c_9 => ?_)
  refine z_aload_n E hl 0 rfl dX5_flow_12 rfl ?_
  refine z_iload_n E hl 2 rfl dX5_flow_13 rfl ?_
  refine z_callV E G hl.1 (c_X5_isMember l D k4 mo mnw mte mge mus mco mfl mba mdu 0 n p st cc bc pot gr bk btw bhd (((m : Nat) : Int)) (by omega) ⟨by omega, by omega⟩ hn) kV_X5_55 ⟨rfl, rfl, Nat.le_of_ble_eq_true rfl, Nat.le_of_ble_eq_true rfl⟩ [0] rfl (by decide) 0 5 rfl rfl rfl rfl rfl (Nat.le_of_ble_eq_true rfl) dX5_flow_14 ⟨(by first | exact Nat.le_of_ble_eq_true rfl | omega | (show _ ≤ (0); omega)), (by first | exact Nat.le_of_ble_eq_true rfl | omega | (show _ ≤ (0); omega))⟩ (fun v9 w9 H locs hq G => ?_)
  obtain ⟨rfl, rfl⟩ := hq
  refine W.eq (g2 := F0 mm 17 ls [.int (iI (1))]) rfl ?_
  have G : zG D AA ss.heap [(mo, .inr (5, [.int (iI (0)), .int (iI (((n : Nat) : Int))), .ref mnw, .ref mte, .ref mge, .ref mus, .int (iI (((p : Nat) : Int))), .int (iI (((st : Nat) : Int))), .int (iI (cc)), .int (iI (bc)), .ref mco, .ref mfl, .ref mba, .ref mdu, .long (lI (pot)), .long (lI (gr)), .long (lI (bk)), .int (iI (btw)), .int (iI (bhd))]))] H locs := G
  refine z_if_eq (tgt := 32) E dX5_flow_17 (by decide) (by decide) (fun c_17 => absurd c_17 (by decide)) (fun c_17 => ?_)
  refine z_iload_n E hl 3 rfl dX5_flow_20 rfl ?_
  refine z_i2l E dX5_flow_21 ⟨by omega, by omega⟩ ?_
  refine z_lconst E (z := 0) dX5_flow_22 (by decide) ?_
  refine z_ldc2 E (n := (7)) zw_502 (by decide +kernel) dX5_flow_23 ?_
  refine z_callS E G hl.1 (c_X5_isInF l D k4 w 0 7 (by omega) ⟨⟨by omega, by omega⟩, ⟨by omega, by omega⟩, ⟨by omega, by omega⟩⟩) kS_X5_42 ⟨rfl, rfl, Nat.le_of_ble_eq_true rfl, Nat.le_of_ble_eq_true rfl⟩ [] rfl (by decide) rfl rfl (Nat.le_of_ble_eq_true rfl) dX5_flow_26 ⟨(by first | exact Nat.le_of_ble_eq_true rfl | omega | (show _ ≤ (0); omega)), (by first | exact Nat.le_of_ble_eq_true rfl | omega | (show _ ≤ (0); omega))⟩ (fun v9 w9 H locs hq G => ?_)
  obtain ⟨rfl, rfl⟩ := hq
  refine W.eq (g2 := F0 mm 29 ls [.int (iI (0))]) rfl ?_
  have G : zG D AA ss.heap [(mo, .inr (5, [.int (iI (0)), .int (iI (((n : Nat) : Int))), .ref mnw, .ref mte, .ref mge, .ref mus, .int (iI (((p : Nat) : Int))), .int (iI (((st : Nat) : Int))), .int (iI (cc)), .int (iI (bc)), .ref mco, .ref mfl, .ref mba, .ref mdu, .long (lI (pot)), .long (lI (gr)), .long (lI (bk)), .int (iI (btw)), .int (iI (bhd))]))] H locs := G
  refine z_if_ne (tgt := 38) E dX5_flow_29 (by decide) (by decide) (fun c_29 => absurd c_29 (by decide)) (fun c_29 => ?_)
  refine z_aload_n E hl 0 rfl dX5_flow_32 rfl ?_
  refine z_iconst E dX5_flow_33 ?_
  refine z_callV E G hl.1 (c_X5_no l D k4 mo mnw mte mge mus mco mfl mba mdu 0 n p st cc bc pot gr bk btw bhd 1 ) kV_X5_51 ⟨rfl, rfl, Nat.le_of_ble_eq_true rfl, Nat.le_of_ble_eq_true rfl⟩ [0] rfl (by decide) 0 5 rfl rfl rfl rfl rfl (Nat.le_of_ble_eq_true rfl) dX5_flow_34 ⟨(by first | exact Nat.le_of_ble_eq_true rfl | omega | (show _ ≤ (0); omega)), (by first | exact Nat.le_of_ble_eq_true rfl | omega | (show _ ≤ (0); omega))⟩ (fun v9 w9 H locs hq G => ?_)
  obtain ⟨rfl, rfl⟩ := hq
  refine W.eq (g2 := F0 mm 37 ls [.int (iI (0))]) rfl ?_
  have G : zG D AA ss.heap [(mo, .inr (5, [.int (iI (1)), .int (iI (((n : Nat) : Int))), .ref mnw, .ref mte, .ref mge, .ref mus, .int (iI (((p : Nat) : Int))), .int (iI (((st : Nat) : Int))), .int (iI (cc)), .int (iI (bc)), .ref mco, .ref mfl, .ref mba, .ref mdu, .long (lI (pot)), .long (lI (gr)), .long (lI (bk)), .int (iI (btw)), .int (iI (bhd))]))] H locs := G
  exact z_iret (w' := [(mo, .inr (5, [.int (iI (1)), .int (iI (((n : Nat) : Int))), .ref mnw, .ref mte, .ref mge, .ref mus, .int (iI (((p : Nat) : Int))), .int (iI (((st : Nat) : Int))), .int (iI (cc)), .int (iI (bc)), .ref mco, .ref mfl, .ref mba, .ref mdu, .long (lI (pot)), .long (lI (gr)), .long (lI (bk)), .int (iI (btw)), .int (iI (bhd))]))]) (v := 0) E hr hlocks G dX5_flow_37 (by omega) (by omega) (zx0 rfl) ⟨rfl, rfl⟩

def q_c_X5_contentAt (k4 : Nat → ClassId) (mo mnw mte mge mus mco mfl mba mdu : Nat) (th : Int) (n p st : Nat) (cc bc pot gr bk btw bhd : Int) (k : Nat) (CO : Nat → Int) : Option Value → va_W → Prop := (fun (v9 : Option Value) (w9 : va_W) => v9 = some (.int (iI (if k < p then CO k else -1))) ∧ w9 = [(mo, .inr (5, [.int (iI (0)), .int (iI (((n : Nat) : Int))), .ref mnw, .ref mte, .ref mge, .ref mus, .int (iI (((p : Nat) : Int))), .int (iI (((st : Nat) : Int))), .int (iI (cc)), .int (iI (bc)), .ref mco, .ref mfl, .ref mba, .ref mdu, .long (lI (pot)), .long (lI (gr)), .long (lI (bk)), .int (iI (btw)), .int (iI (bhd))])), (mco, .inl (k4 0, 48, .inl (fun i9 => iI (CO i9))))])
set_option maxHeartbeats 4000000 in
set_option maxRecDepth 100000 in
theorem c_X5_contentAt (l : Launch) (D : va_G) (k4 : Nat → ClassId) (mo mnw mte mge mus mco mfl mba mdu : Nat) (th : Int) (n p st : Nat) (cc bc pot gr bk btw bhd : Int) (k : Nat) (CO : Nat → Int) (hn : n ≤ 6) (hk : k < 48) (hp48 : p ≤ 48) : zC l yX5_contentAt (zW yX5_contentAt cX5_contentAt 2 (some .int)) ({ frames := 2, cells := 0, slots := 0, locals := 45 } : Room) D k4 [.ref mo, .int (iI (((k : Nat) : Int)))] [(mo, .inr (5, [.int (iI (th)), .int (iI (((n : Nat) : Int))), .ref mnw, .ref mte, .ref mge, .ref mus, .int (iI (((p : Nat) : Int))), .int (iI (((st : Nat) : Int))), .int (iI (cc)), .int (iI (bc)), .ref mco, .ref mfl, .ref mba, .ref mdu, .long (lI (pot)), .long (lI (gr)), .long (lI (bk)), .int (iI (btw)), .int (iI (bhd))])), (mco, .inl (k4 0, 48, .inl (fun i9 => iI (CO i9))))] (0) (0) (q_c_X5_contentAt k4 mo mnw mte mge mus mco mfl mba mdu th n p st cc bc pot gr bk btw bhd k CO) := by
  refine zC_of (cc := cX5_contentAt) (by decide) (Nat.le_of_ble_eq_true rfl) (fun pp ee ss mm bl me co AA H locs ls E hr hlocks hin G hl => ?_)
  have hl : lv_has ls 2 [(0, .ref mo), (1, .int (iI (((k : Nat) : Int))))] := hl
  refine z_aload_n E hl 0 rfl dX5_contentAt_0 rfl ?_
  refine z_iconst E dX5_contentAt_1 ?_
  refine kp_X5_35 E G 0 rfl (Nat.le_of_ble_eq_true rfl) dX5_contentAt_2 (fun H locs G => ?_)
  have G : zG D AA ss.heap [(mo, .inr (5, [.int (iI (0)), .int (iI (((n : Nat) : Int))), .ref mnw, .ref mte, .ref mge, .ref mus, .int (iI (((p : Nat) : Int))), .int (iI (((st : Nat) : Int))), .int (iI (cc)), .int (iI (bc)), .ref mco, .ref mfl, .ref mba, .ref mdu, .long (lI (pot)), .long (lI (gr)), .long (lI (bk)), .int (iI (btw)), .int (iI (bhd))])), (mco, .inl (k4 0, 48, .inl (fun i9 => iI (CO i9))))] H locs := G
  refine z_iload_n E hl 1 rfl dX5_contentAt_5 rfl ?_
  refine z_callS E G hl.1 (c_X5_isSlot l D k4 (((k : Nat) : Int)) (by omega) ⟨by omega, by omega⟩) kS_X5_147 ⟨rfl, rfl, Nat.le_of_ble_eq_true rfl, Nat.le_of_ble_eq_true rfl⟩ [] rfl (by decide) rfl rfl (Nat.le_of_ble_eq_true rfl) dX5_contentAt_6 ⟨(by first | exact Nat.le_of_ble_eq_true rfl | omega | (show _ ≤ (0); omega)), (by first | exact Nat.le_of_ble_eq_true rfl | omega | (show _ ≤ (0); omega))⟩ (fun v9 w9 H locs hq G => ?_)
  obtain ⟨rfl, rfl⟩ := hq
  refine W.eq (g2 := F0 mm 9 ls [.int (iI (1))]) rfl ?_
  have G : zG D AA ss.heap [(mo, .inr (5, [.int (iI (0)), .int (iI (((n : Nat) : Int))), .ref mnw, .ref mte, .ref mge, .ref mus, .int (iI (((p : Nat) : Int))), .int (iI (((st : Nat) : Int))), .int (iI (cc)), .int (iI (bc)), .ref mco, .ref mfl, .ref mba, .ref mdu, .long (lI (pot)), .long (lI (gr)), .long (lI (bk)), .int (iI (btw)), .int (iI (bhd))])), (mco, .inl (k4 0, 48, .inl (fun i9 => iI (CO i9))))] H locs := G
  refine z_if_ne (tgt := 18) E dX5_contentAt_9 (by decide) (by decide) (fun c_9 => ?_) (fun c_9 => absurd c_9 (by decide))
  refine z_iload_n E hl 1 rfl dX5_contentAt_18 rfl ?_
  refine z_aload_n E hl 0 rfl dX5_contentAt_19 rfl ?_
  refine kg_X5_48 E G 0 rfl rfl dX5_contentAt_20 ?_
  refine z_icmp_ge (tgt := 35) E dX5_contentAt_23 (by decide) ⟨by omega, by omega⟩ ⟨by omega, by omega⟩ (fun c_23 => ?_) (fun c_23 => ?_)
  · skip
    refine z_iconst E dX5_contentAt_35 ?_
    refine z_eq (y := if k < p then CO k else -1) (if_neg (by omega)).symm ?_
    exact z_iret (w' := [(mo, .inr (5, [.int (iI (0)), .int (iI (((n : Nat) : Int))), .ref mnw, .ref mte, .ref mge, .ref mus, .int (iI (((p : Nat) : Int))), .int (iI (((st : Nat) : Int))), .int (iI (cc)), .int (iI (bc)), .ref mco, .ref mfl, .ref mba, .ref mdu, .long (lI (pot)), .long (lI (gr)), .long (lI (bk)), .int (iI (btw)), .int (iI (bhd))])), (mco, .inl (k4 0, 48, .inl (fun i9 => iI (CO i9))))]) (v := if k < p then CO k else -1) E hr hlocks G dX5_contentAt_36 (by omega) (by omega) (zx0 rfl) ⟨rfl, rfl⟩
  · skip
    refine z_aload_n E hl 0 rfl dX5_contentAt_26 rfl ?_
    refine kg_X5_22 E G 0 rfl rfl dX5_contentAt_27 ?_
    refine z_iload_n E hl 1 rfl dX5_contentAt_30 rfl ?_
    refine z_iald E G 1 rfl (k) rfl (by omega) (by decide) dX5_contentAt_31 ?_
    refine z_goto (tgt := 36) E dX5_contentAt_32 (by decide) ?_
    refine z_eq (y := if k < p then CO k else -1) (if_pos (by omega)).symm ?_
    exact z_iret (w' := [(mo, .inr (5, [.int (iI (0)), .int (iI (((n : Nat) : Int))), .ref mnw, .ref mte, .ref mge, .ref mus, .int (iI (((p : Nat) : Int))), .int (iI (((st : Nat) : Int))), .int (iI (cc)), .int (iI (bc)), .ref mco, .ref mfl, .ref mba, .ref mdu, .long (lI (pot)), .long (lI (gr)), .long (lI (bk)), .int (iI (btw)), .int (iI (bhd))])), (mco, .inl (k4 0, 48, .inl (fun i9 => iI (CO i9))))]) (v := if k < p then CO k else -1) E hr hlocks G dX5_contentAt_36 (by omega) (by omega) (zx0 rfl) ⟨rfl, rfl⟩

def q_c_X5_contentAt_0 (k4 : Nat → ClassId) (mo mnw mte mge mus mco mfl mba mdu : Nat) (th : Int) (n p st : Nat) (cc bc pot gr bk btw bhd : Int) (k : Int) : Option Value → va_W → Prop := (fun (v9 : Option Value) (w9 : va_W) => v9 = some (.int (iI (0))) ∧ w9 = [(mo, .inr (5, [.int (iI (1)), .int (iI (((n : Nat) : Int))), .ref mnw, .ref mte, .ref mge, .ref mus, .int (iI (((p : Nat) : Int))), .int (iI (((st : Nat) : Int))), .int (iI (cc)), .int (iI (bc)), .ref mco, .ref mfl, .ref mba, .ref mdu, .long (lI (pot)), .long (lI (gr)), .long (lI (bk)), .int (iI (btw)), .int (iI (bhd))]))])
set_option maxHeartbeats 4000000 in
set_option maxRecDepth 100000 in
theorem c_X5_contentAt_0 (l : Launch) (D : va_G) (k4 : Nat → ClassId) (mo mnw mte mge mus mco mfl mba mdu : Nat) (th : Int) (n p st : Nat) (cc bc pot gr bk btw bhd : Int) (k : Int) (hn : n ≤ 6) (hk : (-2147483648 ≤ k ∧ k ≤ 2147483647) ∧ (k < 0 ∨ 47 < k)) : zC l yX5_contentAt (zW yX5_contentAt cX5_contentAt 2 (some .int)) ({ frames := 2, cells := 0, slots := 0, locals := 45 } : Room) D k4 [.ref mo, .int (iI (k))] [(mo, .inr (5, [.int (iI (th)), .int (iI (((n : Nat) : Int))), .ref mnw, .ref mte, .ref mge, .ref mus, .int (iI (((p : Nat) : Int))), .int (iI (((st : Nat) : Int))), .int (iI (cc)), .int (iI (bc)), .ref mco, .ref mfl, .ref mba, .ref mdu, .long (lI (pot)), .long (lI (gr)), .long (lI (bk)), .int (iI (btw)), .int (iI (bhd))]))] (0) (0) (q_c_X5_contentAt_0 k4 mo mnw mte mge mus mco mfl mba mdu th n p st cc bc pot gr bk btw bhd k) := by
  refine zC_of (cc := cX5_contentAt) (by decide) (Nat.le_of_ble_eq_true rfl) (fun pp ee ss mm bl me co AA H locs ls E hr hlocks hin G hl => ?_)
  have hl : lv_has ls 2 [(0, .ref mo), (1, .int (iI (k)))] := hl
  refine z_aload_n E hl 0 rfl dX5_contentAt_0 rfl ?_
  refine z_iconst E dX5_contentAt_1 ?_
  refine kp_X5_35 E G 0 rfl (Nat.le_of_ble_eq_true rfl) dX5_contentAt_2 (fun H locs G => ?_)
  have G : zG D AA ss.heap [(mo, .inr (5, [.int (iI (0)), .int (iI (((n : Nat) : Int))), .ref mnw, .ref mte, .ref mge, .ref mus, .int (iI (((p : Nat) : Int))), .int (iI (((st : Nat) : Int))), .int (iI (cc)), .int (iI (bc)), .ref mco, .ref mfl, .ref mba, .ref mdu, .long (lI (pot)), .long (lI (gr)), .long (lI (bk)), .int (iI (btw)), .int (iI (bhd))]))] H locs := G
  refine z_iload_n E hl 1 rfl dX5_contentAt_5 rfl ?_
  refine z_callS E G hl.1 (c_X5_isSlotF l D k4 k (by omega) ⟨by omega, by omega⟩) kS_X5_147 ⟨rfl, rfl, Nat.le_of_ble_eq_true rfl, Nat.le_of_ble_eq_true rfl⟩ [] rfl (by decide) rfl rfl (Nat.le_of_ble_eq_true rfl) dX5_contentAt_6 ⟨(by first | exact Nat.le_of_ble_eq_true rfl | omega | (show _ ≤ (0); omega)), (by first | exact Nat.le_of_ble_eq_true rfl | omega | (show _ ≤ (0); omega))⟩ (fun v9 w9 H locs hq G => ?_)
  obtain ⟨rfl, rfl⟩ := hq
  refine W.eq (g2 := F0 mm 9 ls [.int (iI (0))]) rfl ?_
  have G : zG D AA ss.heap [(mo, .inr (5, [.int (iI (0)), .int (iI (((n : Nat) : Int))), .ref mnw, .ref mte, .ref mge, .ref mus, .int (iI (((p : Nat) : Int))), .int (iI (((st : Nat) : Int))), .int (iI (cc)), .int (iI (bc)), .ref mco, .ref mfl, .ref mba, .ref mdu, .long (lI (pot)), .long (lI (gr)), .long (lI (bk)), .int (iI (btw)), .int (iI (bhd))]))] H locs := G
  refine z_if_ne (tgt := 18) E dX5_contentAt_9 (by decide) (by decide) (fun c_9 => absurd c_9 (by decide)) (fun c_9 => ?_)
  refine z_aload_n E hl 0 rfl dX5_contentAt_12 rfl ?_
  refine z_iconst E dX5_contentAt_13 ?_
  refine z_callV E G hl.1 (c_X5_no l D k4 mo mnw mte mge mus mco mfl mba mdu 0 n p st cc bc pot gr bk btw bhd 1 ) kV_X5_51 ⟨rfl, rfl, Nat.le_of_ble_eq_true rfl, Nat.le_of_ble_eq_true rfl⟩ [0] rfl (by decide) 0 5 rfl rfl rfl rfl rfl (Nat.le_of_ble_eq_true rfl) dX5_contentAt_14 ⟨(by first | exact Nat.le_of_ble_eq_true rfl | omega | (show _ ≤ (0); omega)), (by first | exact Nat.le_of_ble_eq_true rfl | omega | (show _ ≤ (0); omega))⟩ (fun v9 w9 H locs hq G => ?_)
  obtain ⟨rfl, rfl⟩ := hq
  refine W.eq (g2 := F0 mm 17 ls [.int (iI (0))]) rfl ?_
  have G : zG D AA ss.heap [(mo, .inr (5, [.int (iI (1)), .int (iI (((n : Nat) : Int))), .ref mnw, .ref mte, .ref mge, .ref mus, .int (iI (((p : Nat) : Int))), .int (iI (((st : Nat) : Int))), .int (iI (cc)), .int (iI (bc)), .ref mco, .ref mfl, .ref mba, .ref mdu, .long (lI (pot)), .long (lI (gr)), .long (lI (bk)), .int (iI (btw)), .int (iI (bhd))]))] H locs := G
  exact z_iret (w' := [(mo, .inr (5, [.int (iI (1)), .int (iI (((n : Nat) : Int))), .ref mnw, .ref mte, .ref mge, .ref mus, .int (iI (((p : Nat) : Int))), .int (iI (((st : Nat) : Int))), .int (iI (cc)), .int (iI (bc)), .ref mco, .ref mfl, .ref mba, .ref mdu, .long (lI (pot)), .long (lI (gr)), .long (lI (bk)), .int (iI (btw)), .int (iI (bhd))]))]) (v := 0) E hr hlocks G dX5_contentAt_17 (by omega) (by omega) (zx0 rfl) ⟨rfl, rfl⟩

def q_c_X5_account (k4 : Nat → ClassId) (mo mnw mte mge mus mco mfl mba mdu : Nat) (th : Int) (n p st : Nat) (cc bc pot gr bk btw bhd : Int) (m : Nat) (iu : Int) (BA DU : Nat → Int) : Option Value → va_W → Prop := (fun (v9 : Option Value) (w9 : va_W) => v9 = some (.long (lI (if iu = 0 then BA m else DU m))) ∧ w9 = [(mo, .inr (5, [.int (iI (0)), .int (iI (((n : Nat) : Int))), .ref mnw, .ref mte, .ref mge, .ref mus, .int (iI (((p : Nat) : Int))), .int (iI (((st : Nat) : Int))), .int (iI (cc)), .int (iI (bc)), .ref mco, .ref mfl, .ref mba, .ref mdu, .long (lI (pot)), .long (lI (gr)), .long (lI (bk)), .int (iI (btw)), .int (iI (bhd))])), (mba, .inl (k4 1, 6, .inr (.inl (fun i9 => lI (BA i9))))), (mdu, .inl (k4 1, 6, .inr (.inl (fun i9 => lI (DU i9)))))])
set_option maxHeartbeats 4000000 in
set_option maxRecDepth 100000 in
theorem c_X5_account (l : Launch) (D : va_G) (k4 : Nat → ClassId) (mo mnw mte mge mus mco mfl mba mdu : Nat) (th : Int) (n p st : Nat) (cc bc pot gr bk btw bhd : Int) (m : Nat) (iu : Int) (BA DU : Nat → Int) (hn : n ≤ 6) (hm : m < n) (hiu : iu = 0 ∨ iu = 1) : zC l yX5_account (zW yX5_account cX5_account 3 (some .long)) ({ frames := 2, cells := 0, slots := 0, locals := 46 } : Room) D k4 [.ref mo, .int (iI (((m : Nat) : Int))), .int (iI (iu))] [(mo, .inr (5, [.int (iI (th)), .int (iI (((n : Nat) : Int))), .ref mnw, .ref mte, .ref mge, .ref mus, .int (iI (((p : Nat) : Int))), .int (iI (((st : Nat) : Int))), .int (iI (cc)), .int (iI (bc)), .ref mco, .ref mfl, .ref mba, .ref mdu, .long (lI (pot)), .long (lI (gr)), .long (lI (bk)), .int (iI (btw)), .int (iI (bhd))])), (mba, .inl (k4 1, 6, .inr (.inl (fun i9 => lI (BA i9))))), (mdu, .inl (k4 1, 6, .inr (.inl (fun i9 => lI (DU i9)))))] (0) (0) (q_c_X5_account k4 mo mnw mte mge mus mco mfl mba mdu th n p st cc bc pot gr bk btw bhd m iu BA DU) := by
  refine zC_of (cc := cX5_account) (by decide) (Nat.le_of_ble_eq_true rfl) (fun pp ee ss mm bl me co AA H locs ls E hr hlocks hin G hl => ?_)
  have hl : lv_has ls 3 [(0, .ref mo), (1, .int (iI (((m : Nat) : Int)))), (2, .int (iI (iu)))] := hl
  refine z_aload_n E hl 0 rfl dX5_account_0 rfl ?_
  refine z_aload_n E hl 0 rfl dX5_account_1 rfl ?_
  refine z_iload_n E hl 1 rfl dX5_account_2 rfl ?_
  refine z_callV E G hl.1 (c_X5_isMember l D k4 mo mnw mte mge mus mco mfl mba mdu th n p st cc bc pot gr bk btw bhd (((m : Nat) : Int)) (by omega) ⟨by omega, by omega⟩ hn) kV_X5_55 ⟨rfl, rfl, Nat.le_of_ble_eq_true rfl, Nat.le_of_ble_eq_true rfl⟩ [0] rfl (by decide) 0 5 rfl rfl rfl rfl rfl (Nat.le_of_ble_eq_true rfl) dX5_account_3 ⟨(by first | exact Nat.le_of_ble_eq_true rfl | omega | (show _ ≤ (0); omega)), (by first | exact Nat.le_of_ble_eq_true rfl | omega | (show _ ≤ (0); omega))⟩ (fun v9 w9 H locs hq G => ?_)
  obtain ⟨rfl, rfl⟩ := hq
  refine W.eq (g2 := F0 mm 6 ls [.int (iI (1)), .ref mo]) rfl ?_
  have G : zG D AA ss.heap [(mo, .inr (5, [.int (iI (th)), .int (iI (((n : Nat) : Int))), .ref mnw, .ref mte, .ref mge, .ref mus, .int (iI (((p : Nat) : Int))), .int (iI (((st : Nat) : Int))), .int (iI (cc)), .int (iI (bc)), .ref mco, .ref mfl, .ref mba, .ref mdu, .long (lI (pot)), .long (lI (gr)), .long (lI (bk)), .int (iI (btw)), .int (iI (bhd))])), (mba, .inl (k4 1, 6, .inr (.inl (fun i9 => lI (BA i9))))), (mdu, .inl (k4 1, 6, .inr (.inl (fun i9 => lI (DU i9)))))] H locs := G
  refine z_if_eq (tgt := 13) E dX5_account_6 (by decide) (by decide) (fun c_6 => absurd c_6 (by decide)) (fun c_6 => ?_)
  refine z_iconst E dX5_account_9 ?_
  refine z_goto (tgt := 14) E dX5_account_10 (by decide) ?_
  refine kp_X5_35 E G 0 rfl (Nat.le_of_ble_eq_true rfl) dX5_account_14 (fun H locs G => ?_)
  have G : zG D AA ss.heap [(mo, .inr (5, [.int (iI (0)), .int (iI (((n : Nat) : Int))), .ref mnw, .ref mte, .ref mge, .ref mus, .int (iI (((p : Nat) : Int))), .int (iI (((st : Nat) : Int))), .int (iI (cc)), .int (iI (bc)), .ref mco, .ref mfl, .ref mba, .ref mdu, .long (lI (pot)), .long (lI (gr)), .long (lI (bk)), .int (iI (btw)), .int (iI (bhd))])), (mba, .inl (k4 1, 6, .inr (.inl (fun i9 => lI (BA i9))))), (mdu, .inl (k4 1, 6, .inr (.inl (fun i9 => lI (DU i9)))))] H locs := G
  refine z_aload_n E hl 0 rfl dX5_account_17 rfl ?_
  refine kg_X5_35 E G 0 rfl rfl dX5_account_18 ?_
  refine z_if_eq (tgt := 28) E dX5_account_21 (by decide) (by decide) (fun c_21 => ?_) (fun c_21 => absurd c_21 (by decide))
  refine z_iload_n E hl 2 rfl dX5_account_28 rfl ?_
  refine z_if_eq (tgt := 41) E dX5_account_29 (by decide) ⟨by omega, by omega⟩ (fun c_29 => ?_) (fun c_29 => ?_)
  · skip
    refine z_aload_n E hl 0 rfl dX5_account_41 rfl ?_
    refine kg_X5_28 E G 0 rfl rfl dX5_account_42 ?_
    refine z_iload_n E hl 1 rfl dX5_account_45 rfl ?_
    refine z_lald E G 1 rfl (m) rfl (by omega) (by decide) dX5_account_46 ?_
    refine z_eql (y := if iu = 0 then BA m else DU m) (if_pos c_29).symm ?_
    exact z_lret (w' := [(mo, .inr (5, [.int (iI (0)), .int (iI (((n : Nat) : Int))), .ref mnw, .ref mte, .ref mge, .ref mus, .int (iI (((p : Nat) : Int))), .int (iI (((st : Nat) : Int))), .int (iI (cc)), .int (iI (bc)), .ref mco, .ref mfl, .ref mba, .ref mdu, .long (lI (pot)), .long (lI (gr)), .long (lI (bk)), .int (iI (btw)), .int (iI (bhd))])), (mba, .inl (k4 1, 6, .inr (.inl (fun i9 => lI (BA i9))))), (mdu, .inl (k4 1, 6, .inr (.inl (fun i9 => lI (DU i9)))))]) (v := if iu = 0 then BA m else DU m) E hr hlocks G dX5_account_47 (by omega) (by omega) (zx0 rfl) ⟨rfl, rfl⟩
  · skip
    refine z_aload_n E hl 0 rfl dX5_account_32 rfl ?_
    refine kg_X5_32 E G 0 rfl rfl dX5_account_33 ?_
    refine z_iload_n E hl 1 rfl dX5_account_36 rfl ?_
    refine z_lald E G 2 rfl (m) rfl (by omega) (by decide) dX5_account_37 ?_
    refine z_goto (tgt := 47) E dX5_account_38 (by decide) ?_
    refine z_eql (y := if iu = 0 then BA m else DU m) (if_neg c_29).symm ?_
    exact z_lret (w' := [(mo, .inr (5, [.int (iI (0)), .int (iI (((n : Nat) : Int))), .ref mnw, .ref mte, .ref mge, .ref mus, .int (iI (((p : Nat) : Int))), .int (iI (((st : Nat) : Int))), .int (iI (cc)), .int (iI (bc)), .ref mco, .ref mfl, .ref mba, .ref mdu, .long (lI (pot)), .long (lI (gr)), .long (lI (bk)), .int (iI (btw)), .int (iI (bhd))])), (mba, .inl (k4 1, 6, .inr (.inl (fun i9 => lI (BA i9))))), (mdu, .inl (k4 1, 6, .inr (.inl (fun i9 => lI (DU i9)))))]) (v := if iu = 0 then BA m else DU m) E hr hlocks G dX5_account_47 (by omega) (by omega) (zx0 rfl) ⟨rfl, rfl⟩

def q_c_X5_account_0 (k4 : Nat → ClassId) (mo mnw mte mge mus mco mfl mba mdu : Nat) (th : Int) (n p st : Nat) (cc bc pot gr bk btw bhd : Int) (m iu : Int) : Option Value → va_W → Prop := (fun (v9 : Option Value) (w9 : va_W) => v9 = some (.long (lI (0))) ∧ w9 = [(mo, .inr (5, [.int (iI (1)), .int (iI (((n : Nat) : Int))), .ref mnw, .ref mte, .ref mge, .ref mus, .int (iI (((p : Nat) : Int))), .int (iI (((st : Nat) : Int))), .int (iI (cc)), .int (iI (bc)), .ref mco, .ref mfl, .ref mba, .ref mdu, .long (lI (pot)), .long (lI (gr)), .long (lI (bk)), .int (iI (btw)), .int (iI (bhd))]))])
set_option maxHeartbeats 4000000 in
set_option maxRecDepth 100000 in
theorem c_X5_account_0 (l : Launch) (D : va_G) (k4 : Nat → ClassId) (mo mnw mte mge mus mco mfl mba mdu : Nat) (th : Int) (n p st : Nat) (cc bc pot gr bk btw bhd : Int) (m iu : Int) (hn : n ≤ 6) (hm : (-2147483648 ≤ m ∧ m ≤ 2147483647) ∧ (m < 0 ∨ (n : Int) ≤ m)) : zC l yX5_account (zW yX5_account cX5_account 3 (some .long)) ({ frames := 2, cells := 0, slots := 0, locals := 46 } : Room) D k4 [.ref mo, .int (iI (m)), .int (iI (iu))] [(mo, .inr (5, [.int (iI (th)), .int (iI (((n : Nat) : Int))), .ref mnw, .ref mte, .ref mge, .ref mus, .int (iI (((p : Nat) : Int))), .int (iI (((st : Nat) : Int))), .int (iI (cc)), .int (iI (bc)), .ref mco, .ref mfl, .ref mba, .ref mdu, .long (lI (pot)), .long (lI (gr)), .long (lI (bk)), .int (iI (btw)), .int (iI (bhd))]))] (0) (0) (q_c_X5_account_0 k4 mo mnw mte mge mus mco mfl mba mdu th n p st cc bc pot gr bk btw bhd m iu) := by
  refine zC_of (cc := cX5_account) (by decide) (Nat.le_of_ble_eq_true rfl) (fun pp ee ss mm bl me co AA H locs ls E hr hlocks hin G hl => ?_)
  have hl : lv_has ls 3 [(0, .ref mo), (1, .int (iI (m))), (2, .int (iI (iu)))] := hl
  refine z_aload_n E hl 0 rfl dX5_account_0 rfl ?_
  refine z_aload_n E hl 0 rfl dX5_account_1 rfl ?_
  refine z_iload_n E hl 1 rfl dX5_account_2 rfl ?_
  refine z_callV E G hl.1 (c_X5_isMemberF l D k4 mo mnw mte mge mus mco mfl mba mdu th n p st cc bc pot gr bk btw bhd m (by omega) ⟨by omega, by omega⟩ hn) kV_X5_55 ⟨rfl, rfl, Nat.le_of_ble_eq_true rfl, Nat.le_of_ble_eq_true rfl⟩ [0] rfl (by decide) 0 5 rfl rfl rfl rfl rfl (Nat.le_of_ble_eq_true rfl) dX5_account_3 ⟨(by first | exact Nat.le_of_ble_eq_true rfl | omega | (show _ ≤ (0); omega)), (by first | exact Nat.le_of_ble_eq_true rfl | omega | (show _ ≤ (0); omega))⟩ (fun v9 w9 H locs hq G => ?_)
  obtain ⟨rfl, rfl⟩ := hq
  refine W.eq (g2 := F0 mm 6 ls [.int (iI (0)), .ref mo]) rfl ?_
  have G : zG D AA ss.heap [(mo, .inr (5, [.int (iI (th)), .int (iI (((n : Nat) : Int))), .ref mnw, .ref mte, .ref mge, .ref mus, .int (iI (((p : Nat) : Int))), .int (iI (((st : Nat) : Int))), .int (iI (cc)), .int (iI (bc)), .ref mco, .ref mfl, .ref mba, .ref mdu, .long (lI (pot)), .long (lI (gr)), .long (lI (bk)), .int (iI (btw)), .int (iI (bhd))]))] H locs := G
  refine z_if_eq (tgt := 13) E dX5_account_6 (by decide) (by decide) (fun c_6 => ?_) (fun c_6 => absurd c_6 (by decide))
  refine z_iconst E dX5_account_13 ?_
  refine kp_X5_35 E G 0 rfl (Nat.le_of_ble_eq_true rfl) dX5_account_14 (fun H locs G => ?_)
  have G : zG D AA ss.heap [(mo, .inr (5, [.int (iI (1)), .int (iI (((n : Nat) : Int))), .ref mnw, .ref mte, .ref mge, .ref mus, .int (iI (((p : Nat) : Int))), .int (iI (((st : Nat) : Int))), .int (iI (cc)), .int (iI (bc)), .ref mco, .ref mfl, .ref mba, .ref mdu, .long (lI (pot)), .long (lI (gr)), .long (lI (bk)), .int (iI (btw)), .int (iI (bhd))]))] H locs := G
  refine z_aload_n E hl 0 rfl dX5_account_17 rfl ?_
  refine kg_X5_35 E G 0 rfl rfl dX5_account_18 ?_
  refine z_if_eq (tgt := 28) E dX5_account_21 (by decide) (by decide) (fun c_21 => absurd c_21 (by decide)) (fun c_21 => ?_)
  refine z_lconst E (z := 0) dX5_account_24 (by decide) ?_
  refine z_goto (tgt := 47) E dX5_account_25 (by decide) ?_
  exact z_lret (w' := [(mo, .inr (5, [.int (iI (1)), .int (iI (((n : Nat) : Int))), .ref mnw, .ref mte, .ref mge, .ref mus, .int (iI (((p : Nat) : Int))), .int (iI (((st : Nat) : Int))), .int (iI (cc)), .int (iI (bc)), .ref mco, .ref mfl, .ref mba, .ref mdu, .long (lI (pot)), .long (lI (gr)), .long (lI (bk)), .int (iI (btw)), .int (iI (bhd))]))]) (v := 0) E hr hlocks G dX5_account_47 (by omega) (by omega) (zx0 rfl) ⟨rfl, rfl⟩

def q_c_X5_common (k4 : Nat → ClassId) (mo mnw mte mge mus mco mfl mba mdu : Nat) (th : Int) (n p st : Nat) (cc bc pot gr bk btw bhd : Int) (w : Int) : Option Value → va_W → Prop := (fun (v9 : Option Value) (w9 : va_W) => v9 = some (.long (lI (if w = 0 then pot else if w = 1 then gr else bk))) ∧ w9 = [(mo, .inr (5, [.int (iI (0)), .int (iI (((n : Nat) : Int))), .ref mnw, .ref mte, .ref mge, .ref mus, .int (iI (((p : Nat) : Int))), .int (iI (((st : Nat) : Int))), .int (iI (cc)), .int (iI (bc)), .ref mco, .ref mfl, .ref mba, .ref mdu, .long (lI (pot)), .long (lI (gr)), .long (lI (bk)), .int (iI (btw)), .int (iI (bhd))]))])
set_option maxHeartbeats 4000000 in
set_option maxRecDepth 100000 in
theorem c_X5_common (l : Launch) (D : va_G) (k4 : Nat → ClassId) (mo mnw mte mge mus mco mfl mba mdu : Nat) (th : Int) (n p st : Nat) (cc bc pot gr bk btw bhd : Int) (w : Int) (hn : n ≤ 6) (hw : 0 ≤ w ∧ w < 3) : zC l yX5_common (zW yX5_common cX5_common 2 (some .long)) ({ frames := 1, cells := 0, slots := 0, locals := 25 } : Room) D k4 [.ref mo, .int (iI (w))] [(mo, .inr (5, [.int (iI (th)), .int (iI (((n : Nat) : Int))), .ref mnw, .ref mte, .ref mge, .ref mus, .int (iI (((p : Nat) : Int))), .int (iI (((st : Nat) : Int))), .int (iI (cc)), .int (iI (bc)), .ref mco, .ref mfl, .ref mba, .ref mdu, .long (lI (pot)), .long (lI (gr)), .long (lI (bk)), .int (iI (btw)), .int (iI (bhd))]))] (0) (0) (q_c_X5_common k4 mo mnw mte mge mus mco mfl mba mdu th n p st cc bc pot gr bk btw bhd w) := by
  refine zC_of (cc := cX5_common) (by decide) (Nat.le_of_ble_eq_true rfl) (fun pp ee ss mm bl me co AA H locs ls E hr hlocks hin G hl => ?_)
  have hl : lv_has ls 2 [(0, .ref mo), (1, .int (iI (w)))] := hl
  refine z_aload_n E hl 0 rfl dX5_common_0 rfl ?_
  refine z_iload_n E hl 1 rfl dX5_common_1 rfl ?_
  refine z_i2l E dX5_common_2 ⟨by omega, by omega⟩ ?_
  refine z_lconst E (z := 0) dX5_common_3 (by decide) ?_
  refine z_ldc2 E (n := (2)) zw_582 (by decide +kernel) dX5_common_4 ?_
  refine z_callS E G hl.1 (c_X5_isIn l D k4 w 0 2 (by omega) ⟨⟨by omega, by omega⟩, ⟨by omega, by omega⟩, ⟨by omega, by omega⟩⟩) kS_X5_42 ⟨rfl, rfl, Nat.le_of_ble_eq_true rfl, Nat.le_of_ble_eq_true rfl⟩ [] rfl (by decide) rfl rfl (Nat.le_of_ble_eq_true rfl) dX5_common_7 ⟨(by first | exact Nat.le_of_ble_eq_true rfl | omega | (show _ ≤ (0); omega)), (by first | exact Nat.le_of_ble_eq_true rfl | omega | (show _ ≤ (0); omega))⟩ (fun v9 w9 H locs hq G => ?_)
  obtain ⟨rfl, rfl⟩ := hq
  refine W.eq (g2 := F0 mm 10 ls [.int (iI (1)), .ref mo]) rfl ?_
  have G : zG D AA ss.heap [(mo, .inr (5, [.int (iI (th)), .int (iI (((n : Nat) : Int))), .ref mnw, .ref mte, .ref mge, .ref mus, .int (iI (((p : Nat) : Int))), .int (iI (((st : Nat) : Int))), .int (iI (cc)), .int (iI (bc)), .ref mco, .ref mfl, .ref mba, .ref mdu, .long (lI (pot)), .long (lI (gr)), .long (lI (bk)), .int (iI (btw)), .int (iI (bhd))]))] H locs := G
  refine z_if_eq (tgt := 17) E dX5_common_10 (by decide) (by decide) (fun c_10 => absurd c_10 (by decide)) (fun c_10 => ?_)
  refine z_iconst E dX5_common_13 ?_
  refine z_goto (tgt := 18) E dX5_common_14 (by decide) ?_
  refine kp_X5_35 E G 0 rfl (Nat.le_of_ble_eq_true rfl) dX5_common_18 (fun H locs G => ?_)
  have G : zG D AA ss.heap [(mo, .inr (5, [.int (iI (0)), .int (iI (((n : Nat) : Int))), .ref mnw, .ref mte, .ref mge, .ref mus, .int (iI (((p : Nat) : Int))), .int (iI (((st : Nat) : Int))), .int (iI (cc)), .int (iI (bc)), .ref mco, .ref mfl, .ref mba, .ref mdu, .long (lI (pot)), .long (lI (gr)), .long (lI (bk)), .int (iI (btw)), .int (iI (bhd))]))] H locs := G
  refine z_aload_n E hl 0 rfl dX5_common_21 rfl ?_
  refine kg_X5_35 E G 0 rfl rfl dX5_common_22 ?_
  refine z_if_eq (tgt := 32) E dX5_common_25 (by decide) (by decide) (fun c_25 => ?_) (fun c_25 => absurd c_25 (by decide))
  refine z_iload_n E hl 1 rfl dX5_common_32 rfl ?_
  refine z_if_ne (tgt := 43) E dX5_common_33 (by decide) ⟨by omega, by omega⟩ (fun c_33 => ?_) (fun c_33 => ?_)
  · skip
    refine z_iload_n E hl 1 rfl dX5_common_43 rfl ?_
    refine z_iconst E dX5_common_44 ?_
    refine z_icmp_ne (tgt := 55) E dX5_common_45 (by decide) ⟨by omega, by omega⟩ (by decide) (fun c_45 => ?_) (fun c_45 => ?_)
    · skip
      refine z_aload_n E hl 0 rfl dX5_common_55 rfl ?_
      refine kg_X5_171 E G 0 rfl rfl dX5_common_56 ?_
      refine z_eql (y := if w = 0 then pot else if w = 1 then gr else bk) (by rw [if_neg (by omega), if_neg (by omega)]) ?_
      exact z_lret (w' := [(mo, .inr (5, [.int (iI (0)), .int (iI (((n : Nat) : Int))), .ref mnw, .ref mte, .ref mge, .ref mus, .int (iI (((p : Nat) : Int))), .int (iI (((st : Nat) : Int))), .int (iI (cc)), .int (iI (bc)), .ref mco, .ref mfl, .ref mba, .ref mdu, .long (lI (pot)), .long (lI (gr)), .long (lI (bk)), .int (iI (btw)), .int (iI (bhd))]))]) (v := if w = 0 then pot else if w = 1 then gr else bk) E hr hlocks G dX5_common_59 (by omega) (by omega) (zx0 rfl) ⟨rfl, rfl⟩
    · skip
      refine z_aload_n E hl 0 rfl dX5_common_48 rfl ?_
      refine kg_X5_136 E G 0 rfl rfl dX5_common_49 ?_
      refine z_goto (tgt := 59) E dX5_common_52 (by decide) ?_
      refine z_eql (y := if w = 0 then pot else if w = 1 then gr else bk) (by rw [if_neg (by omega), if_pos (by omega)]) ?_
      exact z_lret (w' := [(mo, .inr (5, [.int (iI (0)), .int (iI (((n : Nat) : Int))), .ref mnw, .ref mte, .ref mge, .ref mus, .int (iI (((p : Nat) : Int))), .int (iI (((st : Nat) : Int))), .int (iI (cc)), .int (iI (bc)), .ref mco, .ref mfl, .ref mba, .ref mdu, .long (lI (pot)), .long (lI (gr)), .long (lI (bk)), .int (iI (btw)), .int (iI (bhd))]))]) (v := if w = 0 then pot else if w = 1 then gr else bk) E hr hlocks G dX5_common_59 (by omega) (by omega) (zx0 rfl) ⟨rfl, rfl⟩
  · skip
    refine z_aload_n E hl 0 rfl dX5_common_36 rfl ?_
    refine kg_X5_132 E G 0 rfl rfl dX5_common_37 ?_
    refine z_goto (tgt := 59) E dX5_common_40 (by decide) ?_
    refine z_eql (y := if w = 0 then pot else if w = 1 then gr else bk) (by rw [if_pos (by omega)]) ?_
    exact z_lret (w' := [(mo, .inr (5, [.int (iI (0)), .int (iI (((n : Nat) : Int))), .ref mnw, .ref mte, .ref mge, .ref mus, .int (iI (((p : Nat) : Int))), .int (iI (((st : Nat) : Int))), .int (iI (cc)), .int (iI (bc)), .ref mco, .ref mfl, .ref mba, .ref mdu, .long (lI (pot)), .long (lI (gr)), .long (lI (bk)), .int (iI (btw)), .int (iI (bhd))]))]) (v := if w = 0 then pot else if w = 1 then gr else bk) E hr hlocks G dX5_common_59 (by omega) (by omega) (zx0 rfl) ⟨rfl, rfl⟩

def q_c_X5_common_0 (k4 : Nat → ClassId) (mo mnw mte mge mus mco mfl mba mdu : Nat) (th : Int) (n p st : Nat) (cc bc pot gr bk btw bhd : Int) (w : Int) : Option Value → va_W → Prop := (fun (v9 : Option Value) (w9 : va_W) => v9 = some (.long (lI (0))) ∧ w9 = [(mo, .inr (5, [.int (iI (1)), .int (iI (((n : Nat) : Int))), .ref mnw, .ref mte, .ref mge, .ref mus, .int (iI (((p : Nat) : Int))), .int (iI (((st : Nat) : Int))), .int (iI (cc)), .int (iI (bc)), .ref mco, .ref mfl, .ref mba, .ref mdu, .long (lI (pot)), .long (lI (gr)), .long (lI (bk)), .int (iI (btw)), .int (iI (bhd))]))])
set_option maxHeartbeats 4000000 in
set_option maxRecDepth 100000 in
theorem c_X5_common_0 (l : Launch) (D : va_G) (k4 : Nat → ClassId) (mo mnw mte mge mus mco mfl mba mdu : Nat) (th : Int) (n p st : Nat) (cc bc pot gr bk btw bhd : Int) (w : Int) (hn : n ≤ 6) (hw : (-2147483648 ≤ w ∧ w ≤ 2147483647) ∧ (w < 0 ∨ 2 < w)) : zC l yX5_common (zW yX5_common cX5_common 2 (some .long)) ({ frames := 1, cells := 0, slots := 0, locals := 25 } : Room) D k4 [.ref mo, .int (iI (w))] [(mo, .inr (5, [.int (iI (th)), .int (iI (((n : Nat) : Int))), .ref mnw, .ref mte, .ref mge, .ref mus, .int (iI (((p : Nat) : Int))), .int (iI (((st : Nat) : Int))), .int (iI (cc)), .int (iI (bc)), .ref mco, .ref mfl, .ref mba, .ref mdu, .long (lI (pot)), .long (lI (gr)), .long (lI (bk)), .int (iI (btw)), .int (iI (bhd))]))] (0) (0) (q_c_X5_common_0 k4 mo mnw mte mge mus mco mfl mba mdu th n p st cc bc pot gr bk btw bhd w) := by
  refine zC_of (cc := cX5_common) (by decide) (Nat.le_of_ble_eq_true rfl) (fun pp ee ss mm bl me co AA H locs ls E hr hlocks hin G hl => ?_)
  have hl : lv_has ls 2 [(0, .ref mo), (1, .int (iI (w)))] := hl
  refine z_aload_n E hl 0 rfl dX5_common_0 rfl ?_
  refine z_iload_n E hl 1 rfl dX5_common_1 rfl ?_
  refine z_i2l E dX5_common_2 ⟨by omega, by omega⟩ ?_
  refine z_lconst E (z := 0) dX5_common_3 (by decide) ?_
  refine z_ldc2 E (n := (2)) zw_582 (by decide +kernel) dX5_common_4 ?_
  refine z_callS E G hl.1 (c_X5_isInF l D k4 w 0 2 (by omega) ⟨⟨by omega, by omega⟩, ⟨by omega, by omega⟩, ⟨by omega, by omega⟩⟩) kS_X5_42 ⟨rfl, rfl, Nat.le_of_ble_eq_true rfl, Nat.le_of_ble_eq_true rfl⟩ [] rfl (by decide) rfl rfl (Nat.le_of_ble_eq_true rfl) dX5_common_7 ⟨(by first | exact Nat.le_of_ble_eq_true rfl | omega | (show _ ≤ (0); omega)), (by first | exact Nat.le_of_ble_eq_true rfl | omega | (show _ ≤ (0); omega))⟩ (fun v9 w9 H locs hq G => ?_)
  obtain ⟨rfl, rfl⟩ := hq
  refine W.eq (g2 := F0 mm 10 ls [.int (iI (0)), .ref mo]) rfl ?_
  have G : zG D AA ss.heap [(mo, .inr (5, [.int (iI (th)), .int (iI (((n : Nat) : Int))), .ref mnw, .ref mte, .ref mge, .ref mus, .int (iI (((p : Nat) : Int))), .int (iI (((st : Nat) : Int))), .int (iI (cc)), .int (iI (bc)), .ref mco, .ref mfl, .ref mba, .ref mdu, .long (lI (pot)), .long (lI (gr)), .long (lI (bk)), .int (iI (btw)), .int (iI (bhd))]))] H locs := G
  refine z_if_eq (tgt := 17) E dX5_common_10 (by decide) (by decide) (fun c_10 => ?_) (fun c_10 => absurd c_10 (by decide))
  refine z_iconst E dX5_common_17 ?_
  refine kp_X5_35 E G 0 rfl (Nat.le_of_ble_eq_true rfl) dX5_common_18 (fun H locs G => ?_)
  have G : zG D AA ss.heap [(mo, .inr (5, [.int (iI (1)), .int (iI (((n : Nat) : Int))), .ref mnw, .ref mte, .ref mge, .ref mus, .int (iI (((p : Nat) : Int))), .int (iI (((st : Nat) : Int))), .int (iI (cc)), .int (iI (bc)), .ref mco, .ref mfl, .ref mba, .ref mdu, .long (lI (pot)), .long (lI (gr)), .long (lI (bk)), .int (iI (btw)), .int (iI (bhd))]))] H locs := G
  refine z_aload_n E hl 0 rfl dX5_common_21 rfl ?_
  refine kg_X5_35 E G 0 rfl rfl dX5_common_22 ?_
  refine z_if_eq (tgt := 32) E dX5_common_25 (by decide) (by decide) (fun c_25 => absurd c_25 (by decide)) (fun c_25 => ?_)
  refine z_lconst E (z := 0) dX5_common_28 (by decide) ?_
  refine z_goto (tgt := 59) E dX5_common_29 (by decide) ?_
  exact z_lret (w' := [(mo, .inr (5, [.int (iI (1)), .int (iI (((n : Nat) : Int))), .ref mnw, .ref mte, .ref mge, .ref mus, .int (iI (((p : Nat) : Int))), .int (iI (((st : Nat) : Int))), .int (iI (cc)), .int (iI (bc)), .ref mco, .ref mfl, .ref mba, .ref mdu, .long (lI (pot)), .long (lI (gr)), .long (lI (bk)), .int (iI (btw)), .int (iI (bhd))]))]) (v := 0) E hr hlocks G dX5_common_59 (by omega) (by omega) (zx0 rfl) ⟨rfl, rfl⟩

def q_c_X5_pay (k4 : Nat → ClassId) (mo mnw mte mge mus mco mfl mba mdu : Nat) (th : Int) (n p st : Nat) (cc bc pot gr bk btw bhd : Int) (m : Nat) (a : Int) (DU : Nat → Int) : Option Value → va_W → Prop := (fun (v9 : Option Value) (w9 : va_W) => v9 = some (.long (lI (DU m + a))) ∧ w9 = [(mo, .inr (5, [.int (iI (0)), .int (iI (((n : Nat) : Int))), .ref mnw, .ref mte, .ref mge, .ref mus, .int (iI (((p : Nat) : Int))), .int (iI (((st : Nat) : Int))), .int (iI (cc)), .int (iI (bc)), .ref mco, .ref mfl, .ref mba, .ref mdu, .long (lI (pot)), .long (lI (gr)), .long (lI (bk - a)), .int (iI (btw)), .int (iI (bhd))])), (mdu, .inl (k4 1, 6, .inr (.inl (fun i9 => lI ((up DU m (DU m + a)) i9)))))])
set_option maxHeartbeats 4000000 in
set_option maxRecDepth 100000 in
theorem c_X5_pay (l : Launch) (D : va_G) (k4 : Nat → ClassId) (mo mnw mte mge mus mco mfl mba mdu : Nat) (th : Int) (n p st : Nat) (cc bc pot gr bk btw bhd : Int) (m : Nat) (a : Int) (DU : Nat → Int) (hn : n ≤ 6) (hm : m < n) (ha : -1000000 ≤ a ∧ a ≤ 1000000) (ha0 : a ≠ 0) : zC l yX5_pay (zW yX5_pay cX5_pay 3 (some .long)) ({ frames := 2, cells := 0, slots := 0, locals := 46 } : Room) D k4 [.ref mo, .int (iI (((m : Nat) : Int))), .int (iI (a))] [(mo, .inr (5, [.int (iI (th)), .int (iI (((n : Nat) : Int))), .ref mnw, .ref mte, .ref mge, .ref mus, .int (iI (((p : Nat) : Int))), .int (iI (((st : Nat) : Int))), .int (iI (cc)), .int (iI (bc)), .ref mco, .ref mfl, .ref mba, .ref mdu, .long (lI (pot)), .long (lI (gr)), .long (lI (bk)), .int (iI (btw)), .int (iI (bhd))])), (mdu, .inl (k4 1, 6, .inr (.inl (fun i9 => lI (DU i9)))))] (0) (0) (q_c_X5_pay k4 mo mnw mte mge mus mco mfl mba mdu th n p st cc bc pot gr bk btw bhd m a DU) := by
  refine zC_of (cc := cX5_pay) (by decide) (Nat.le_of_ble_eq_true rfl) (fun pp ee ss mm bl me co AA H locs ls E hr hlocks hin G hl => ?_)
  have hl : lv_has ls 3 [(0, .ref mo), (1, .int (iI (((m : Nat) : Int)))), (2, .int (iI (a)))] := hl
  refine z_aload_n E hl 0 rfl dX5_pay_0 rfl ?_
  refine z_aload_n E hl 0 rfl dX5_pay_1 rfl ?_
  refine z_iload_n E hl 1 rfl dX5_pay_2 rfl ?_
  refine z_callV E G hl.1 (c_X5_isMember l D k4 mo mnw mte mge mus mco mfl mba mdu th n p st cc bc pot gr bk btw bhd (((m : Nat) : Int)) (by omega) ⟨by omega, by omega⟩ hn) kV_X5_55 ⟨rfl, rfl, Nat.le_of_ble_eq_true rfl, Nat.le_of_ble_eq_true rfl⟩ [0] rfl (by decide) 0 5 rfl rfl rfl rfl rfl (Nat.le_of_ble_eq_true rfl) dX5_pay_3 ⟨(by first | exact Nat.le_of_ble_eq_true rfl | omega | (show _ ≤ (0); omega)), (by first | exact Nat.le_of_ble_eq_true rfl | omega | (show _ ≤ (0); omega))⟩ (fun v9 w9 H locs hq G => ?_)
  obtain ⟨rfl, rfl⟩ := hq
  refine W.eq (g2 := F0 mm 6 ls [.int (iI (1)), .ref mo]) rfl ?_
  have G : zG D AA ss.heap [(mo, .inr (5, [.int (iI (th)), .int (iI (((n : Nat) : Int))), .ref mnw, .ref mte, .ref mge, .ref mus, .int (iI (((p : Nat) : Int))), .int (iI (((st : Nat) : Int))), .int (iI (cc)), .int (iI (bc)), .ref mco, .ref mfl, .ref mba, .ref mdu, .long (lI (pot)), .long (lI (gr)), .long (lI (bk)), .int (iI (btw)), .int (iI (bhd))])), (mdu, .inl (k4 1, 6, .inr (.inl (fun i9 => lI (DU i9)))))] H locs := G
  refine z_if_ne (tgt := 13) E dX5_pay_6 (by decide) (by decide) (fun c_6 => ?_) (fun c_6 => absurd c_6 (by decide))
  refine z_iload_n E hl 2 rfl dX5_pay_13 rfl ?_
  refine z_if_eq (tgt := 31) E dX5_pay_14 (by decide) ⟨by omega, by omega⟩ (fun c_14 => absurd c_14 (by omega)) (fun c_14 => ?_)
  refine z_iload_n E hl 2 rfl dX5_pay_17 rfl ?_
  refine z_i2l E dX5_pay_18 ⟨by omega, by omega⟩ ?_
  refine z_ldc2 E (n := (-1000000)) zw_609 (by decide +kernel) dX5_pay_19 ?_
  refine z_ldc2 E (n := (1000000)) zw_610 (by decide +kernel) dX5_pay_22 ?_
  refine z_callS E G hl.1 (c_X5_isIn l D k4 a (-1000000) 1000000 (by omega) ⟨⟨by omega, by omega⟩, ⟨by omega, by omega⟩, ⟨by omega, by omega⟩⟩) kS_X5_42 ⟨rfl, rfl, Nat.le_of_ble_eq_true rfl, Nat.le_of_ble_eq_true rfl⟩ [] rfl (by decide) rfl rfl (Nat.le_of_ble_eq_true rfl) dX5_pay_25 ⟨(by first | exact Nat.le_of_ble_eq_true rfl | omega | (show _ ≤ (0); omega)), (by first | exact Nat.le_of_ble_eq_true rfl | omega | (show _ ≤ (0); omega))⟩ (fun v9 w9 H locs hq G => ?_)
  obtain ⟨rfl, rfl⟩ := hq
  refine W.eq (g2 := F0 mm 28 ls [.int (iI (1)), .ref mo]) rfl ?_
  have G : zG D AA ss.heap [(mo, .inr (5, [.int (iI (th)), .int (iI (((n : Nat) : Int))), .ref mnw, .ref mte, .ref mge, .ref mus, .int (iI (((p : Nat) : Int))), .int (iI (((st : Nat) : Int))), .int (iI (cc)), .int (iI (bc)), .ref mco, .ref mfl, .ref mba, .ref mdu, .long (lI (pot)), .long (lI (gr)), .long (lI (bk)), .int (iI (btw)), .int (iI (bhd))])), (mdu, .inl (k4 1, 6, .inr (.inl (fun i9 => lI (DU i9)))))] H locs := G
  refine z_if_ne (tgt := 35) E dX5_pay_28 (by decide) (by decide) (fun c_28 => ?_) (fun c_28 => absurd c_28 (by decide))
  refine z_iconst E dX5_pay_35 ?_
  refine kp_X5_35 E G 0 rfl (Nat.le_of_ble_eq_true rfl) dX5_pay_36 (fun H locs G => ?_)
  have G : zG D AA ss.heap [(mo, .inr (5, [.int (iI (0)), .int (iI (((n : Nat) : Int))), .ref mnw, .ref mte, .ref mge, .ref mus, .int (iI (((p : Nat) : Int))), .int (iI (((st : Nat) : Int))), .int (iI (cc)), .int (iI (bc)), .ref mco, .ref mfl, .ref mba, .ref mdu, .long (lI (pot)), .long (lI (gr)), .long (lI (bk)), .int (iI (btw)), .int (iI (bhd))])), (mdu, .inl (k4 1, 6, .inr (.inl (fun i9 => lI (DU i9)))))] H locs := G
  refine z_aload_n E hl 0 rfl dX5_pay_39 rfl ?_
  refine kg_X5_35 E G 0 rfl rfl dX5_pay_40 ?_
  refine z_if_eq (tgt := 48) E dX5_pay_43 (by decide) (by decide) (fun c_43 => ?_) (fun c_43 => absurd c_43 (by decide))
  refine z_aload_n E hl 0 rfl dX5_pay_48 rfl ?_
  refine kg_X5_32 E G 0 rfl rfl dX5_pay_49 ?_
  refine z_iload_n E hl 1 rfl dX5_pay_52 rfl ?_
  refine lv_dup2_11 E.1 E.2.1 dX5_pay_53 rfl rfl ?_
  refine z_lald E G 1 rfl (m) rfl (by omega) (by decide) dX5_pay_54 ?_
  refine z_iload_n E hl 2 rfl dX5_pay_55 rfl ?_
  refine z_i2l E dX5_pay_56 ⟨by omega, by omega⟩ ?_
  refine z_ladd E dX5_pay_57 ?_
  refine z_last E G 1 rfl (m) rfl (by omega) (by decide) dX5_pay_58 (fun H locs G => ?_)
  have G : zG D AA ss.heap [(mo, .inr (5, [.int (iI (0)), .int (iI (((n : Nat) : Int))), .ref mnw, .ref mte, .ref mge, .ref mus, .int (iI (((p : Nat) : Int))), .int (iI (((st : Nat) : Int))), .int (iI (cc)), .int (iI (bc)), .ref mco, .ref mfl, .ref mba, .ref mdu, .long (lI (pot)), .long (lI (gr)), .long (lI (bk)), .int (iI (btw)), .int (iI (bhd))])), (mdu, .inl (k4 1, 6, .inr (.inl (fun i9 => lI ((up DU (m) ((DU m) + (a))) i9)))))] H locs := G
  refine z_aload_n E hl 0 rfl dX5_pay_59 rfl ?_
  refine z_dup E dX5_pay_60 rfl ?_
  refine kg_X5_171 E G 0 rfl rfl dX5_pay_61 ?_
  refine z_iload_n E hl 2 rfl dX5_pay_64 rfl ?_
  refine z_i2l E dX5_pay_65 ⟨by omega, by omega⟩ ?_
  refine z_lsub E dX5_pay_66 ?_
  refine kp_X5_171 E G 0 rfl (Nat.le_of_ble_eq_true rfl) dX5_pay_67 (fun H locs G => ?_)
  have G : zG D AA ss.heap [(mo, .inr (5, [.int (iI (0)), .int (iI (((n : Nat) : Int))), .ref mnw, .ref mte, .ref mge, .ref mus, .int (iI (((p : Nat) : Int))), .int (iI (((st : Nat) : Int))), .int (iI (cc)), .int (iI (bc)), .ref mco, .ref mfl, .ref mba, .ref mdu, .long (lI (pot)), .long (lI (gr)), .long (lI ((bk) - (a))), .int (iI (btw)), .int (iI (bhd))])), (mdu, .inl (k4 1, 6, .inr (.inl (fun i9 => lI ((up DU (m) ((DU m) + (a))) i9)))))] H locs := G
  refine z_aload_n E hl 0 rfl dX5_pay_70 rfl ?_
  refine kg_X5_32 E G 0 rfl rfl dX5_pay_71 ?_
  refine z_iload_n E hl 1 rfl dX5_pay_74 rfl ?_
  refine z_lald E G 1 rfl (m) rfl (by omega) (by decide) dX5_pay_75 ?_
  refine z_eql (y := DU m + a) up_s ?_
  exact z_lret (w' := [(mo, .inr (5, [.int (iI (0)), .int (iI (((n : Nat) : Int))), .ref mnw, .ref mte, .ref mge, .ref mus, .int (iI (((p : Nat) : Int))), .int (iI (((st : Nat) : Int))), .int (iI (cc)), .int (iI (bc)), .ref mco, .ref mfl, .ref mba, .ref mdu, .long (lI (pot)), .long (lI (gr)), .long (lI ((bk) - (a))), .int (iI (btw)), .int (iI (bhd))])), (mdu, .inl (k4 1, 6, .inr (.inl (fun i9 => lI ((up DU (m) ((DU m) + (a))) i9)))))]) (v := DU m + a) E hr hlocks G dX5_pay_76 (by omega) (by omega) (zx0 rfl) ⟨rfl, rfl⟩

def q_c_X5_pay_0 (k4 : Nat → ClassId) (mo mnw mte mge mus mco mfl mba mdu : Nat) (th : Int) (n p st : Nat) (cc bc pot gr bk btw bhd : Int) (m a : Int) : Option Value → va_W → Prop := (fun (v9 : Option Value) (w9 : va_W) => v9 = some (.long (lI (0))) ∧ w9 = [(mo, .inr (5, [.int (iI (1)), .int (iI (((n : Nat) : Int))), .ref mnw, .ref mte, .ref mge, .ref mus, .int (iI (((p : Nat) : Int))), .int (iI (((st : Nat) : Int))), .int (iI (cc)), .int (iI (bc)), .ref mco, .ref mfl, .ref mba, .ref mdu, .long (lI (pot)), .long (lI (gr)), .long (lI (bk)), .int (iI (btw)), .int (iI (bhd))]))])
set_option maxHeartbeats 4000000 in
set_option maxRecDepth 100000 in
theorem c_X5_pay_0 (l : Launch) (D : va_G) (k4 : Nat → ClassId) (mo mnw mte mge mus mco mfl mba mdu : Nat) (th : Int) (n p st : Nat) (cc bc pot gr bk btw bhd : Int) (m a : Int) (hn : n ≤ 6) (hm : (-2147483648 ≤ m ∧ m ≤ 2147483647) ∧ (m < 0 ∨ (n : Int) ≤ m)) : zC l yX5_pay (zW yX5_pay cX5_pay 3 (some .long)) ({ frames := 2, cells := 0, slots := 0, locals := 46 } : Room) D k4 [.ref mo, .int (iI (m)), .int (iI (a))] [(mo, .inr (5, [.int (iI (th)), .int (iI (((n : Nat) : Int))), .ref mnw, .ref mte, .ref mge, .ref mus, .int (iI (((p : Nat) : Int))), .int (iI (((st : Nat) : Int))), .int (iI (cc)), .int (iI (bc)), .ref mco, .ref mfl, .ref mba, .ref mdu, .long (lI (pot)), .long (lI (gr)), .long (lI (bk)), .int (iI (btw)), .int (iI (bhd))]))] (0) (0) (q_c_X5_pay_0 k4 mo mnw mte mge mus mco mfl mba mdu th n p st cc bc pot gr bk btw bhd m a) := by
  refine zC_of (cc := cX5_pay) (by decide) (Nat.le_of_ble_eq_true rfl) (fun pp ee ss mm bl me co AA H locs ls E hr hlocks hin G hl => ?_)
  have hl : lv_has ls 3 [(0, .ref mo), (1, .int (iI (m))), (2, .int (iI (a)))] := hl
  refine z_aload_n E hl 0 rfl dX5_pay_0 rfl ?_
  refine z_aload_n E hl 0 rfl dX5_pay_1 rfl ?_
  refine z_iload_n E hl 1 rfl dX5_pay_2 rfl ?_
  refine z_callV E G hl.1 (c_X5_isMemberF l D k4 mo mnw mte mge mus mco mfl mba mdu th n p st cc bc pot gr bk btw bhd m (by omega) ⟨by omega, by omega⟩ hn) kV_X5_55 ⟨rfl, rfl, Nat.le_of_ble_eq_true rfl, Nat.le_of_ble_eq_true rfl⟩ [0] rfl (by decide) 0 5 rfl rfl rfl rfl rfl (Nat.le_of_ble_eq_true rfl) dX5_pay_3 ⟨(by first | exact Nat.le_of_ble_eq_true rfl | omega | (show _ ≤ (0); omega)), (by first | exact Nat.le_of_ble_eq_true rfl | omega | (show _ ≤ (0); omega))⟩ (fun v9 w9 H locs hq G => ?_)
  obtain ⟨rfl, rfl⟩ := hq
  refine W.eq (g2 := F0 mm 6 ls [.int (iI (0)), .ref mo]) rfl ?_
  have G : zG D AA ss.heap [(mo, .inr (5, [.int (iI (th)), .int (iI (((n : Nat) : Int))), .ref mnw, .ref mte, .ref mge, .ref mus, .int (iI (((p : Nat) : Int))), .int (iI (((st : Nat) : Int))), .int (iI (cc)), .int (iI (bc)), .ref mco, .ref mfl, .ref mba, .ref mdu, .long (lI (pot)), .long (lI (gr)), .long (lI (bk)), .int (iI (btw)), .int (iI (bhd))]))] H locs := G
  refine z_if_ne (tgt := 13) E dX5_pay_6 (by decide) (by decide) (fun c_6 => absurd c_6 (by decide)) (fun c_6 => ?_)
  refine z_iconst E dX5_pay_9 ?_
  refine z_goto (tgt := 36) E dX5_pay_10 (by decide) ?_
  refine kp_X5_35 E G 0 rfl (Nat.le_of_ble_eq_true rfl) dX5_pay_36 (fun H locs G => ?_)
  have G : zG D AA ss.heap [(mo, .inr (5, [.int (iI (1)), .int (iI (((n : Nat) : Int))), .ref mnw, .ref mte, .ref mge, .ref mus, .int (iI (((p : Nat) : Int))), .int (iI (((st : Nat) : Int))), .int (iI (cc)), .int (iI (bc)), .ref mco, .ref mfl, .ref mba, .ref mdu, .long (lI (pot)), .long (lI (gr)), .long (lI (bk)), .int (iI (btw)), .int (iI (bhd))]))] H locs := G
  refine z_aload_n E hl 0 rfl dX5_pay_39 rfl ?_
  refine kg_X5_35 E G 0 rfl rfl dX5_pay_40 ?_
  refine z_if_eq (tgt := 48) E dX5_pay_43 (by decide) (by decide) (fun c_43 => absurd c_43 (by decide)) (fun c_43 => ?_)
  refine z_lconst E (z := 0) dX5_pay_46 (by decide) ?_
  exact z_lret (w' := [(mo, .inr (5, [.int (iI (1)), .int (iI (((n : Nat) : Int))), .ref mnw, .ref mte, .ref mge, .ref mus, .int (iI (((p : Nat) : Int))), .int (iI (((st : Nat) : Int))), .int (iI (cc)), .int (iI (bc)), .ref mco, .ref mfl, .ref mba, .ref mdu, .long (lI (pot)), .long (lI (gr)), .long (lI (bk)), .int (iI (btw)), .int (iI (bhd))]))]) (v := 0) E hr hlocks G dX5_pay_47 (by omega) (by omega) (zx0 rfl) ⟨rfl, rfl⟩

def q_c_X5_pay_1 (k4 : Nat → ClassId) (mo mnw mte mge mus mco mfl mba mdu : Nat) (th : Int) (n p st : Nat) (cc bc pot gr bk btw bhd : Int) (m : Nat) (a : Int) : Option Value → va_W → Prop := (fun (v9 : Option Value) (w9 : va_W) => v9 = some (.long (lI (0))) ∧ w9 = [(mo, .inr (5, [.int (iI (2)), .int (iI (((n : Nat) : Int))), .ref mnw, .ref mte, .ref mge, .ref mus, .int (iI (((p : Nat) : Int))), .int (iI (((st : Nat) : Int))), .int (iI (cc)), .int (iI (bc)), .ref mco, .ref mfl, .ref mba, .ref mdu, .long (lI (pot)), .long (lI (gr)), .long (lI (bk)), .int (iI (btw)), .int (iI (bhd))]))])
set_option maxHeartbeats 4000000 in
set_option maxRecDepth 100000 in
theorem c_X5_pay_1 (l : Launch) (D : va_G) (k4 : Nat → ClassId) (mo mnw mte mge mus mco mfl mba mdu : Nat) (th : Int) (n p st : Nat) (cc bc pot gr bk btw bhd : Int) (m : Nat) (a : Int) (hn : n ≤ 6) (hm : m < n) (ha : (-2147483648 ≤ a ∧ a ≤ 2147483647) ∧ (a < -1000000 ∨ 1000000 < a)) : zC l yX5_pay (zW yX5_pay cX5_pay 3 (some .long)) ({ frames := 2, cells := 0, slots := 0, locals := 46 } : Room) D k4 [.ref mo, .int (iI (((m : Nat) : Int))), .int (iI (a))] [(mo, .inr (5, [.int (iI (th)), .int (iI (((n : Nat) : Int))), .ref mnw, .ref mte, .ref mge, .ref mus, .int (iI (((p : Nat) : Int))), .int (iI (((st : Nat) : Int))), .int (iI (cc)), .int (iI (bc)), .ref mco, .ref mfl, .ref mba, .ref mdu, .long (lI (pot)), .long (lI (gr)), .long (lI (bk)), .int (iI (btw)), .int (iI (bhd))]))] (0) (0) (q_c_X5_pay_1 k4 mo mnw mte mge mus mco mfl mba mdu th n p st cc bc pot gr bk btw bhd m a) := by
  refine zC_of (cc := cX5_pay) (by decide) (Nat.le_of_ble_eq_true rfl) (fun pp ee ss mm bl me co AA H locs ls E hr hlocks hin G hl => ?_)
  have hl : lv_has ls 3 [(0, .ref mo), (1, .int (iI (((m : Nat) : Int)))), (2, .int (iI (a)))] := hl
  refine z_aload_n E hl 0 rfl dX5_pay_0 rfl ?_
  refine z_aload_n E hl 0 rfl dX5_pay_1 rfl ?_
  refine z_iload_n E hl 1 rfl dX5_pay_2 rfl ?_
  refine z_callV E G hl.1 (c_X5_isMember l D k4 mo mnw mte mge mus mco mfl mba mdu th n p st cc bc pot gr bk btw bhd (((m : Nat) : Int)) (by omega) ⟨by omega, by omega⟩ hn) kV_X5_55 ⟨rfl, rfl, Nat.le_of_ble_eq_true rfl, Nat.le_of_ble_eq_true rfl⟩ [0] rfl (by decide) 0 5 rfl rfl rfl rfl rfl (Nat.le_of_ble_eq_true rfl) dX5_pay_3 ⟨(by first | exact Nat.le_of_ble_eq_true rfl | omega | (show _ ≤ (0); omega)), (by first | exact Nat.le_of_ble_eq_true rfl | omega | (show _ ≤ (0); omega))⟩ (fun v9 w9 H locs hq G => ?_)
  obtain ⟨rfl, rfl⟩ := hq
  refine W.eq (g2 := F0 mm 6 ls [.int (iI (1)), .ref mo]) rfl ?_
  have G : zG D AA ss.heap [(mo, .inr (5, [.int (iI (th)), .int (iI (((n : Nat) : Int))), .ref mnw, .ref mte, .ref mge, .ref mus, .int (iI (((p : Nat) : Int))), .int (iI (((st : Nat) : Int))), .int (iI (cc)), .int (iI (bc)), .ref mco, .ref mfl, .ref mba, .ref mdu, .long (lI (pot)), .long (lI (gr)), .long (lI (bk)), .int (iI (btw)), .int (iI (bhd))]))] H locs := G
  refine z_if_ne (tgt := 13) E dX5_pay_6 (by decide) (by decide) (fun c_6 => ?_) (fun c_6 => absurd c_6 (by decide))
  refine z_iload_n E hl 2 rfl dX5_pay_13 rfl ?_
  refine z_if_eq (tgt := 31) E dX5_pay_14 (by decide) ⟨by omega, by omega⟩ (fun c_14 => absurd c_14 (by omega)) (fun c_14 => ?_)
  refine z_iload_n E hl 2 rfl dX5_pay_17 rfl ?_
  refine z_i2l E dX5_pay_18 ⟨by omega, by omega⟩ ?_
  refine z_ldc2 E (n := (-1000000)) zw_609 (by decide +kernel) dX5_pay_19 ?_
  refine z_ldc2 E (n := (1000000)) zw_610 (by decide +kernel) dX5_pay_22 ?_
  refine z_callS E G hl.1 (c_X5_isInF l D k4 a (-1000000) 1000000 (by omega) ⟨⟨by omega, by omega⟩, ⟨by omega, by omega⟩, ⟨by omega, by omega⟩⟩) kS_X5_42 ⟨rfl, rfl, Nat.le_of_ble_eq_true rfl, Nat.le_of_ble_eq_true rfl⟩ [] rfl (by decide) rfl rfl (Nat.le_of_ble_eq_true rfl) dX5_pay_25 ⟨(by first | exact Nat.le_of_ble_eq_true rfl | omega | (show _ ≤ (0); omega)), (by first | exact Nat.le_of_ble_eq_true rfl | omega | (show _ ≤ (0); omega))⟩ (fun v9 w9 H locs hq G => ?_)
  obtain ⟨rfl, rfl⟩ := hq
  refine W.eq (g2 := F0 mm 28 ls [.int (iI (0)), .ref mo]) rfl ?_
  have G : zG D AA ss.heap [(mo, .inr (5, [.int (iI (th)), .int (iI (((n : Nat) : Int))), .ref mnw, .ref mte, .ref mge, .ref mus, .int (iI (((p : Nat) : Int))), .int (iI (((st : Nat) : Int))), .int (iI (cc)), .int (iI (bc)), .ref mco, .ref mfl, .ref mba, .ref mdu, .long (lI (pot)), .long (lI (gr)), .long (lI (bk)), .int (iI (btw)), .int (iI (bhd))]))] H locs := G
  refine z_if_ne (tgt := 35) E dX5_pay_28 (by decide) (by decide) (fun c_28 => absurd c_28 (by decide)) (fun c_28 => ?_)
  refine z_iconst E dX5_pay_31 ?_
  refine z_goto (tgt := 36) E dX5_pay_32 (by decide) ?_
  refine kp_X5_35 E G 0 rfl (Nat.le_of_ble_eq_true rfl) dX5_pay_36 (fun H locs G => ?_)
  have G : zG D AA ss.heap [(mo, .inr (5, [.int (iI (2)), .int (iI (((n : Nat) : Int))), .ref mnw, .ref mte, .ref mge, .ref mus, .int (iI (((p : Nat) : Int))), .int (iI (((st : Nat) : Int))), .int (iI (cc)), .int (iI (bc)), .ref mco, .ref mfl, .ref mba, .ref mdu, .long (lI (pot)), .long (lI (gr)), .long (lI (bk)), .int (iI (btw)), .int (iI (bhd))]))] H locs := G
  refine z_aload_n E hl 0 rfl dX5_pay_39 rfl ?_
  refine kg_X5_35 E G 0 rfl rfl dX5_pay_40 ?_
  refine z_if_eq (tgt := 48) E dX5_pay_43 (by decide) (by decide) (fun c_43 => absurd c_43 (by decide)) (fun c_43 => ?_)
  refine z_lconst E (z := 0) dX5_pay_46 (by decide) ?_
  exact z_lret (w' := [(mo, .inr (5, [.int (iI (2)), .int (iI (((n : Nat) : Int))), .ref mnw, .ref mte, .ref mge, .ref mus, .int (iI (((p : Nat) : Int))), .int (iI (((st : Nat) : Int))), .int (iI (cc)), .int (iI (bc)), .ref mco, .ref mfl, .ref mba, .ref mdu, .long (lI (pot)), .long (lI (gr)), .long (lI (bk)), .int (iI (btw)), .int (iI (bhd))]))]) (v := 0) E hr hlocks G dX5_pay_47 (by omega) (by omega) (zx0 rfl) ⟨rfl, rfl⟩

def q_c_X5_pay_2 (k4 : Nat → ClassId) (mo mnw mte mge mus mco mfl mba mdu : Nat) (th : Int) (n p st : Nat) (cc bc pot gr bk btw bhd : Int) (m : Nat) (a : Int) : Option Value → va_W → Prop := (fun (v9 : Option Value) (w9 : va_W) => v9 = some (.long (lI (0))) ∧ w9 = [(mo, .inr (5, [.int (iI (2)), .int (iI (((n : Nat) : Int))), .ref mnw, .ref mte, .ref mge, .ref mus, .int (iI (((p : Nat) : Int))), .int (iI (((st : Nat) : Int))), .int (iI (cc)), .int (iI (bc)), .ref mco, .ref mfl, .ref mba, .ref mdu, .long (lI (pot)), .long (lI (gr)), .long (lI (bk)), .int (iI (btw)), .int (iI (bhd))]))])
set_option maxHeartbeats 4000000 in
set_option maxRecDepth 100000 in
theorem c_X5_pay_2 (l : Launch) (D : va_G) (k4 : Nat → ClassId) (mo mnw mte mge mus mco mfl mba mdu : Nat) (th : Int) (n p st : Nat) (cc bc pot gr bk btw bhd : Int) (m : Nat) (a : Int) (hn : n ≤ 6) (hm : m < n) (ha : a = 0) : zC l yX5_pay (zW yX5_pay cX5_pay 3 (some .long)) ({ frames := 2, cells := 0, slots := 0, locals := 46 } : Room) D k4 [.ref mo, .int (iI (((m : Nat) : Int))), .int (iI (a))] [(mo, .inr (5, [.int (iI (th)), .int (iI (((n : Nat) : Int))), .ref mnw, .ref mte, .ref mge, .ref mus, .int (iI (((p : Nat) : Int))), .int (iI (((st : Nat) : Int))), .int (iI (cc)), .int (iI (bc)), .ref mco, .ref mfl, .ref mba, .ref mdu, .long (lI (pot)), .long (lI (gr)), .long (lI (bk)), .int (iI (btw)), .int (iI (bhd))]))] (0) (0) (q_c_X5_pay_2 k4 mo mnw mte mge mus mco mfl mba mdu th n p st cc bc pot gr bk btw bhd m a) := by
  refine zC_of (cc := cX5_pay) (by decide) (Nat.le_of_ble_eq_true rfl) (fun pp ee ss mm bl me co AA H locs ls E hr hlocks hin G hl => ?_)
  have hl : lv_has ls 3 [(0, .ref mo), (1, .int (iI (((m : Nat) : Int)))), (2, .int (iI (a)))] := hl
  refine z_aload_n E hl 0 rfl dX5_pay_0 rfl ?_
  refine z_aload_n E hl 0 rfl dX5_pay_1 rfl ?_
  refine z_iload_n E hl 1 rfl dX5_pay_2 rfl ?_
  refine z_callV E G hl.1 (c_X5_isMember l D k4 mo mnw mte mge mus mco mfl mba mdu th n p st cc bc pot gr bk btw bhd (((m : Nat) : Int)) (by omega) ⟨by omega, by omega⟩ hn) kV_X5_55 ⟨rfl, rfl, Nat.le_of_ble_eq_true rfl, Nat.le_of_ble_eq_true rfl⟩ [0] rfl (by decide) 0 5 rfl rfl rfl rfl rfl (Nat.le_of_ble_eq_true rfl) dX5_pay_3 ⟨(by first | exact Nat.le_of_ble_eq_true rfl | omega | (show _ ≤ (0); omega)), (by first | exact Nat.le_of_ble_eq_true rfl | omega | (show _ ≤ (0); omega))⟩ (fun v9 w9 H locs hq G => ?_)
  obtain ⟨rfl, rfl⟩ := hq
  refine W.eq (g2 := F0 mm 6 ls [.int (iI (1)), .ref mo]) rfl ?_
  have G : zG D AA ss.heap [(mo, .inr (5, [.int (iI (th)), .int (iI (((n : Nat) : Int))), .ref mnw, .ref mte, .ref mge, .ref mus, .int (iI (((p : Nat) : Int))), .int (iI (((st : Nat) : Int))), .int (iI (cc)), .int (iI (bc)), .ref mco, .ref mfl, .ref mba, .ref mdu, .long (lI (pot)), .long (lI (gr)), .long (lI (bk)), .int (iI (btw)), .int (iI (bhd))]))] H locs := G
  refine z_if_ne (tgt := 13) E dX5_pay_6 (by decide) (by decide) (fun c_6 => ?_) (fun c_6 => absurd c_6 (by decide))
  refine z_iload_n E hl 2 rfl dX5_pay_13 rfl ?_
  refine z_if_eq (tgt := 31) E dX5_pay_14 (by decide) ⟨by omega, by omega⟩ (fun c_14 => ?_) (fun c_14 => absurd c_14 (by omega))
  refine z_iconst E dX5_pay_31 ?_
  refine z_goto (tgt := 36) E dX5_pay_32 (by decide) ?_
  refine kp_X5_35 E G 0 rfl (Nat.le_of_ble_eq_true rfl) dX5_pay_36 (fun H locs G => ?_)
  have G : zG D AA ss.heap [(mo, .inr (5, [.int (iI (2)), .int (iI (((n : Nat) : Int))), .ref mnw, .ref mte, .ref mge, .ref mus, .int (iI (((p : Nat) : Int))), .int (iI (((st : Nat) : Int))), .int (iI (cc)), .int (iI (bc)), .ref mco, .ref mfl, .ref mba, .ref mdu, .long (lI (pot)), .long (lI (gr)), .long (lI (bk)), .int (iI (btw)), .int (iI (bhd))]))] H locs := G
  refine z_aload_n E hl 0 rfl dX5_pay_39 rfl ?_
  refine kg_X5_35 E G 0 rfl rfl dX5_pay_40 ?_
  refine z_if_eq (tgt := 48) E dX5_pay_43 (by decide) (by decide) (fun c_43 => absurd c_43 (by decide)) (fun c_43 => ?_)
  refine z_lconst E (z := 0) dX5_pay_46 (by decide) ?_
  exact z_lret (w' := [(mo, .inr (5, [.int (iI (2)), .int (iI (((n : Nat) : Int))), .ref mnw, .ref mte, .ref mge, .ref mus, .int (iI (((p : Nat) : Int))), .int (iI (((st : Nat) : Int))), .int (iI (cc)), .int (iI (bc)), .ref mco, .ref mfl, .ref mba, .ref mdu, .long (lI (pot)), .long (lI (gr)), .long (lI (bk)), .int (iI (btw)), .int (iI (bhd))]))]) (v := 0) E hr hlocks G dX5_pay_47 (by omega) (by omega) (zx0 rfl) ⟨rfl, rfl⟩

def q_c_X5_settle (k4 : Nat → ClassId) (mo mnw mte mge mus mco mfl mba mdu : Nat) (th : Int) (n p st : Nat) (cc bc pot gr bk btw bhd : Int) (fee : Int) (BA DU : Nat → Int) : Option Value → va_W → Prop := (fun (v9 : Option Value) (w9 : va_W) => v9 = some (.int (iI (((p : Nat) : Int) - ((st : Nat) : Int)))) ∧ w9 = [(mo, .inr (5, [.int (iI (0)), .int (iI (((n : Nat) : Int))), .ref mnw, .ref mte, .ref mge, .ref mus, .int (iI (((p : Nat) : Int))), .int (iI (((p : Nat) : Int))), .int (iI (cc)), .int (iI (bc)), .ref mco, .ref mfl, .ref mba, .ref mdu, .long (lI (pot + ((n : Nat) : Int) * fee)), .long (lI (gr)), .long (lI (bk)), .int (iI (btw)), .int (iI (bhd))])), (mba, .inl (k4 1, 6, .inr (.inl (fun i9 => lI ((setB BA n) i9))))), (mdu, .inl (k4 1, 6, .inr (.inl (fun i9 => lI ((setD BA DU fee n) i9)))))])
set_option maxHeartbeats 4000000 in
set_option maxRecDepth 100000 in
theorem c_X5_settle (l : Launch) (D : va_G) (k4 : Nat → ClassId) (mo mnw mte mge mus mco mfl mba mdu : Nat) (th : Int) (n p st : Nat) (cc bc pot gr bk btw bhd : Int) (fee : Int) (BA DU : Nat → Int) (hn : n ≤ 6) (hfe : 0 ≤ fee ∧ fee ≤ 10000) : zC l yX5_settle (zW yX5_settle cX5_settle 3 (some .int)) ({ frames := 1, cells := 0, slots := 0, locals := 25 } : Room) D k4 [.ref mo, .int (iI (fee))] [(mo, .inr (5, [.int (iI (th)), .int (iI (((n : Nat) : Int))), .ref mnw, .ref mte, .ref mge, .ref mus, .int (iI (((p : Nat) : Int))), .int (iI (((st : Nat) : Int))), .int (iI (cc)), .int (iI (bc)), .ref mco, .ref mfl, .ref mba, .ref mdu, .long (lI (pot)), .long (lI (gr)), .long (lI (bk)), .int (iI (btw)), .int (iI (bhd))])), (mba, .inl (k4 1, 6, .inr (.inl (fun i9 => lI (BA i9))))), (mdu, .inl (k4 1, 6, .inr (.inl (fun i9 => lI (DU i9)))))] (0) (0) (q_c_X5_settle k4 mo mnw mte mge mus mco mfl mba mdu th n p st cc bc pot gr bk btw bhd fee BA DU) := by
  refine zC_of (cc := cX5_settle) (by decide) (Nat.le_of_ble_eq_true rfl) (fun pp ee ss mm bl me co AA H locs ls E hr hlocks hin G hl => ?_)
  have hl : lv_has ls 3 [(0, .ref mo), (1, .int (iI (fee)))] := hl
  refine z_aload_n E hl 0 rfl dX5_settle_0 rfl ?_
  refine z_iconst E dX5_settle_1 ?_
  refine kp_X5_35 E G 0 rfl (Nat.le_of_ble_eq_true rfl) dX5_settle_2 (fun H locs G => ?_)
  have G : zG D AA ss.heap [(mo, .inr (5, [.int (iI (0)), .int (iI (((n : Nat) : Int))), .ref mnw, .ref mte, .ref mge, .ref mus, .int (iI (((p : Nat) : Int))), .int (iI (((st : Nat) : Int))), .int (iI (cc)), .int (iI (bc)), .ref mco, .ref mfl, .ref mba, .ref mdu, .long (lI (pot)), .long (lI (gr)), .long (lI (bk)), .int (iI (btw)), .int (iI (bhd))])), (mba, .inl (k4 1, 6, .inr (.inl (fun i9 => lI (BA i9))))), (mdu, .inl (k4 1, 6, .inr (.inl (fun i9 => lI (DU i9)))))] H locs := G
  refine z_iload_n E hl 1 rfl dX5_settle_5 rfl ?_
  refine z_i2l E dX5_settle_6 ⟨by omega, by omega⟩ ?_
  refine z_lconst E (z := 0) dX5_settle_7 (by decide) ?_
  refine z_ldc2 E (n := (10000)) zw_595 (by decide +kernel) dX5_settle_8 ?_
  refine z_callS E G hl.1 (c_X5_isIn l D k4 fee 0 10000 (by omega) ⟨⟨by omega, by omega⟩, ⟨by omega, by omega⟩, ⟨by omega, by omega⟩⟩) kS_X5_42 ⟨rfl, rfl, Nat.le_of_ble_eq_true rfl, Nat.le_of_ble_eq_true rfl⟩ [] rfl (by decide) rfl rfl (Nat.le_of_ble_eq_true rfl) dX5_settle_11 ⟨(by first | exact Nat.le_of_ble_eq_true rfl | omega | (show _ ≤ (0); omega)), (by first | exact Nat.le_of_ble_eq_true rfl | omega | (show _ ≤ (0); omega))⟩ (fun v9 w9 H locs hq G => ?_)
  obtain ⟨rfl, rfl⟩ := hq
  refine W.eq (g2 := F0 mm 14 ls [.int (iI (1))]) rfl ?_
  have G : zG D AA ss.heap [(mo, .inr (5, [.int (iI (0)), .int (iI (((n : Nat) : Int))), .ref mnw, .ref mte, .ref mge, .ref mus, .int (iI (((p : Nat) : Int))), .int (iI (((st : Nat) : Int))), .int (iI (cc)), .int (iI (bc)), .ref mco, .ref mfl, .ref mba, .ref mdu, .long (lI (pot)), .long (lI (gr)), .long (lI (bk)), .int (iI (btw)), .int (iI (bhd))])), (mba, .inl (k4 1, 6, .inr (.inl (fun i9 => lI (BA i9))))), (mdu, .inl (k4 1, 6, .inr (.inl (fun i9 => lI (DU i9)))))] H locs := G
  refine z_if_ne (tgt := 23) E dX5_settle_14 (by decide) (by decide) (fun c_14 => ?_) (fun c_14 => absurd c_14 (by decide))
  refine z_iconst E dX5_settle_23 ?_
  refine z_istore_n E [(2, .int (iI (0))), (0, .ref mo), (1, .int (iI (fee)))] dX5_settle_24 rfl hl (by decide) rfl (fun ls hl => ?_)
  have hp25_1 : ∀ (n9 : Nat) (j : Nat) (H : Heap) (locs : List Loc) (ls : Array Slot), (n - j < n9) → (j ≤ n) → zG D AA ss.heap [(mo, .inr (5, [.int (iI (0)), .int (iI (((n : Nat) : Int))), .ref mnw, .ref mte, .ref mge, .ref mus, .int (iI (((p : Nat) : Int))), .int (iI (((st : Nat) : Int))), .int (iI (cc)), .int (iI (bc)), .ref mco, .ref mfl, .ref mba, .ref mdu, .long (lI (pot + ((j : Nat) : Int) * fee)), .long (lI (gr)), .long (lI (bk)), .int (iI (btw)), .int (iI (bhd))])), (mba, .inl (k4 1, 6, .inr (.inl (fun i9 => lI ((setB BA j) i9))))), (mdu, .inl (k4 1, 6, .inr (.inl (fun i9 => lI ((setD BA DU fee j) i9)))))] H locs → lv_has ls 3 [(0, .ref mo), (1, .int (iI (fee))), (2, .int (iI (((j : Nat) : Int))))] → W pp l ee ({ frames := 1, cells := 0, slots := 0, locals := 25 } : Room) ss mm ([.ref mo, .int (iI (fee))] : List Value).toArray bl me co H locs (0) (0) (MQ bl (zQ D [(mo, .inr (5, [.int (iI (th)), .int (iI (((n : Nat) : Int))), .ref mnw, .ref mte, .ref mge, .ref mus, .int (iI (((p : Nat) : Int))), .int (iI (((st : Nat) : Int))), .int (iI (cc)), .int (iI (bc)), .ref mco, .ref mfl, .ref mba, .ref mdu, .long (lI (pot)), .long (lI (gr)), .long (lI (bk)), .int (iI (btw)), .int (iI (bhd))])), (mba, .inl (k4 1, 6, .inr (.inl (fun i9 => lI (BA i9))))), (mdu, .inl (k4 1, 6, .inr (.inl (fun i9 => lI (DU i9)))))] AA (q_c_X5_settle k4 mo mnw mte mge mus mco mfl mba mdu th n p st cc bc pot gr bk btw bhd fee BA DU)) ([.ref mo, .int (iI (fee))] : List Value).toArray ss (0) (0) AA) (F0 mm 25 ls []) := by
    intro n9
    induction n9 with
    | zero => intro j H locs ls hn9 hj G hl; exact absurd hn9 (by omega)
    | succ n9 ih =>
      intro j H locs ls hn9 hj G hl
      have ih25_1 := @ih
      refine z_iload_n E hl 2 rfl dX5_settle_25 rfl ?_
      refine z_aload_n E hl 0 rfl dX5_settle_26 rfl ?_
      refine kg_X5_39 E G 0 rfl rfl dX5_settle_27 ?_
      refine z_icmp_ge (tgt := 75) E dX5_settle_30 (by decide) ⟨by omega, by omega⟩ ⟨by omega, by omega⟩ (fun c_30 => ?_) (fun c_30 => ?_)
      · skip
        obtain rfl : j = n := by omega
        refine z_aload_n E hl 0 rfl dX5_settle_75 rfl ?_
        refine kg_X5_48 E G 0 rfl rfl dX5_settle_76 ?_
        refine z_aload_n E hl 0 rfl dX5_settle_79 rfl ?_
        refine kg_X5_153 E G 0 rfl rfl dX5_settle_80 ?_
        refine z_isub E dX5_settle_83 ?_
        refine z_istore_n E [(2, .int (iI ((((p : Nat) : Int)) - (((st : Nat) : Int))))), (0, .ref mo), (1, .int (iI (fee)))] dX5_settle_84 rfl hl (by decide) rfl (fun ls hl => ?_)
        refine z_aload_n E hl 1 rfl dX5_settle_85 rfl ?_
        refine z_aload_n E hl 1 rfl dX5_settle_86 rfl ?_
        refine kg_X5_48 E G 0 rfl rfl dX5_settle_87 ?_
        refine kp_X5_153 E G 0 rfl (Nat.le_of_ble_eq_true rfl) dX5_settle_90 (fun H locs G => ?_)
        have G : zG D AA ss.heap [(mo, .inr (5, [.int (iI (0)), .int (iI (((j : Nat) : Int))), .ref mnw, .ref mte, .ref mge, .ref mus, .int (iI (((p : Nat) : Int))), .int (iI (((p : Nat) : Int))), .int (iI (cc)), .int (iI (bc)), .ref mco, .ref mfl, .ref mba, .ref mdu, .long (lI (pot + ((j : Nat) : Int) * fee)), .long (lI (gr)), .long (lI (bk)), .int (iI (btw)), .int (iI (bhd))])), (mba, .inl (k4 1, 6, .inr (.inl (fun i9 => lI ((setB BA j) i9))))), (mdu, .inl (k4 1, 6, .inr (.inl (fun i9 => lI ((setD BA DU fee j) i9)))))] H locs := G
        refine z_iload_n E hl 0 rfl dX5_settle_93 rfl ?_
        exact z_iret (w' := [(mo, .inr (5, [.int (iI (0)), .int (iI (((j : Nat) : Int))), .ref mnw, .ref mte, .ref mge, .ref mus, .int (iI (((p : Nat) : Int))), .int (iI (((p : Nat) : Int))), .int (iI (cc)), .int (iI (bc)), .ref mco, .ref mfl, .ref mba, .ref mdu, .long (lI (pot + ((j : Nat) : Int) * fee)), .long (lI (gr)), .long (lI (bk)), .int (iI (btw)), .int (iI (bhd))])), (mba, .inl (k4 1, 6, .inr (.inl (fun i9 => lI ((setB BA j) i9))))), (mdu, .inl (k4 1, 6, .inr (.inl (fun i9 => lI ((setD BA DU fee j) i9)))))]) (v := (((p : Nat) : Int)) - (((st : Nat) : Int))) E hr hlocks G dX5_settle_94 (by omega) (by omega) (zx0 rfl) ⟨rfl, rfl⟩
      · skip
        refine z_aload_n E hl 0 rfl dX5_settle_33 rfl ?_
        refine kg_X5_32 E G 0 rfl rfl dX5_settle_34 ?_
        refine z_iload_n E hl 2 rfl dX5_settle_37 rfl ?_
        refine lv_dup2_11 E.1 E.2.1 dX5_settle_38 rfl rfl ?_
        refine z_lald E G 2 rfl (j) rfl (by omega) (by decide) dX5_settle_39 ?_
        refine z_aload_n E hl 0 rfl dX5_settle_40 rfl ?_
        refine kg_X5_28 E G 0 rfl rfl dX5_settle_41 ?_
        refine z_iload_n E hl 2 rfl dX5_settle_44 rfl ?_
        refine z_lald E G 1 rfl (j) rfl (by omega) (by decide) dX5_settle_45 ?_
        refine z_eql (y := BA j) (setB_hi BA j j (Nat.le_refl j)) ?_
        refine z_iload_n E hl 1 rfl dX5_settle_46 rfl ?_
        refine z_i2l E dX5_settle_47 ⟨by omega, by omega⟩ ?_
        refine z_lsub E dX5_settle_48 ?_
        refine z_ladd E dX5_settle_49 ?_
        refine z_last E G 2 rfl (j) rfl (by omega) (by decide) dX5_settle_50 (fun H locs G => ?_)
        have G : zG D AA ss.heap [(mo, .inr (5, [.int (iI (0)), .int (iI (((n : Nat) : Int))), .ref mnw, .ref mte, .ref mge, .ref mus, .int (iI (((p : Nat) : Int))), .int (iI (((st : Nat) : Int))), .int (iI (cc)), .int (iI (bc)), .ref mco, .ref mfl, .ref mba, .ref mdu, .long (lI (pot + ((j : Nat) : Int) * fee)), .long (lI (gr)), .long (lI (bk)), .int (iI (btw)), .int (iI (bhd))])), (mba, .inl (k4 1, 6, .inr (.inl (fun i9 => lI ((setB BA j) i9))))), (mdu, .inl (k4 1, 6, .inr (.inl (fun i9 => lI ((up (setD BA DU fee j) (j) (((setD BA DU fee j) j) + ((BA j) - (fee)))) i9)))))] H locs := G
        refine z_aload_n E hl 0 rfl dX5_settle_51 rfl ?_
        refine kg_X5_28 E G 0 rfl rfl dX5_settle_52 ?_
        refine z_iload_n E hl 2 rfl dX5_settle_55 rfl ?_
        refine z_lconst E (z := 0) dX5_settle_56 (by decide) ?_
        refine z_last E G 1 rfl (j) rfl (by omega) (by decide) dX5_settle_57 (fun H locs G => ?_)
        have G : zG D AA ss.heap [(mo, .inr (5, [.int (iI (0)), .int (iI (((n : Nat) : Int))), .ref mnw, .ref mte, .ref mge, .ref mus, .int (iI (((p : Nat) : Int))), .int (iI (((st : Nat) : Int))), .int (iI (cc)), .int (iI (bc)), .ref mco, .ref mfl, .ref mba, .ref mdu, .long (lI (pot + ((j : Nat) : Int) * fee)), .long (lI (gr)), .long (lI (bk)), .int (iI (btw)), .int (iI (bhd))])), (mba, .inl (k4 1, 6, .inr (.inl (fun i9 => lI ((up (setB BA j) (j) (0)) i9))))), (mdu, .inl (k4 1, 6, .inr (.inl (fun i9 => lI ((up (setD BA DU fee j) (j) (((setD BA DU fee j) j) + ((BA j) - (fee)))) i9)))))] H locs := G
        refine z_aload_n E hl 0 rfl dX5_settle_58 rfl ?_
        refine z_dup E dX5_settle_59 rfl ?_
        refine kg_X5_132 E G 0 rfl rfl dX5_settle_60 ?_
        refine z_iload_n E hl 1 rfl dX5_settle_63 rfl ?_
        refine z_i2l E dX5_settle_64 ⟨by omega, by omega⟩ ?_
        refine z_ladd E dX5_settle_65 ?_
        refine z_eql (y := pot + ((j + 1 : Nat) : Int) * fee) (by rw [Int.natCast_succ, Int.add_mul, Int.one_mul]; omega) ?_
        refine kp_X5_132 E G 0 rfl (Nat.le_of_ble_eq_true rfl) dX5_settle_66 (fun H locs G => ?_)
        have G : zG D AA ss.heap [(mo, .inr (5, [.int (iI (0)), .int (iI (((n : Nat) : Int))), .ref mnw, .ref mte, .ref mge, .ref mus, .int (iI (((p : Nat) : Int))), .int (iI (((st : Nat) : Int))), .int (iI (cc)), .int (iI (bc)), .ref mco, .ref mfl, .ref mba, .ref mdu, .long (lI (pot + ((j + 1 : Nat) : Int) * fee)), .long (lI (gr)), .long (lI (bk)), .int (iI (btw)), .int (iI (bhd))])), (mba, .inl (k4 1, 6, .inr (.inl (fun i9 => lI ((up (setB BA j) (j) (0)) i9))))), (mdu, .inl (k4 1, 6, .inr (.inl (fun i9 => lI ((up (setD BA DU fee j) (j) (((setD BA DU fee j) j) + ((BA j) - (fee)))) i9)))))] H locs := G
        refine z_iinc E [(2, .int (iI (((j : Nat) : Int) + 1))), (0, .ref mo), (1, .int (iI (fee)))] dX5_settle_69 hl (k := 2) rfl (by decide) rfl (fun ls hl => ?_)
        refine z_goto (tgt := 25) E dX5_settle_72 (by decide) ?_
        exact ih25_1 (j + 1) _ _ _ (by omega) (by omega) G (lv_sub hl [1, 2, 0] rfl)
  exact hp25_1 (n + 1) 0 _ _ _ (by omega) (by omega) ((by rw [show pot + ((0 : Nat) : Int) * fee = pot by simp]; exact G)) (lv_sub hl [1, 2, 0] rfl)

def q_c_X5_settle_0 (k4 : Nat → ClassId) (mo mnw mte mge mus mco mfl mba mdu : Nat) (th : Int) (n p st : Nat) (cc bc pot gr bk btw bhd : Int) (fee : Int) : Option Value → va_W → Prop := (fun (v9 : Option Value) (w9 : va_W) => v9 = some (.int (iI (0))) ∧ w9 = [(mo, .inr (5, [.int (iI (1)), .int (iI (((n : Nat) : Int))), .ref mnw, .ref mte, .ref mge, .ref mus, .int (iI (((p : Nat) : Int))), .int (iI (((st : Nat) : Int))), .int (iI (cc)), .int (iI (bc)), .ref mco, .ref mfl, .ref mba, .ref mdu, .long (lI (pot)), .long (lI (gr)), .long (lI (bk)), .int (iI (btw)), .int (iI (bhd))]))])
set_option maxHeartbeats 4000000 in
set_option maxRecDepth 100000 in
theorem c_X5_settle_0 (l : Launch) (D : va_G) (k4 : Nat → ClassId) (mo mnw mte mge mus mco mfl mba mdu : Nat) (th : Int) (n p st : Nat) (cc bc pot gr bk btw bhd : Int) (fee : Int) (hn : n ≤ 6) (hfe : (-2147483648 ≤ fee ∧ fee ≤ 2147483647) ∧ (fee < 0 ∨ 10000 < fee)) : zC l yX5_settle (zW yX5_settle cX5_settle 3 (some .int)) ({ frames := 1, cells := 0, slots := 0, locals := 25 } : Room) D k4 [.ref mo, .int (iI (fee))] [(mo, .inr (5, [.int (iI (th)), .int (iI (((n : Nat) : Int))), .ref mnw, .ref mte, .ref mge, .ref mus, .int (iI (((p : Nat) : Int))), .int (iI (((st : Nat) : Int))), .int (iI (cc)), .int (iI (bc)), .ref mco, .ref mfl, .ref mba, .ref mdu, .long (lI (pot)), .long (lI (gr)), .long (lI (bk)), .int (iI (btw)), .int (iI (bhd))]))] (0) (0) (q_c_X5_settle_0 k4 mo mnw mte mge mus mco mfl mba mdu th n p st cc bc pot gr bk btw bhd fee) := by
  refine zC_of (cc := cX5_settle) (by decide) (Nat.le_of_ble_eq_true rfl) (fun pp ee ss mm bl me co AA H locs ls E hr hlocks hin G hl => ?_)
  have hl : lv_has ls 3 [(0, .ref mo), (1, .int (iI (fee)))] := hl
  refine z_aload_n E hl 0 rfl dX5_settle_0 rfl ?_
  refine z_iconst E dX5_settle_1 ?_
  refine kp_X5_35 E G 0 rfl (Nat.le_of_ble_eq_true rfl) dX5_settle_2 (fun H locs G => ?_)
  have G : zG D AA ss.heap [(mo, .inr (5, [.int (iI (0)), .int (iI (((n : Nat) : Int))), .ref mnw, .ref mte, .ref mge, .ref mus, .int (iI (((p : Nat) : Int))), .int (iI (((st : Nat) : Int))), .int (iI (cc)), .int (iI (bc)), .ref mco, .ref mfl, .ref mba, .ref mdu, .long (lI (pot)), .long (lI (gr)), .long (lI (bk)), .int (iI (btw)), .int (iI (bhd))]))] H locs := G
  refine z_iload_n E hl 1 rfl dX5_settle_5 rfl ?_
  refine z_i2l E dX5_settle_6 ⟨by omega, by omega⟩ ?_
  refine z_lconst E (z := 0) dX5_settle_7 (by decide) ?_
  refine z_ldc2 E (n := (10000)) zw_595 (by decide +kernel) dX5_settle_8 ?_
  refine z_callS E G hl.1 (c_X5_isInF l D k4 fee 0 10000 (by omega) ⟨⟨by omega, by omega⟩, ⟨by omega, by omega⟩, ⟨by omega, by omega⟩⟩) kS_X5_42 ⟨rfl, rfl, Nat.le_of_ble_eq_true rfl, Nat.le_of_ble_eq_true rfl⟩ [] rfl (by decide) rfl rfl (Nat.le_of_ble_eq_true rfl) dX5_settle_11 ⟨(by first | exact Nat.le_of_ble_eq_true rfl | omega | (show _ ≤ (0); omega)), (by first | exact Nat.le_of_ble_eq_true rfl | omega | (show _ ≤ (0); omega))⟩ (fun v9 w9 H locs hq G => ?_)
  obtain ⟨rfl, rfl⟩ := hq
  refine W.eq (g2 := F0 mm 14 ls [.int (iI (0))]) rfl ?_
  have G : zG D AA ss.heap [(mo, .inr (5, [.int (iI (0)), .int (iI (((n : Nat) : Int))), .ref mnw, .ref mte, .ref mge, .ref mus, .int (iI (((p : Nat) : Int))), .int (iI (((st : Nat) : Int))), .int (iI (cc)), .int (iI (bc)), .ref mco, .ref mfl, .ref mba, .ref mdu, .long (lI (pot)), .long (lI (gr)), .long (lI (bk)), .int (iI (btw)), .int (iI (bhd))]))] H locs := G
  refine z_if_ne (tgt := 23) E dX5_settle_14 (by decide) (by decide) (fun c_14 => absurd c_14 (by decide)) (fun c_14 => ?_)
  refine z_aload_n E hl 0 rfl dX5_settle_17 rfl ?_
  refine z_iconst E dX5_settle_18 ?_
  refine z_callV E G hl.1 (c_X5_no l D k4 mo mnw mte mge mus mco mfl mba mdu 0 n p st cc bc pot gr bk btw bhd 1 ) kV_X5_51 ⟨rfl, rfl, Nat.le_of_ble_eq_true rfl, Nat.le_of_ble_eq_true rfl⟩ [0] rfl (by decide) 0 5 rfl rfl rfl rfl rfl (Nat.le_of_ble_eq_true rfl) dX5_settle_19 ⟨(by first | exact Nat.le_of_ble_eq_true rfl | omega | (show _ ≤ (0); omega)), (by first | exact Nat.le_of_ble_eq_true rfl | omega | (show _ ≤ (0); omega))⟩ (fun v9 w9 H locs hq G => ?_)
  obtain ⟨rfl, rfl⟩ := hq
  refine W.eq (g2 := F0 mm 22 ls [.int (iI (0))]) rfl ?_
  have G : zG D AA ss.heap [(mo, .inr (5, [.int (iI (1)), .int (iI (((n : Nat) : Int))), .ref mnw, .ref mte, .ref mge, .ref mus, .int (iI (((p : Nat) : Int))), .int (iI (((st : Nat) : Int))), .int (iI (cc)), .int (iI (bc)), .ref mco, .ref mfl, .ref mba, .ref mdu, .long (lI (pot)), .long (lI (gr)), .long (lI (bk)), .int (iI (btw)), .int (iI (bhd))]))] H locs := G
  exact z_iret (w' := [(mo, .inr (5, [.int (iI (1)), .int (iI (((n : Nat) : Int))), .ref mnw, .ref mte, .ref mge, .ref mus, .int (iI (((p : Nat) : Int))), .int (iI (((st : Nat) : Int))), .int (iI (cc)), .int (iI (bc)), .ref mco, .ref mfl, .ref mba, .ref mdu, .long (lI (pot)), .long (lI (gr)), .long (lI (bk)), .int (iI (btw)), .int (iI (bhd))]))]) (v := 0) E hr hlocks G dX5_settle_22 (by omega) (by omega) (zx0 rfl) ⟨rfl, rfl⟩

def q_c_X5_late (k4 : Nat → ClassId) (mo mnw mte mge mus mco mfl mba mdu : Nat) (th : Int) (n p st : Nat) (cc bc pot gr bk btw bhd : Int) (a : Int) (DU : Nat → Int) : Option Value → va_W → Prop := (fun (v9 : Option Value) (w9 : va_W) => v9 = some (.int (iI (((lateN DU a n : Nat) : Int)))) ∧ w9 = [(mo, .inr (5, [.int (iI (0)), .int (iI (((n : Nat) : Int))), .ref mnw, .ref mte, .ref mge, .ref mus, .int (iI (((p : Nat) : Int))), .int (iI (((st : Nat) : Int))), .int (iI (cc)), .int (iI (bc)), .ref mco, .ref mfl, .ref mba, .ref mdu, .long (lI (pot)), .long (lI (gr)), .long (lI (bk)), .int (iI (btw)), .int (iI (bhd))])), (mdu, .inl (k4 1, 6, .inr (.inl (fun i9 => lI (DU i9)))))])
set_option maxHeartbeats 4000000 in
set_option maxRecDepth 100000 in
theorem c_X5_late (l : Launch) (D : va_G) (k4 : Nat → ClassId) (mo mnw mte mge mus mco mfl mba mdu : Nat) (th : Int) (n p st : Nat) (cc bc pot gr bk btw bhd : Int) (a : Int) (DU : Nat → Int) (hn : n ≤ 6) (ha : 0 ≤ a ∧ a < 2147483648) : zC l yX5_late (zW yX5_late cX5_late 4 (some .int)) ({ frames := 0, cells := 0, slots := 0, locals := 0 } : Room) D k4 [.ref mo, .int (iI (a))] [(mo, .inr (5, [.int (iI (th)), .int (iI (((n : Nat) : Int))), .ref mnw, .ref mte, .ref mge, .ref mus, .int (iI (((p : Nat) : Int))), .int (iI (((st : Nat) : Int))), .int (iI (cc)), .int (iI (bc)), .ref mco, .ref mfl, .ref mba, .ref mdu, .long (lI (pot)), .long (lI (gr)), .long (lI (bk)), .int (iI (btw)), .int (iI (bhd))])), (mdu, .inl (k4 1, 6, .inr (.inl (fun i9 => lI (DU i9)))))] (0) (0) (q_c_X5_late k4 mo mnw mte mge mus mco mfl mba mdu th n p st cc bc pot gr bk btw bhd a DU) := by
  refine zC_of (cc := cX5_late) (by decide) (Nat.le_of_ble_eq_true rfl) (fun pp ee ss mm bl me co AA H locs ls E hr hlocks hin G hl => ?_)
  have hl : lv_has ls 4 [(0, .ref mo), (1, .int (iI (a)))] := hl
  refine z_aload_n E hl 0 rfl dX5_late_0 rfl ?_
  refine z_iconst E dX5_late_1 ?_
  refine kp_X5_35 E G 0 rfl (Nat.le_of_ble_eq_true rfl) dX5_late_2 (fun H locs G => ?_)
  have G : zG D AA ss.heap [(mo, .inr (5, [.int (iI (0)), .int (iI (((n : Nat) : Int))), .ref mnw, .ref mte, .ref mge, .ref mus, .int (iI (((p : Nat) : Int))), .int (iI (((st : Nat) : Int))), .int (iI (cc)), .int (iI (bc)), .ref mco, .ref mfl, .ref mba, .ref mdu, .long (lI (pot)), .long (lI (gr)), .long (lI (bk)), .int (iI (btw)), .int (iI (bhd))])), (mdu, .inl (k4 1, 6, .inr (.inl (fun i9 => lI (DU i9)))))] H locs := G
  refine z_iload_n E hl 1 rfl dX5_late_5 rfl ?_
  refine z_if_ge (tgt := 15) E dX5_late_6 (by decide) ⟨by omega, by omega⟩ (fun c_6 => ?_) (fun c_6 => absurd c_6 (by omega))
  refine z_iconst E dX5_late_15 ?_
  refine z_istore_n E [(2, .int (iI (0))), (0, .ref mo), (1, .int (iI (a)))] dX5_late_16 rfl hl (by decide) rfl (fun ls hl => ?_)
  refine z_iconst E dX5_late_17 ?_
  refine z_istore_n E [(3, .int (iI (0))), (2, .int (iI (0))), (0, .ref mo), (1, .int (iI (a)))] dX5_late_18 rfl hl (by decide) rfl (fun ls hl => ?_)
  have hp19_1 : ∀ (n9 : Nat) (j : Nat) (H : Heap) (locs : List Loc) (ls : Array Slot), (n - j < n9) → (j ≤ n) → zG D AA ss.heap [(mo, .inr (5, [.int (iI (0)), .int (iI (((n : Nat) : Int))), .ref mnw, .ref mte, .ref mge, .ref mus, .int (iI (((p : Nat) : Int))), .int (iI (((st : Nat) : Int))), .int (iI (cc)), .int (iI (bc)), .ref mco, .ref mfl, .ref mba, .ref mdu, .long (lI (pot)), .long (lI (gr)), .long (lI (bk)), .int (iI (btw)), .int (iI (bhd))])), (mdu, .inl (k4 1, 6, .inr (.inl (fun i9 => lI (DU i9)))))] H locs → lv_has ls 4 [(0, .ref mo), (1, .int (iI (a))), (2, .int (iI (((lateN DU a j : Nat) : Int)))), (3, .int (iI (((j : Nat) : Int))))] → W pp l ee ({ frames := 0, cells := 0, slots := 0, locals := 0 } : Room) ss mm ([.ref mo, .int (iI (a))] : List Value).toArray bl me co H locs (0) (0) (MQ bl (zQ D [(mo, .inr (5, [.int (iI (th)), .int (iI (((n : Nat) : Int))), .ref mnw, .ref mte, .ref mge, .ref mus, .int (iI (((p : Nat) : Int))), .int (iI (((st : Nat) : Int))), .int (iI (cc)), .int (iI (bc)), .ref mco, .ref mfl, .ref mba, .ref mdu, .long (lI (pot)), .long (lI (gr)), .long (lI (bk)), .int (iI (btw)), .int (iI (bhd))])), (mdu, .inl (k4 1, 6, .inr (.inl (fun i9 => lI (DU i9)))))] AA (q_c_X5_late k4 mo mnw mte mge mus mco mfl mba mdu th n p st cc bc pot gr bk btw bhd a DU)) ([.ref mo, .int (iI (a))] : List Value).toArray ss (0) (0) AA) (F0 mm 19 ls []) := by
    intro n9
    induction n9 with
    | zero => intro j H locs ls hn9 hj G hl; exact absurd hn9 (by omega)
    | succ n9 ih =>
      intro j H locs ls hn9 hj G hl
      have ih19_1 := @ih
      refine z_iload_n E hl 3 rfl dX5_late_19 rfl ?_
      refine z_aload_n E hl 0 rfl dX5_late_20 rfl ?_
      refine kg_X5_39 E G 0 rfl rfl dX5_late_21 ?_
      refine z_icmp_ge (tgt := 52) E dX5_late_24 (by decide) ⟨by omega, by omega⟩ ⟨by omega, by omega⟩ (fun c_24 => ?_) (fun c_24 => ?_)
      · skip
        obtain rfl : j = n := by omega
        refine z_iload_n E hl 2 rfl dX5_late_52 rfl ?_
        exact z_iret (w' := [(mo, .inr (5, [.int (iI (0)), .int (iI (((j : Nat) : Int))), .ref mnw, .ref mte, .ref mge, .ref mus, .int (iI (((p : Nat) : Int))), .int (iI (((st : Nat) : Int))), .int (iI (cc)), .int (iI (bc)), .ref mco, .ref mfl, .ref mba, .ref mdu, .long (lI (pot)), .long (lI (gr)), .long (lI (bk)), .int (iI (btw)), .int (iI (bhd))])), (mdu, .inl (k4 1, 6, .inr (.inl (fun i9 => lI (DU i9)))))]) (v := ((lateN DU a j : Nat) : Int)) E hr hlocks G dX5_late_53 (by omega) (by omega) (zx0 rfl) ⟨rfl, rfl⟩
      · skip
        refine z_aload_n E hl 0 rfl dX5_late_27 rfl ?_
        refine kg_X5_32 E G 0 rfl rfl dX5_late_28 ?_
        refine z_iload_n E hl 3 rfl dX5_late_31 rfl ?_
        refine z_lald E G 1 rfl (j) rfl (by omega) (by decide) dX5_late_32 ?_
        refine z_iload_n E hl 1 rfl dX5_late_33 rfl ?_
        refine z_i2l E dX5_late_34 ⟨by omega, by omega⟩ ?_
        refine z_lneg E dX5_late_35 ?_
        refine z_lcmp E dX5_late_36 ?_
        refine z_if_ge (tgt := 46) E dX5_late_37 (by decide) (lcI_rng _ _) (fun c_37 => ?_) (fun c_37 => ?_)
        · skip
          have e9 : lateN DU a j = lateN DU a (j + 1) := by show _ = (if _ then _ else _); rw [if_neg (by omega)]
          rw [e9] at hl
          have hl : lv_has ls 4 [(0, .ref mo), (1, .int (iI (a))), (2, .int (iI (((lateN DU a (j + 1) : Nat) : Int)))), (3, .int (iI (((j : Nat) : Int))))] := hl
          refine z_iinc E [(3, .int (iI (((j : Nat) : Int) + 1))), (0, .ref mo), (1, .int (iI (a))), (2, .int (iI (((lateN DU a (j + 1) : Nat) : Int))))] dX5_late_46 hl (k := 3) rfl (by decide) rfl (fun ls hl => ?_)
          refine z_goto (tgt := 19) E dX5_late_49 (by decide) ?_
          exact ih19_1 (j + 1) _ _ _ (by omega) (by omega) G (lv_sub hl [1, 2, 3, 0] rfl)
        · skip
          have e9 : lateN DU a j + 2 ^ j = lateN DU a (j + 1) := by show _ = (if _ then _ else _); rw [if_pos c_37]
          refine z_iload_n E hl 2 rfl dX5_late_40 rfl ?_
          refine z_iconst E dX5_late_41 ?_
          refine z_iload_n E hl 3 rfl dX5_late_42 rfl ?_
          refine z_ishl1 E (((2 ^ j : Nat) : Int)) (shl1 j (by omega)) dX5_late_43 ?_
          refine z_ior1 E (((lateN DU a (j + 1) : Nat) : Int)) ((or1 j (by omega) _ (lateN_b DU a j)).trans (by rw [e9])) dX5_late_44 ?_
          refine z_istore_n E [(2, .int (iI (((lateN DU a (j + 1) : Nat) : Int)))), (0, .ref mo), (1, .int (iI (a))), (3, .int (iI (((j : Nat) : Int))))] dX5_late_45 rfl hl (by decide) rfl (fun ls hl => ?_)
          refine z_iinc E [(3, .int (iI (((j : Nat) : Int) + 1))), (2, .int (iI (((lateN DU a (j + 1) : Nat) : Int)))), (0, .ref mo), (1, .int (iI (a)))] dX5_late_46 hl (k := 3) rfl (by decide) rfl (fun ls hl => ?_)
          refine z_goto (tgt := 19) E dX5_late_49 (by decide) ?_
          exact ih19_1 (j + 1) _ _ _ (by omega) (by omega) G (lv_sub hl [2, 3, 1, 0] rfl)
  exact hp19_1 (n + 1) 0 _ _ _ (by omega) (by omega) G (lv_sub hl [2, 3, 1, 0] rfl)

def q_c_X5_late_0 (k4 : Nat → ClassId) (mo mnw mte mge mus mco mfl mba mdu : Nat) (th : Int) (n p st : Nat) (cc bc pot gr bk btw bhd : Int) (a : Int) : Option Value → va_W → Prop := (fun (v9 : Option Value) (w9 : va_W) => v9 = some (.int (iI (0))) ∧ w9 = [(mo, .inr (5, [.int (iI (1)), .int (iI (((n : Nat) : Int))), .ref mnw, .ref mte, .ref mge, .ref mus, .int (iI (((p : Nat) : Int))), .int (iI (((st : Nat) : Int))), .int (iI (cc)), .int (iI (bc)), .ref mco, .ref mfl, .ref mba, .ref mdu, .long (lI (pot)), .long (lI (gr)), .long (lI (bk)), .int (iI (btw)), .int (iI (bhd))]))])
set_option maxHeartbeats 4000000 in
set_option maxRecDepth 100000 in
theorem c_X5_late_0 (l : Launch) (D : va_G) (k4 : Nat → ClassId) (mo mnw mte mge mus mco mfl mba mdu : Nat) (th : Int) (n p st : Nat) (cc bc pot gr bk btw bhd : Int) (a : Int) (hn : n ≤ 6) (ha : -2147483648 ≤ a ∧ a < 0) : zC l yX5_late (zW yX5_late cX5_late 4 (some .int)) ({ frames := 1, cells := 0, slots := 0, locals := 21 } : Room) D k4 [.ref mo, .int (iI (a))] [(mo, .inr (5, [.int (iI (th)), .int (iI (((n : Nat) : Int))), .ref mnw, .ref mte, .ref mge, .ref mus, .int (iI (((p : Nat) : Int))), .int (iI (((st : Nat) : Int))), .int (iI (cc)), .int (iI (bc)), .ref mco, .ref mfl, .ref mba, .ref mdu, .long (lI (pot)), .long (lI (gr)), .long (lI (bk)), .int (iI (btw)), .int (iI (bhd))]))] (0) (0) (q_c_X5_late_0 k4 mo mnw mte mge mus mco mfl mba mdu th n p st cc bc pot gr bk btw bhd a) := by
  refine zC_of (cc := cX5_late) (by decide) (Nat.le_of_ble_eq_true rfl) (fun pp ee ss mm bl me co AA H locs ls E hr hlocks hin G hl => ?_)
  have hl : lv_has ls 4 [(0, .ref mo), (1, .int (iI (a)))] := hl
  refine z_aload_n E hl 0 rfl dX5_late_0 rfl ?_
  refine z_iconst E dX5_late_1 ?_
  refine kp_X5_35 E G 0 rfl (Nat.le_of_ble_eq_true rfl) dX5_late_2 (fun H locs G => ?_)
  have G : zG D AA ss.heap [(mo, .inr (5, [.int (iI (0)), .int (iI (((n : Nat) : Int))), .ref mnw, .ref mte, .ref mge, .ref mus, .int (iI (((p : Nat) : Int))), .int (iI (((st : Nat) : Int))), .int (iI (cc)), .int (iI (bc)), .ref mco, .ref mfl, .ref mba, .ref mdu, .long (lI (pot)), .long (lI (gr)), .long (lI (bk)), .int (iI (btw)), .int (iI (bhd))]))] H locs := G
  refine z_iload_n E hl 1 rfl dX5_late_5 rfl ?_
  refine z_if_ge (tgt := 15) E dX5_late_6 (by decide) ⟨by omega, by omega⟩ (fun c_6 => absurd c_6 (by omega)) (fun c_6 => ?_)
  refine z_aload_n E hl 0 rfl dX5_late_9 rfl ?_
  refine z_iconst E dX5_late_10 ?_
  refine z_callV E G hl.1 (c_X5_no l D k4 mo mnw mte mge mus mco mfl mba mdu 0 n p st cc bc pot gr bk btw bhd 1 ) kV_X5_51 ⟨rfl, rfl, Nat.le_of_ble_eq_true rfl, Nat.le_of_ble_eq_true rfl⟩ [0] rfl (by decide) 0 5 rfl rfl rfl rfl rfl (Nat.le_of_ble_eq_true rfl) dX5_late_11 ⟨(by first | exact Nat.le_of_ble_eq_true rfl | omega | (show _ ≤ (0); omega)), (by first | exact Nat.le_of_ble_eq_true rfl | omega | (show _ ≤ (0); omega))⟩ (fun v9 w9 H locs hq G => ?_)
  obtain ⟨rfl, rfl⟩ := hq
  refine W.eq (g2 := F0 mm 14 ls [.int (iI (0))]) rfl ?_
  have G : zG D AA ss.heap [(mo, .inr (5, [.int (iI (1)), .int (iI (((n : Nat) : Int))), .ref mnw, .ref mte, .ref mge, .ref mus, .int (iI (((p : Nat) : Int))), .int (iI (((st : Nat) : Int))), .int (iI (cc)), .int (iI (bc)), .ref mco, .ref mfl, .ref mba, .ref mdu, .long (lI (pot)), .long (lI (gr)), .long (lI (bk)), .int (iI (btw)), .int (iI (bhd))]))] H locs := G
  exact z_iret (w' := [(mo, .inr (5, [.int (iI (1)), .int (iI (((n : Nat) : Int))), .ref mnw, .ref mte, .ref mge, .ref mus, .int (iI (((p : Nat) : Int))), .int (iI (((st : Nat) : Int))), .int (iI (cc)), .int (iI (bc)), .ref mco, .ref mfl, .ref mba, .ref mdu, .long (lI (pot)), .long (lI (gr)), .long (lI (bk)), .int (iI (btw)), .int (iI (bhd))]))]) (v := 0) E hr hlocks G dX5_late_14 (by omega) (by omega) (zx0 rfl) ⟨rfl, rfl⟩

