def q_c_X5_isIn (k4 : Nat → ClassId) (v lo hi : Int) : Option Value → va_W → Prop := (fun (v9 : Option Value) (w9 : va_W) => v9 = some (.int (iI (1))) ∧ w9 = [])
set_option maxHeartbeats 4000000 in
set_option maxRecDepth 100000 in
theorem c_X5_isIn (l : Launch) (D : va_G) (k4 : Nat → ClassId) (v lo hi : Int) (hv : lo ≤ v ∧ v ≤ hi) (hr9 : rng v ∧ rng lo ∧ rng hi) : zC l yX5_isIn (zW yX5_isIn cX5_isIn 6 (some .boolean)) ({ frames := 0, cells := 0, slots := 0, locals := 0 } : Room) D k4 [.long (lI (v)), .long (lI (lo)), .long (lI (hi))] [] (0) (0) (q_c_X5_isIn k4 v lo hi) := by
  refine zC_of (cc := cX5_isIn) (by decide) (Nat.le_of_ble_eq_true rfl) (fun pp ee ss mm bl me co AA H locs ls E hr hlocks hin G hl => ?_)
  have hl : lv_has ls 6 [(0, .long (lI (v))), (2, .long (lI (lo))), (4, .long (lI (hi)))] := hl
  have q1 := lcI_lt (rng_L hr9.1) (rng_L hr9.2.1)
  have q2 := lcI_gt (rng_L hr9.1) (rng_L hr9.2.2)
  refine z_lload_n E hl 0 rfl dX5_isIn_0 rfl ?_
  refine z_lload_n E hl 1 rfl dX5_isIn_1 rfl ?_
  refine z_lcmp E dX5_isIn_2 ?_
  refine z_if_lt (tgt := 17) E dX5_isIn_3 (by decide) (lcI_rng _ _) (fun c_3 => absurd c_3 (by have := q1.mp c_3; omega)) (fun c_3 => ?_)
  refine z_lload_n E hl 0 rfl dX5_isIn_6 rfl ?_
  refine z_lload E hl 2 rfl dX5_isIn_7 ?_
  refine z_lcmp E dX5_isIn_9 ?_
  refine z_if_gt (tgt := 17) E dX5_isIn_10 (by decide) (lcI_rng _ _) (fun c_10 => absurd c_10 (by have := q2.mp c_10; omega)) (fun c_10 => ?_)
  refine z_iconst E dX5_isIn_13 ?_
  refine z_goto (tgt := 18) E dX5_isIn_14 (by decide) ?_
  exact z_zret (w' := []) (v := 1) E hr hlocks G dX5_isIn_18 (by omega) (by omega) (by omega) (zx0 rfl) ⟨rfl, rfl⟩

def q_c_X5_isInF (k4 : Nat → ClassId) (v lo hi : Int) : Option Value → va_W → Prop := (fun (v9 : Option Value) (w9 : va_W) => v9 = some (.int (iI (0))) ∧ w9 = [])
set_option maxHeartbeats 4000000 in
set_option maxRecDepth 100000 in
theorem c_X5_isInF (l : Launch) (D : va_G) (k4 : Nat → ClassId) (v lo hi : Int) (hv : ¬ (lo ≤ v ∧ v ≤ hi)) (hr9 : rng v ∧ rng lo ∧ rng hi) : zC l yX5_isIn (zW yX5_isIn cX5_isIn 6 (some .boolean)) ({ frames := 0, cells := 0, slots := 0, locals := 0 } : Room) D k4 [.long (lI (v)), .long (lI (lo)), .long (lI (hi))] [] (0) (0) (q_c_X5_isInF k4 v lo hi) := by
  refine zC_of (cc := cX5_isIn) (by decide) (Nat.le_of_ble_eq_true rfl) (fun pp ee ss mm bl me co AA H locs ls E hr hlocks hin G hl => ?_)
  have hl : lv_has ls 6 [(0, .long (lI (v))), (2, .long (lI (lo))), (4, .long (lI (hi)))] := hl
  have q1 := lcI_lt (rng_L hr9.1) (rng_L hr9.2.1)
  have q2 := lcI_gt (rng_L hr9.1) (rng_L hr9.2.2)
  refine z_lload_n E hl 0 rfl dX5_isIn_0 rfl ?_
  refine z_lload_n E hl 1 rfl dX5_isIn_1 rfl ?_
  refine z_lcmp E dX5_isIn_2 ?_
  refine z_if_lt (tgt := 17) E dX5_isIn_3 (by decide) (lcI_rng _ _) (fun c_3 => ?_) (fun c_3 => ?_)
  · skip
    refine z_iconst E dX5_isIn_17 ?_
    exact z_zret (w' := []) (v := 0) E hr hlocks G dX5_isIn_18 (by omega) (by omega) (by omega) (zx0 rfl) ⟨rfl, rfl⟩
  · skip
    refine z_lload_n E hl 0 rfl dX5_isIn_6 rfl ?_
    refine z_lload E hl 2 rfl dX5_isIn_7 ?_
    refine z_lcmp E dX5_isIn_9 ?_
    refine z_if_gt (tgt := 17) E dX5_isIn_10 (by decide) (lcI_rng _ _) (fun c_10 => ?_) (fun c_10 => absurd c_10 (by have h8 : ¬ v < lo := (fun h => absurd (q1.mpr h) (by omega)); have h9 := q2.mpr (show hi < v by omega); omega))
    refine z_iconst E dX5_isIn_17 ?_
    exact z_zret (w' := []) (v := 0) E hr hlocks G dX5_isIn_18 (by omega) (by omega) (by omega) (zx0 rfl) ⟨rfl, rfl⟩

def q_c_X5_isMember (k4 : Nat → ClassId) (mo mnw mte mge mus mco mfl mba mdu : Nat) (th : Int) (n p st : Nat) (cc bc pot gr bk btw bhd : Int) (m : Int) : Option Value → va_W → Prop := (fun (v9 : Option Value) (w9 : va_W) => v9 = some (.int (iI (1))) ∧ w9 = [(mo, .inr (5, [.int (iI (th)), .int (iI (((n : Nat) : Int))), .ref mnw, .ref mte, .ref mge, .ref mus, .int (iI (((p : Nat) : Int))), .int (iI (((st : Nat) : Int))), .int (iI (cc)), .int (iI (bc)), .ref mco, .ref mfl, .ref mba, .ref mdu, .long (lI (pot)), .long (lI (gr)), .long (lI (bk)), .int (iI (btw)), .int (iI (bhd))]))])
set_option maxHeartbeats 4000000 in
set_option maxRecDepth 100000 in
theorem c_X5_isMember (l : Launch) (D : va_G) (k4 : Nat → ClassId) (mo mnw mte mge mus mco mfl mba mdu : Nat) (th : Int) (n p st : Nat) (cc bc pot gr bk btw bhd : Int) (m : Int) (hm : 0 ≤ m ∧ m < n) (hr9 : rng m) (hn : n ≤ 6) : zC l yX5_isMember (zW yX5_isMember cX5_isMember 2 (some .boolean)) ({ frames := 1, cells := 0, slots := 0, locals := 25 } : Room) D k4 [.ref mo, .int (iI (m))] [(mo, .inr (5, [.int (iI (th)), .int (iI (((n : Nat) : Int))), .ref mnw, .ref mte, .ref mge, .ref mus, .int (iI (((p : Nat) : Int))), .int (iI (((st : Nat) : Int))), .int (iI (cc)), .int (iI (bc)), .ref mco, .ref mfl, .ref mba, .ref mdu, .long (lI (pot)), .long (lI (gr)), .long (lI (bk)), .int (iI (btw)), .int (iI (bhd))]))] (0) (0) (q_c_X5_isMember k4 mo mnw mte mge mus mco mfl mba mdu th n p st cc bc pot gr bk btw bhd m) := by
  refine zC_of (cc := cX5_isMember) (by decide) (Nat.le_of_ble_eq_true rfl) (fun pp ee ss mm bl me co AA H locs ls E hr hlocks hin G hl => ?_)
  have hl : lv_has ls 2 [(0, .ref mo), (1, .int (iI (m)))] := hl
  obtain ⟨y1, y2⟩ := id hr9
  refine z_iload_n E hl 1 rfl dX5_isMember_0 rfl ?_
  refine z_i2l E dX5_isMember_1 ⟨by omega, by omega⟩ ?_
  refine z_lconst E (z := 0) dX5_isMember_2 (by decide) ?_
  refine z_aload_n E hl 0 rfl dX5_isMember_3 rfl ?_
  refine kg_X5_39 E G 0 rfl rfl dX5_isMember_4 ?_
  refine z_iconst E dX5_isMember_7 ?_
  refine z_isub E dX5_isMember_8 ?_
  refine z_i2l E dX5_isMember_9 ⟨by omega, by omega⟩ ?_
  refine z_callS E G hl.1 (c_X5_isIn l D k4 m 0 (((n : Nat) : Int) - 1) (by omega) ⟨⟨by omega, by omega⟩, ⟨by omega, by omega⟩, ⟨by omega, by omega⟩⟩) kS_X5_42 ⟨rfl, rfl, Nat.le_of_ble_eq_true rfl, Nat.le_of_ble_eq_true rfl⟩ [] rfl (by decide) rfl rfl (Nat.le_of_ble_eq_true rfl) dX5_isMember_10 ⟨(by first | exact Nat.le_of_ble_eq_true rfl | omega | (show _ ≤ (0); omega)), (by first | exact Nat.le_of_ble_eq_true rfl | omega | (show _ ≤ (0); omega))⟩ (fun v9 w9 H locs hq G => ?_)
  obtain ⟨rfl, rfl⟩ := hq
  refine W.eq (g2 := F0 mm 13 ls [.int (iI (1))]) rfl ?_
  have G : zG D AA ss.heap [(mo, .inr (5, [.int (iI (th)), .int (iI (((n : Nat) : Int))), .ref mnw, .ref mte, .ref mge, .ref mus, .int (iI (((p : Nat) : Int))), .int (iI (((st : Nat) : Int))), .int (iI (cc)), .int (iI (bc)), .ref mco, .ref mfl, .ref mba, .ref mdu, .long (lI (pot)), .long (lI (gr)), .long (lI (bk)), .int (iI (btw)), .int (iI (bhd))]))] H locs := G
  exact z_zret (w' := [(mo, .inr (5, [.int (iI (th)), .int (iI (((n : Nat) : Int))), .ref mnw, .ref mte, .ref mge, .ref mus, .int (iI (((p : Nat) : Int))), .int (iI (((st : Nat) : Int))), .int (iI (cc)), .int (iI (bc)), .ref mco, .ref mfl, .ref mba, .ref mdu, .long (lI (pot)), .long (lI (gr)), .long (lI (bk)), .int (iI (btw)), .int (iI (bhd))]))]) (v := 1) E hr hlocks G dX5_isMember_13 (by omega) (by omega) (by omega) (zx0 rfl) ⟨rfl, rfl⟩

def q_c_X5_isMemberF (k4 : Nat → ClassId) (mo mnw mte mge mus mco mfl mba mdu : Nat) (th : Int) (n p st : Nat) (cc bc pot gr bk btw bhd : Int) (m : Int) : Option Value → va_W → Prop := (fun (v9 : Option Value) (w9 : va_W) => v9 = some (.int (iI (0))) ∧ w9 = [(mo, .inr (5, [.int (iI (th)), .int (iI (((n : Nat) : Int))), .ref mnw, .ref mte, .ref mge, .ref mus, .int (iI (((p : Nat) : Int))), .int (iI (((st : Nat) : Int))), .int (iI (cc)), .int (iI (bc)), .ref mco, .ref mfl, .ref mba, .ref mdu, .long (lI (pot)), .long (lI (gr)), .long (lI (bk)), .int (iI (btw)), .int (iI (bhd))]))])
set_option maxHeartbeats 4000000 in
set_option maxRecDepth 100000 in
theorem c_X5_isMemberF (l : Launch) (D : va_G) (k4 : Nat → ClassId) (mo mnw mte mge mus mco mfl mba mdu : Nat) (th : Int) (n p st : Nat) (cc bc pot gr bk btw bhd : Int) (m : Int) (hm : ¬ (0 ≤ m ∧ m < n)) (hr9 : rng m) (hn : n ≤ 6) : zC l yX5_isMember (zW yX5_isMember cX5_isMember 2 (some .boolean)) ({ frames := 1, cells := 0, slots := 0, locals := 25 } : Room) D k4 [.ref mo, .int (iI (m))] [(mo, .inr (5, [.int (iI (th)), .int (iI (((n : Nat) : Int))), .ref mnw, .ref mte, .ref mge, .ref mus, .int (iI (((p : Nat) : Int))), .int (iI (((st : Nat) : Int))), .int (iI (cc)), .int (iI (bc)), .ref mco, .ref mfl, .ref mba, .ref mdu, .long (lI (pot)), .long (lI (gr)), .long (lI (bk)), .int (iI (btw)), .int (iI (bhd))]))] (0) (0) (q_c_X5_isMemberF k4 mo mnw mte mge mus mco mfl mba mdu th n p st cc bc pot gr bk btw bhd m) := by
  refine zC_of (cc := cX5_isMember) (by decide) (Nat.le_of_ble_eq_true rfl) (fun pp ee ss mm bl me co AA H locs ls E hr hlocks hin G hl => ?_)
  have hl : lv_has ls 2 [(0, .ref mo), (1, .int (iI (m)))] := hl
  obtain ⟨y1, y2⟩ := id hr9
  refine z_iload_n E hl 1 rfl dX5_isMember_0 rfl ?_
  refine z_i2l E dX5_isMember_1 ⟨by omega, by omega⟩ ?_
  refine z_lconst E (z := 0) dX5_isMember_2 (by decide) ?_
  refine z_aload_n E hl 0 rfl dX5_isMember_3 rfl ?_
  refine kg_X5_39 E G 0 rfl rfl dX5_isMember_4 ?_
  refine z_iconst E dX5_isMember_7 ?_
  refine z_isub E dX5_isMember_8 ?_
  refine z_i2l E dX5_isMember_9 ⟨by omega, by omega⟩ ?_
  refine z_callS E G hl.1 (c_X5_isInF l D k4 m 0 (((n : Nat) : Int) - 1) (by omega) ⟨⟨by omega, by omega⟩, ⟨by omega, by omega⟩, ⟨by omega, by omega⟩⟩) kS_X5_42 ⟨rfl, rfl, Nat.le_of_ble_eq_true rfl, Nat.le_of_ble_eq_true rfl⟩ [] rfl (by decide) rfl rfl (Nat.le_of_ble_eq_true rfl) dX5_isMember_10 ⟨(by first | exact Nat.le_of_ble_eq_true rfl | omega | (show _ ≤ (0); omega)), (by first | exact Nat.le_of_ble_eq_true rfl | omega | (show _ ≤ (0); omega))⟩ (fun v9 w9 H locs hq G => ?_)
  obtain ⟨rfl, rfl⟩ := hq
  refine W.eq (g2 := F0 mm 13 ls [.int (iI (0))]) rfl ?_
  have G : zG D AA ss.heap [(mo, .inr (5, [.int (iI (th)), .int (iI (((n : Nat) : Int))), .ref mnw, .ref mte, .ref mge, .ref mus, .int (iI (((p : Nat) : Int))), .int (iI (((st : Nat) : Int))), .int (iI (cc)), .int (iI (bc)), .ref mco, .ref mfl, .ref mba, .ref mdu, .long (lI (pot)), .long (lI (gr)), .long (lI (bk)), .int (iI (btw)), .int (iI (bhd))]))] H locs := G
  exact z_zret (w' := [(mo, .inr (5, [.int (iI (th)), .int (iI (((n : Nat) : Int))), .ref mnw, .ref mte, .ref mge, .ref mus, .int (iI (((p : Nat) : Int))), .int (iI (((st : Nat) : Int))), .int (iI (cc)), .int (iI (bc)), .ref mco, .ref mfl, .ref mba, .ref mdu, .long (lI (pot)), .long (lI (gr)), .long (lI (bk)), .int (iI (btw)), .int (iI (bhd))]))]) (v := 0) E hr hlocks G dX5_isMember_13 (by omega) (by omega) (by omega) (zx0 rfl) ⟨rfl, rfl⟩

def q_c_X5_isSlot (k4 : Nat → ClassId) (k : Int) : Option Value → va_W → Prop := (fun (v9 : Option Value) (w9 : va_W) => v9 = some (.int (iI (1))) ∧ w9 = [])
set_option maxHeartbeats 4000000 in
set_option maxRecDepth 100000 in
theorem c_X5_isSlot (l : Launch) (D : va_G) (k4 : Nat → ClassId) (k : Int) (hk : 0 ≤ k ∧ k < 48) (hr9 : rng k) : zC l yX5_isSlot (zW yX5_isSlot cX5_isSlot 1 (some .boolean)) ({ frames := 1, cells := 0, slots := 0, locals := 25 } : Room) D k4 [.int (iI (k))] [] (0) (0) (q_c_X5_isSlot k4 k) := by
  refine zC_of (cc := cX5_isSlot) (by decide) (Nat.le_of_ble_eq_true rfl) (fun pp ee ss mm bl me co AA H locs ls E hr hlocks hin G hl => ?_)
  have hl : lv_has ls 1 [(0, .int (iI (k)))] := hl
  obtain ⟨y1, y2⟩ := id hr9
  refine z_iload_n E hl 0 rfl dX5_isSlot_0 rfl ?_
  refine z_i2l E dX5_isSlot_1 ⟨by omega, by omega⟩ ?_
  refine z_lconst E (z := 0) dX5_isSlot_2 (by decide) ?_
  refine z_ldc2 E (n := (47)) zw_237 (by decide +kernel) dX5_isSlot_3 ?_
  refine z_callS E G hl.1 (c_X5_isIn l D k4 k 0 47 (by omega) ⟨⟨by omega, by omega⟩, ⟨by omega, by omega⟩, ⟨by omega, by omega⟩⟩) kS_X5_42 ⟨rfl, rfl, Nat.le_of_ble_eq_true rfl, Nat.le_of_ble_eq_true rfl⟩ [] rfl (by decide) rfl rfl (Nat.le_of_ble_eq_true rfl) dX5_isSlot_6 ⟨(by first | exact Nat.le_of_ble_eq_true rfl | omega | (show _ ≤ (0); omega)), (by first | exact Nat.le_of_ble_eq_true rfl | omega | (show _ ≤ (0); omega))⟩ (fun v9 w9 H locs hq G => ?_)
  obtain ⟨rfl, rfl⟩ := hq
  refine W.eq (g2 := F0 mm 9 ls [.int (iI (1))]) rfl ?_
  have G : zG D AA ss.heap [] H locs := G
  exact z_zret (w' := []) (v := 1) E hr hlocks G dX5_isSlot_9 (by omega) (by omega) (by omega) (zx0 rfl) ⟨rfl, rfl⟩

def q_c_X5_isSlotF (k4 : Nat → ClassId) (k : Int) : Option Value → va_W → Prop := (fun (v9 : Option Value) (w9 : va_W) => v9 = some (.int (iI (0))) ∧ w9 = [])
set_option maxHeartbeats 4000000 in
set_option maxRecDepth 100000 in
theorem c_X5_isSlotF (l : Launch) (D : va_G) (k4 : Nat → ClassId) (k : Int) (hk : ¬ (0 ≤ k ∧ k < 48)) (hr9 : rng k) : zC l yX5_isSlot (zW yX5_isSlot cX5_isSlot 1 (some .boolean)) ({ frames := 1, cells := 0, slots := 0, locals := 25 } : Room) D k4 [.int (iI (k))] [] (0) (0) (q_c_X5_isSlotF k4 k) := by
  refine zC_of (cc := cX5_isSlot) (by decide) (Nat.le_of_ble_eq_true rfl) (fun pp ee ss mm bl me co AA H locs ls E hr hlocks hin G hl => ?_)
  have hl : lv_has ls 1 [(0, .int (iI (k)))] := hl
  obtain ⟨y1, y2⟩ := id hr9
  refine z_iload_n E hl 0 rfl dX5_isSlot_0 rfl ?_
  refine z_i2l E dX5_isSlot_1 ⟨by omega, by omega⟩ ?_
  refine z_lconst E (z := 0) dX5_isSlot_2 (by decide) ?_
  refine z_ldc2 E (n := (47)) zw_237 (by decide +kernel) dX5_isSlot_3 ?_
  refine z_callS E G hl.1 (c_X5_isInF l D k4 k 0 47 (by omega) ⟨⟨by omega, by omega⟩, ⟨by omega, by omega⟩, ⟨by omega, by omega⟩⟩) kS_X5_42 ⟨rfl, rfl, Nat.le_of_ble_eq_true rfl, Nat.le_of_ble_eq_true rfl⟩ [] rfl (by decide) rfl rfl (Nat.le_of_ble_eq_true rfl) dX5_isSlot_6 ⟨(by first | exact Nat.le_of_ble_eq_true rfl | omega | (show _ ≤ (0); omega)), (by first | exact Nat.le_of_ble_eq_true rfl | omega | (show _ ≤ (0); omega))⟩ (fun v9 w9 H locs hq G => ?_)
  obtain ⟨rfl, rfl⟩ := hq
  refine W.eq (g2 := F0 mm 9 ls [.int (iI (0))]) rfl ?_
  have G : zG D AA ss.heap [] H locs := G
  exact z_zret (w' := []) (v := 0) E hr hlocks G dX5_isSlot_9 (by omega) (by omega) (by omega) (zx0 rfl) ⟨rfl, rfl⟩

def q_c_X5_no (k4 : Nat → ClassId) (mo mnw mte mge mus mco mfl mba mdu : Nat) (th : Int) (n p st : Nat) (cc bc pot gr bk btw bhd : Int) (k : Int) : Option Value → va_W → Prop := (fun (v9 : Option Value) (w9 : va_W) => v9 = some (.int (iI (0))) ∧ w9 = [(mo, .inr (5, [.int (iI (k)), .int (iI (((n : Nat) : Int))), .ref mnw, .ref mte, .ref mge, .ref mus, .int (iI (((p : Nat) : Int))), .int (iI (((st : Nat) : Int))), .int (iI (cc)), .int (iI (bc)), .ref mco, .ref mfl, .ref mba, .ref mdu, .long (lI (pot)), .long (lI (gr)), .long (lI (bk)), .int (iI (btw)), .int (iI (bhd))]))])
set_option maxHeartbeats 4000000 in
set_option maxRecDepth 100000 in
theorem c_X5_no (l : Launch) (D : va_G) (k4 : Nat → ClassId) (mo mnw mte mge mus mco mfl mba mdu : Nat) (th : Int) (n p st : Nat) (cc bc pot gr bk btw bhd : Int) (k : Int)  : zC l yX5_no (zW yX5_no cX5_no 2 (some .int)) ({ frames := 0, cells := 0, slots := 0, locals := 0 } : Room) D k4 [.ref mo, .int (iI (k))] [(mo, .inr (5, [.int (iI (th)), .int (iI (((n : Nat) : Int))), .ref mnw, .ref mte, .ref mge, .ref mus, .int (iI (((p : Nat) : Int))), .int (iI (((st : Nat) : Int))), .int (iI (cc)), .int (iI (bc)), .ref mco, .ref mfl, .ref mba, .ref mdu, .long (lI (pot)), .long (lI (gr)), .long (lI (bk)), .int (iI (btw)), .int (iI (bhd))]))] (0) (0) (q_c_X5_no k4 mo mnw mte mge mus mco mfl mba mdu th n p st cc bc pot gr bk btw bhd k) := by
  refine zC_of (cc := cX5_no) (by decide) (Nat.le_of_ble_eq_true rfl) (fun pp ee ss mm bl me co AA H locs ls E hr hlocks hin G hl => ?_)
  have hl : lv_has ls 2 [(0, .ref mo), (1, .int (iI (k)))] := hl
  refine z_aload_n E hl 0 rfl dX5_no_0 rfl ?_
  refine z_iload_n E hl 1 rfl dX5_no_1 rfl ?_
  refine kp_X5_35 E G 0 rfl (Nat.le_of_ble_eq_true rfl) dX5_no_2 (fun H locs G => ?_)
  have G : zG D AA ss.heap [(mo, .inr (5, [.int (iI (k)), .int (iI (((n : Nat) : Int))), .ref mnw, .ref mte, .ref mge, .ref mus, .int (iI (((p : Nat) : Int))), .int (iI (((st : Nat) : Int))), .int (iI (cc)), .int (iI (bc)), .ref mco, .ref mfl, .ref mba, .ref mdu, .long (lI (pot)), .long (lI (gr)), .long (lI (bk)), .int (iI (btw)), .int (iI (bhd))]))] H locs := G
  refine z_iconst E dX5_no_5 ?_
  exact z_iret (w' := [(mo, .inr (5, [.int (iI (k)), .int (iI (((n : Nat) : Int))), .ref mnw, .ref mte, .ref mge, .ref mus, .int (iI (((p : Nat) : Int))), .int (iI (((st : Nat) : Int))), .int (iI (cc)), .int (iI (bc)), .ref mco, .ref mfl, .ref mba, .ref mdu, .long (lI (pot)), .long (lI (gr)), .long (lI (bk)), .int (iI (btw)), .int (iI (bhd))]))]) (v := 0) E hr hlocks G dX5_no_6 (by omega) (by omega) (zx0 rfl) ⟨rfl, rfl⟩

def q_c_X5_thrown (k4 : Nat → ClassId) (mo mnw mte mge mus mco mfl mba mdu : Nat) (th : Int) (n p st : Nat) (cc bc pot gr bk btw bhd : Int) : Option Value → va_W → Prop := (fun (v9 : Option Value) (w9 : va_W) => v9 = some (.int (iI (th))) ∧ w9 = [(mo, .inr (5, [.int (iI (th)), .int (iI (((n : Nat) : Int))), .ref mnw, .ref mte, .ref mge, .ref mus, .int (iI (((p : Nat) : Int))), .int (iI (((st : Nat) : Int))), .int (iI (cc)), .int (iI (bc)), .ref mco, .ref mfl, .ref mba, .ref mdu, .long (lI (pot)), .long (lI (gr)), .long (lI (bk)), .int (iI (btw)), .int (iI (bhd))]))])
set_option maxHeartbeats 4000000 in
set_option maxRecDepth 100000 in
theorem c_X5_thrown (l : Launch) (D : va_G) (k4 : Nat → ClassId) (mo mnw mte mge mus mco mfl mba mdu : Nat) (th : Int) (n p st : Nat) (cc bc pot gr bk btw bhd : Int)  : zC l yX5_thrown (zW yX5_thrown cX5_thrown 1 (some .int)) ({ frames := 0, cells := 0, slots := 0, locals := 0 } : Room) D k4 [.ref mo] [(mo, .inr (5, [.int (iI (th)), .int (iI (((n : Nat) : Int))), .ref mnw, .ref mte, .ref mge, .ref mus, .int (iI (((p : Nat) : Int))), .int (iI (((st : Nat) : Int))), .int (iI (cc)), .int (iI (bc)), .ref mco, .ref mfl, .ref mba, .ref mdu, .long (lI (pot)), .long (lI (gr)), .long (lI (bk)), .int (iI (btw)), .int (iI (bhd))]))] (0) (0) (q_c_X5_thrown k4 mo mnw mte mge mus mco mfl mba mdu th n p st cc bc pot gr bk btw bhd) := by
  refine zC_of (cc := cX5_thrown) (by decide) (Nat.le_of_ble_eq_true rfl) (fun pp ee ss mm bl me co AA H locs ls E hr hlocks hin G hl => ?_)
  have hl : lv_has ls 1 [(0, .ref mo)] := hl
  refine z_aload_n E hl 0 rfl dX5_thrown_0 rfl ?_
  refine kg_X5_35 E G 0 rfl rfl dX5_thrown_1 ?_
  exact z_iret (w' := [(mo, .inr (5, [.int (iI (th)), .int (iI (((n : Nat) : Int))), .ref mnw, .ref mte, .ref mge, .ref mus, .int (iI (((p : Nat) : Int))), .int (iI (((st : Nat) : Int))), .int (iI (cc)), .int (iI (bc)), .ref mco, .ref mfl, .ref mba, .ref mdu, .long (lI (pot)), .long (lI (gr)), .long (lI (bk)), .int (iI (btw)), .int (iI (bhd))]))]) (v := th) E hr hlocks G dX5_thrown_4 (by omega) (by omega) (zx0 rfl) ⟨rfl, rfl⟩

def q_c_X5_content (k4 : Nat → ClassId) (mo mnw mte mge mus mco mfl mba mdu : Nat) (th : Int) (n p st : Nat) (cc bc pot gr bk btw bhd : Int) : Option Value → va_W → Prop := (fun (v9 : Option Value) (w9 : va_W) => v9 = some (.int (iI (bc))) ∧ w9 = [(mo, .inr (5, [.int (iI (0)), .int (iI (((n : Nat) : Int))), .ref mnw, .ref mte, .ref mge, .ref mus, .int (iI (((p : Nat) : Int))), .int (iI (((st : Nat) : Int))), .int (iI (cc)), .int (iI (bc)), .ref mco, .ref mfl, .ref mba, .ref mdu, .long (lI (pot)), .long (lI (gr)), .long (lI (bk)), .int (iI (btw)), .int (iI (bhd))]))])
set_option maxHeartbeats 4000000 in
set_option maxRecDepth 100000 in
theorem c_X5_content (l : Launch) (D : va_G) (k4 : Nat → ClassId) (mo mnw mte mge mus mco mfl mba mdu : Nat) (th : Int) (n p st : Nat) (cc bc pot gr bk btw bhd : Int)  : zC l yX5_content (zW yX5_content cX5_content 1 (some .int)) ({ frames := 0, cells := 0, slots := 0, locals := 0 } : Room) D k4 [.ref mo] [(mo, .inr (5, [.int (iI (th)), .int (iI (((n : Nat) : Int))), .ref mnw, .ref mte, .ref mge, .ref mus, .int (iI (((p : Nat) : Int))), .int (iI (((st : Nat) : Int))), .int (iI (cc)), .int (iI (bc)), .ref mco, .ref mfl, .ref mba, .ref mdu, .long (lI (pot)), .long (lI (gr)), .long (lI (bk)), .int (iI (btw)), .int (iI (bhd))]))] (0) (0) (q_c_X5_content k4 mo mnw mte mge mus mco mfl mba mdu th n p st cc bc pot gr bk btw bhd) := by
  refine zC_of (cc := cX5_content) (by decide) (Nat.le_of_ble_eq_true rfl) (fun pp ee ss mm bl me co AA H locs ls E hr hlocks hin G hl => ?_)
  have hl : lv_has ls 1 [(0, .ref mo)] := hl
  refine z_aload_n E hl 0 rfl dX5_content_0 rfl ?_
  refine z_iconst E dX5_content_1 ?_
  refine kp_X5_35 E G 0 rfl (Nat.le_of_ble_eq_true rfl) dX5_content_2 (fun H locs G => ?_)
  have G : zG D AA ss.heap [(mo, .inr (5, [.int (iI (0)), .int (iI (((n : Nat) : Int))), .ref mnw, .ref mte, .ref mge, .ref mus, .int (iI (((p : Nat) : Int))), .int (iI (((st : Nat) : Int))), .int (iI (cc)), .int (iI (bc)), .ref mco, .ref mfl, .ref mba, .ref mdu, .long (lI (pot)), .long (lI (gr)), .long (lI (bk)), .int (iI (btw)), .int (iI (bhd))]))] H locs := G
  refine z_aload_n E hl 0 rfl dX5_content_5 rfl ?_
  refine kg_X5_69 E G 0 rfl rfl dX5_content_6 ?_
  exact z_iret (w' := [(mo, .inr (5, [.int (iI (0)), .int (iI (((n : Nat) : Int))), .ref mnw, .ref mte, .ref mge, .ref mus, .int (iI (((p : Nat) : Int))), .int (iI (((st : Nat) : Int))), .int (iI (cc)), .int (iI (bc)), .ref mco, .ref mfl, .ref mba, .ref mdu, .long (lI (pot)), .long (lI (gr)), .long (lI (bk)), .int (iI (btw)), .int (iI (bhd))]))]) (v := bc) E hr hlocks G dX5_content_9 (by omega) (by omega) (zx0 rfl) ⟨rfl, rfl⟩

def q_c_X5_members (k4 : Nat → ClassId) (mo mnw mte mge mus mco mfl mba mdu : Nat) (th : Int) (n p st : Nat) (cc bc pot gr bk btw bhd : Int) : Option Value → va_W → Prop := (fun (v9 : Option Value) (w9 : va_W) => v9 = some (.int (iI (((n : Nat) : Int)))) ∧ w9 = [(mo, .inr (5, [.int (iI (0)), .int (iI (((n : Nat) : Int))), .ref mnw, .ref mte, .ref mge, .ref mus, .int (iI (((p : Nat) : Int))), .int (iI (((st : Nat) : Int))), .int (iI (cc)), .int (iI (bc)), .ref mco, .ref mfl, .ref mba, .ref mdu, .long (lI (pot)), .long (lI (gr)), .long (lI (bk)), .int (iI (btw)), .int (iI (bhd))]))])
set_option maxHeartbeats 4000000 in
set_option maxRecDepth 100000 in
theorem c_X5_members (l : Launch) (D : va_G) (k4 : Nat → ClassId) (mo mnw mte mge mus mco mfl mba mdu : Nat) (th : Int) (n p st : Nat) (cc bc pot gr bk btw bhd : Int)  : zC l yX5_members (zW yX5_members cX5_members 1 (some .int)) ({ frames := 0, cells := 0, slots := 0, locals := 0 } : Room) D k4 [.ref mo] [(mo, .inr (5, [.int (iI (th)), .int (iI (((n : Nat) : Int))), .ref mnw, .ref mte, .ref mge, .ref mus, .int (iI (((p : Nat) : Int))), .int (iI (((st : Nat) : Int))), .int (iI (cc)), .int (iI (bc)), .ref mco, .ref mfl, .ref mba, .ref mdu, .long (lI (pot)), .long (lI (gr)), .long (lI (bk)), .int (iI (btw)), .int (iI (bhd))]))] (0) (0) (q_c_X5_members k4 mo mnw mte mge mus mco mfl mba mdu th n p st cc bc pot gr bk btw bhd) := by
  refine zC_of (cc := cX5_members) (by decide) (Nat.le_of_ble_eq_true rfl) (fun pp ee ss mm bl me co AA H locs ls E hr hlocks hin G hl => ?_)
  have hl : lv_has ls 1 [(0, .ref mo)] := hl
  refine z_aload_n E hl 0 rfl dX5_members_0 rfl ?_
  refine z_iconst E dX5_members_1 ?_
  refine kp_X5_35 E G 0 rfl (Nat.le_of_ble_eq_true rfl) dX5_members_2 (fun H locs G => ?_)
  have G : zG D AA ss.heap [(mo, .inr (5, [.int (iI (0)), .int (iI (((n : Nat) : Int))), .ref mnw, .ref mte, .ref mge, .ref mus, .int (iI (((p : Nat) : Int))), .int (iI (((st : Nat) : Int))), .int (iI (cc)), .int (iI (bc)), .ref mco, .ref mfl, .ref mba, .ref mdu, .long (lI (pot)), .long (lI (gr)), .long (lI (bk)), .int (iI (btw)), .int (iI (bhd))]))] H locs := G
  refine z_aload_n E hl 0 rfl dX5_members_5 rfl ?_
  refine kg_X5_39 E G 0 rfl rfl dX5_members_6 ?_
  exact z_iret (w' := [(mo, .inr (5, [.int (iI (0)), .int (iI (((n : Nat) : Int))), .ref mnw, .ref mte, .ref mge, .ref mus, .int (iI (((p : Nat) : Int))), .int (iI (((st : Nat) : Int))), .int (iI (cc)), .int (iI (bc)), .ref mco, .ref mfl, .ref mba, .ref mdu, .long (lI (pot)), .long (lI (gr)), .long (lI (bk)), .int (iI (btw)), .int (iI (bhd))]))]) (v := ((n : Nat) : Int)) E hr hlocks G dX5_members_9 (by omega) (by omega) (zx0 rfl) ⟨rfl, rfl⟩

def q_c_X5_present (k4 : Nat → ClassId) (mo mnw mte mge mus mco mfl mba mdu : Nat) (th : Int) (n p st : Nat) (cc bc pot gr bk btw bhd : Int) : Option Value → va_W → Prop := (fun (v9 : Option Value) (w9 : va_W) => v9 = some (.int (iI (((p : Nat) : Int)))) ∧ w9 = [(mo, .inr (5, [.int (iI (0)), .int (iI (((n : Nat) : Int))), .ref mnw, .ref mte, .ref mge, .ref mus, .int (iI (((p : Nat) : Int))), .int (iI (((st : Nat) : Int))), .int (iI (cc)), .int (iI (bc)), .ref mco, .ref mfl, .ref mba, .ref mdu, .long (lI (pot)), .long (lI (gr)), .long (lI (bk)), .int (iI (btw)), .int (iI (bhd))]))])
set_option maxHeartbeats 4000000 in
set_option maxRecDepth 100000 in
theorem c_X5_present (l : Launch) (D : va_G) (k4 : Nat → ClassId) (mo mnw mte mge mus mco mfl mba mdu : Nat) (th : Int) (n p st : Nat) (cc bc pot gr bk btw bhd : Int)  : zC l yX5_present (zW yX5_present cX5_present 1 (some .int)) ({ frames := 0, cells := 0, slots := 0, locals := 0 } : Room) D k4 [.ref mo] [(mo, .inr (5, [.int (iI (th)), .int (iI (((n : Nat) : Int))), .ref mnw, .ref mte, .ref mge, .ref mus, .int (iI (((p : Nat) : Int))), .int (iI (((st : Nat) : Int))), .int (iI (cc)), .int (iI (bc)), .ref mco, .ref mfl, .ref mba, .ref mdu, .long (lI (pot)), .long (lI (gr)), .long (lI (bk)), .int (iI (btw)), .int (iI (bhd))]))] (0) (0) (q_c_X5_present k4 mo mnw mte mge mus mco mfl mba mdu th n p st cc bc pot gr bk btw bhd) := by
  refine zC_of (cc := cX5_present) (by decide) (Nat.le_of_ble_eq_true rfl) (fun pp ee ss mm bl me co AA H locs ls E hr hlocks hin G hl => ?_)
  have hl : lv_has ls 1 [(0, .ref mo)] := hl
  refine z_aload_n E hl 0 rfl dX5_present_0 rfl ?_
  refine z_iconst E dX5_present_1 ?_
  refine kp_X5_35 E G 0 rfl (Nat.le_of_ble_eq_true rfl) dX5_present_2 (fun H locs G => ?_)
  have G : zG D AA ss.heap [(mo, .inr (5, [.int (iI (0)), .int (iI (((n : Nat) : Int))), .ref mnw, .ref mte, .ref mge, .ref mus, .int (iI (((p : Nat) : Int))), .int (iI (((st : Nat) : Int))), .int (iI (cc)), .int (iI (bc)), .ref mco, .ref mfl, .ref mba, .ref mdu, .long (lI (pot)), .long (lI (gr)), .long (lI (bk)), .int (iI (btw)), .int (iI (bhd))]))] H locs := G
  refine z_aload_n E hl 0 rfl dX5_present_5 rfl ?_
  refine kg_X5_48 E G 0 rfl rfl dX5_present_6 ?_
  exact z_iret (w' := [(mo, .inr (5, [.int (iI (0)), .int (iI (((n : Nat) : Int))), .ref mnw, .ref mte, .ref mge, .ref mus, .int (iI (((p : Nat) : Int))), .int (iI (((st : Nat) : Int))), .int (iI (cc)), .int (iI (bc)), .ref mco, .ref mfl, .ref mba, .ref mdu, .long (lI (pot)), .long (lI (gr)), .long (lI (bk)), .int (iI (btw)), .int (iI (bhd))]))]) (v := ((p : Nat) : Int)) E hr hlocks G dX5_present_9 (by omega) (by omega) (zx0 rfl) ⟨rfl, rfl⟩

def q_c_X5_corrections (k4 : Nat → ClassId) (mo mnw mte mge mus mco mfl mba mdu : Nat) (th : Int) (n p st : Nat) (cc bc pot gr bk btw bhd : Int) : Option Value → va_W → Prop := (fun (v9 : Option Value) (w9 : va_W) => v9 = some (.int (iI (cc))) ∧ w9 = [(mo, .inr (5, [.int (iI (0)), .int (iI (((n : Nat) : Int))), .ref mnw, .ref mte, .ref mge, .ref mus, .int (iI (((p : Nat) : Int))), .int (iI (((st : Nat) : Int))), .int (iI (cc)), .int (iI (bc)), .ref mco, .ref mfl, .ref mba, .ref mdu, .long (lI (pot)), .long (lI (gr)), .long (lI (bk)), .int (iI (btw)), .int (iI (bhd))]))])
set_option maxHeartbeats 4000000 in
set_option maxRecDepth 100000 in
theorem c_X5_corrections (l : Launch) (D : va_G) (k4 : Nat → ClassId) (mo mnw mte mge mus mco mfl mba mdu : Nat) (th : Int) (n p st : Nat) (cc bc pot gr bk btw bhd : Int)  : zC l yX5_corrections (zW yX5_corrections cX5_corrections 1 (some .int)) ({ frames := 0, cells := 0, slots := 0, locals := 0 } : Room) D k4 [.ref mo] [(mo, .inr (5, [.int (iI (th)), .int (iI (((n : Nat) : Int))), .ref mnw, .ref mte, .ref mge, .ref mus, .int (iI (((p : Nat) : Int))), .int (iI (((st : Nat) : Int))), .int (iI (cc)), .int (iI (bc)), .ref mco, .ref mfl, .ref mba, .ref mdu, .long (lI (pot)), .long (lI (gr)), .long (lI (bk)), .int (iI (btw)), .int (iI (bhd))]))] (0) (0) (q_c_X5_corrections k4 mo mnw mte mge mus mco mfl mba mdu th n p st cc bc pot gr bk btw bhd) := by
  refine zC_of (cc := cX5_corrections) (by decide) (Nat.le_of_ble_eq_true rfl) (fun pp ee ss mm bl me co AA H locs ls E hr hlocks hin G hl => ?_)
  have hl : lv_has ls 1 [(0, .ref mo)] := hl
  refine z_aload_n E hl 0 rfl dX5_corrections_0 rfl ?_
  refine z_iconst E dX5_corrections_1 ?_
  refine kp_X5_35 E G 0 rfl (Nat.le_of_ble_eq_true rfl) dX5_corrections_2 (fun H locs G => ?_)
  have G : zG D AA ss.heap [(mo, .inr (5, [.int (iI (0)), .int (iI (((n : Nat) : Int))), .ref mnw, .ref mte, .ref mge, .ref mus, .int (iI (((p : Nat) : Int))), .int (iI (((st : Nat) : Int))), .int (iI (cc)), .int (iI (bc)), .ref mco, .ref mfl, .ref mba, .ref mdu, .long (lI (pot)), .long (lI (gr)), .long (lI (bk)), .int (iI (btw)), .int (iI (bhd))]))] H locs := G
  refine z_aload_n E hl 0 rfl dX5_corrections_5 rfl ?_
  refine kg_X5_156 E G 0 rfl rfl dX5_corrections_6 ?_
  exact z_iret (w' := [(mo, .inr (5, [.int (iI (0)), .int (iI (((n : Nat) : Int))), .ref mnw, .ref mte, .ref mge, .ref mus, .int (iI (((p : Nat) : Int))), .int (iI (((st : Nat) : Int))), .int (iI (cc)), .int (iI (bc)), .ref mco, .ref mfl, .ref mba, .ref mdu, .long (lI (pot)), .long (lI (gr)), .long (lI (bk)), .int (iI (btw)), .int (iI (bhd))]))]) (v := cc) E hr hlocks G dX5_corrections_9 (by omega) (by omega) (zx0 rfl) ⟨rfl, rfl⟩

def q_c_X5_sum (k4 : Nat → ClassId) (a : Nat) (F : Nat → Int) : Option Value → va_W → Prop := (fun (v9 : Option Value) (w9 : va_W) => v9 = some (.int (iI (sumN F 6))) ∧ w9 = [(a, .inl (k4 0, 6, .inl (fun i9 => iI (F i9))))])
set_option maxHeartbeats 4000000 in
set_option maxRecDepth 100000 in
theorem c_X5_sum (l : Launch) (D : va_G) (k4 : Nat → ClassId) (a : Nat) (F : Nat → Int)  : zC l yX5_sum (zW yX5_sum cX5_sum 6 (some .int)) ({ frames := 0, cells := 0, slots := 0, locals := 0 } : Room) D k4 [.ref a] [(a, .inl (k4 0, 6, .inl (fun i9 => iI (F i9))))] (0) (0) (q_c_X5_sum k4 a F) := by
  refine zC_of (cc := cX5_sum) (by decide) (Nat.le_of_ble_eq_true rfl) (fun pp ee ss mm bl me co AA H locs ls E hr hlocks hin G hl => ?_)
  have hl : lv_has ls 6 [(0, .ref a)] := hl
  refine z_iconst E dX5_sum_0 ?_
  refine z_istore_n E [(1, .int (iI (0))), (0, .ref a)] dX5_sum_1 rfl hl (by decide) rfl (fun ls hl => ?_)
  refine z_aload_n E hl 1 rfl dX5_sum_2 rfl ?_
  refine z_astore_n E [(2, .ref a), (1, .int (iI (0))), (0, .ref a)] dX5_sum_3 rfl hl (by decide) rfl (fun ls hl => ?_)
  refine z_aload_n E hl 0 rfl dX5_sum_4 rfl ?_
  refine z_alen E G 0 0 rfl rfl dX5_sum_5 ?_
  refine z_istore_n E [(3, .int (iI (((6 : Nat) : Int)))), (2, .ref a), (1, .int (iI (0))), (0, .ref a)] dX5_sum_6 rfl hl (by decide) rfl (fun ls hl => ?_)
  refine z_iconst E dX5_sum_7 ?_
  refine z_istore E [(4, .int (iI (0))), (3, .int (iI (((6 : Nat) : Int)))), (2, .ref a), (1, .int (iI (0))), (0, .ref a)] dX5_sum_8 hl (by decide) rfl (fun ls hl => ?_)
  have hp10_1 : ∀ (n9 : Nat) (j : Nat) (H : Heap) (locs : List Loc) (ls : Array Slot), (6 - j < n9) → (j ≤ 6) → zG D AA ss.heap [(a, .inl (k4 0, 6, .inl (fun i9 => iI (F i9))))] H locs → lv_has ls 6 [(0, .ref a), (1, .int (iI (sumN F j))), (2, .ref a), (3, .int (iI (((6 : Nat) : Int)))), (4, .int (iI (((j : Nat) : Int))))] → W pp l ee ({ frames := 0, cells := 0, slots := 0, locals := 0 } : Room) ss mm ([.ref a] : List Value).toArray bl me co H locs (0) (0) (MQ bl (zQ D [(a, .inl (k4 0, 6, .inl (fun i9 => iI (F i9))))] AA (q_c_X5_sum k4 a F)) ([.ref a] : List Value).toArray ss (0) (0) AA) (F0 mm 10 ls []) := by
    intro n9
    induction n9 with
    | zero => intro j H locs ls hn9 hj G hl; exact absurd hn9 (by omega)
    | succ n9 ih =>
      intro j H locs ls hn9 hj G hl
      have ih10_1 := @ih
      refine z_iload E hl 4 rfl dX5_sum_10 ?_
      refine z_iload_n E hl 3 rfl dX5_sum_12 rfl ?_
      refine z_icmp_ge (tgt := 33) E dX5_sum_13 (by decide) ⟨by omega, by omega⟩ ⟨by omega, by omega⟩ (fun c_13 => ?_) (fun c_13 => ?_)
      · skip
        obtain rfl : j = 6 := by omega
        refine z_iload_n E hl 1 rfl dX5_sum_33 rfl ?_
        exact z_iret (w' := [(a, .inl (k4 0, 6, .inl (fun i9 => iI (F i9))))]) (v := sumN F 6) E hr hlocks G dX5_sum_34 (by omega) (by omega) (zx0 rfl) ⟨rfl, rfl⟩
      · skip
        refine z_aload_n E hl 2 rfl dX5_sum_16 rfl ?_
        refine z_iload E hl 4 rfl dX5_sum_17 ?_
        refine z_iald E G 0 rfl (j) rfl (by omega) (by decide) dX5_sum_19 ?_
        refine z_istore E [(5, .int (iI (F j))), (0, .ref a), (1, .int (iI (sumN F j))), (2, .ref a), (3, .int (iI (((6 : Nat) : Int)))), (4, .int (iI (((j : Nat) : Int))))] dX5_sum_20 hl (by decide) rfl (fun ls hl => ?_)
        refine z_iload_n E hl 2 rfl dX5_sum_22 rfl ?_
        refine z_iload E hl 0 rfl dX5_sum_23 ?_
        refine z_iadd E dX5_sum_25 ?_
        refine z_istore_n E [(1, .int (iI ((sumN F j) + (F j)))), (5, .int (iI (F j))), (0, .ref a), (2, .ref a), (3, .int (iI (((6 : Nat) : Int)))), (4, .int (iI (((j : Nat) : Int))))] dX5_sum_26 rfl hl (by decide) rfl (fun ls hl => ?_)
        refine z_iinc E [(4, .int (iI (((j : Nat) : Int) + 1))), (1, .int (iI ((sumN F j) + (F j)))), (5, .int (iI (F j))), (0, .ref a), (2, .ref a), (3, .int (iI (((6 : Nat) : Int))))] dX5_sum_27 hl (k := 5) rfl (by decide) rfl (fun ls hl => ?_)
        refine z_goto (tgt := 10) E dX5_sum_30 (by decide) ?_
        exact ih10_1 (j + 1) _ _ _ (by omega) (by omega) G (lv_sub hl [3, 1, 4, 5, 0] rfl)
  exact hp10_1 7 0 _ _ _ (by decide) (by decide) G (lv_sub hl [4, 3, 2, 1, 0] rfl)

def q_c_X5_take (k4 : Nat → ClassId) (a b : Nat) (F X : Nat → Int) : Option Value → va_W → Prop := (fun (v9 : Option Value) (w9 : va_W) => v9 = none ∧ w9 = [(a, .inl (k4 0, 6, .inl (fun i9 => iI ((fun m => F m - X m) i9)))), (b, .inl (k4 0, 6, .inl (fun i9 => iI (X i9))))])
set_option maxHeartbeats 4000000 in
set_option maxRecDepth 100000 in
theorem c_X5_take (l : Launch) (D : va_G) (k4 : Nat → ClassId) (a b : Nat) (F X : Nat → Int)  : zC l yX5_take (zW yX5_take cX5_take 3 none) ({ frames := 0, cells := 0, slots := 0, locals := 0 } : Room) D k4 [.ref a, .ref b] [(a, .inl (k4 0, 6, .inl (fun i9 => iI (F i9)))), (b, .inl (k4 0, 6, .inl (fun i9 => iI (X i9))))] (0) (0) (q_c_X5_take k4 a b F X) := by
  refine zC_of (cc := cX5_take) (by decide) (Nat.le_of_ble_eq_true rfl) (fun pp ee ss mm bl me co AA H locs ls E hr hlocks hin G hl => ?_)
  have hl : lv_has ls 3 [(0, .ref a), (1, .ref b)] := hl
  refine z_iconst E dX5_take_0 ?_
  refine z_istore_n E [(2, .int (iI (0))), (0, .ref a), (1, .ref b)] dX5_take_1 rfl hl (by decide) rfl (fun ls hl => ?_)
  have hp2_1 : ∀ (n9 : Nat) (j : Nat) (H : Heap) (locs : List Loc) (ls : Array Slot), (6 - j < n9) → (j ≤ 6) → zG D AA ss.heap [(a, .inl (k4 0, 6, .inl (fun i9 => iI ((cp (fun m => F m - X m) F j) i9)))), (b, .inl (k4 0, 6, .inl (fun i9 => iI (X i9))))] H locs → lv_has ls 3 [(0, .ref a), (1, .ref b), (2, .int (iI (((j : Nat) : Int))))] → W pp l ee ({ frames := 0, cells := 0, slots := 0, locals := 0 } : Room) ss mm ([.ref a, .ref b] : List Value).toArray bl me co H locs (0) (0) (MQ bl (zQ D [(a, .inl (k4 0, 6, .inl (fun i9 => iI (F i9)))), (b, .inl (k4 0, 6, .inl (fun i9 => iI (X i9))))] AA (q_c_X5_take k4 a b F X)) ([.ref a, .ref b] : List Value).toArray ss (0) (0) AA) (F0 mm 2 ls []) := by
    intro n9
    induction n9 with
    | zero => intro j H locs ls hn9 hj G hl; exact absurd hn9 (by omega)
    | succ n9 ih =>
      intro j H locs ls hn9 hj G hl
      have ih2_1 := @ih
      refine z_iload_n E hl 2 rfl dX5_take_2 rfl ?_
      refine z_bipush E dX5_take_3 (by decide) ?_
      refine z_icmp_ge (tgt := 23) E dX5_take_5 (by decide) ⟨by omega, by omega⟩ (by decide) (fun c_5 => ?_) (fun c_5 => ?_)
      · skip
        obtain rfl : j = 6 := by omega
        have G := z_ext G 0 rfl (F' := (fun m => F m - X m)) (fun k hk => cp_in hk)
        have G : zG D AA ss.heap [(a, .inl (k4 0, 6, .inl (fun i9 => iI ((fun m => F m - X m) i9)))), (b, .inl (k4 0, 6, .inl (fun i9 => iI (X i9))))] H locs := G
        exact z_vret (w' := [(a, .inl (k4 0, 6, .inl (fun i9 => iI ((fun m => F m - X m) i9)))), (b, .inl (k4 0, 6, .inl (fun i9 => iI (X i9))))]) E hr hlocks G dX5_take_23 (by omega) (by omega) (zx0 rfl) ⟨rfl, rfl⟩
      · skip
        refine z_aload_n E hl 0 rfl dX5_take_8 rfl ?_
        refine z_iload_n E hl 2 rfl dX5_take_9 rfl ?_
        refine lv_dup2_11 E.1 E.2.1 dX5_take_10 rfl rfl ?_
        refine z_iald E G 0 rfl (j) rfl (by omega) (by decide) dX5_take_11 ?_
        refine z_aload_n E hl 1 rfl dX5_take_12 rfl ?_
        refine z_iload_n E hl 2 rfl dX5_take_13 rfl ?_
        refine z_iald E G 1 rfl (j) rfl (by omega) (by decide) dX5_take_14 ?_
        refine z_isub E dX5_take_15 ?_
        refine z_eq (y := (fun m => F m - X m) j) (by show cp (fun m => F m - X m) F j j - X j = F j - X j; rw [cp_out (Nat.le_refl _)]) ?_
        refine z_iast E G 0 rfl (j) rfl (by omega) (by decide) dX5_take_16 (fun H locs G => ?_)
        have G : zG D AA ss.heap [(a, .inl (k4 0, 6, .inl (fun i9 => iI ((up (cp (fun m => F m - X m) F j) (j) ((fun m => F m - X m) j)) i9)))), (b, .inl (k4 0, 6, .inl (fun i9 => iI (X i9))))] H locs := G
        rw [show up (cp (fun m => F m - X m) F j) j ((fun m => F m - X m) j) = cp (fun m => F m - X m) F (j + 1) from cp_s (fun m => F m - X m) F j] at G
        refine z_iinc E [(2, .int (iI (((j : Nat) : Int) + 1))), (0, .ref a), (1, .ref b)] dX5_take_17 hl (k := 2) rfl (by decide) rfl (fun ls hl => ?_)
        refine z_goto (tgt := 2) E dX5_take_20 (by decide) ?_
        exact ih2_1 (j + 1) _ _ _ (by omega) (by omega) G (lv_sub hl [1, 2, 0] rfl)
  exact hp2_1 7 0 _ _ _ (by decide) (by decide) G (lv_sub hl [1, 2, 0] rfl)

def q_c_X5_withRoom (k4 : Nat → ClassId) (mo mnw mte mge mus mco mfl mba mdu : Nat) (th : Int) (n p st : Nat) (cc bc pot gr bk btw bhd : Int) (ar ai : Nat) (R : Nat → Int) (T : sS) (ab : Nat) : Option Value → va_W → Prop := (fun (v9 : Option Value) (w9 : va_W) => ∃ (q9 : Nat), v9 = some (.ref q9) ∧ w9 = [(mo, .inr (5, [.int (iI (th)), .int (iI (((n : Nat) : Int))), .ref mnw, .ref mte, .ref mge, .ref mus, .int (iI (((p : Nat) : Int))), .int (iI (((st : Nat) : Int))), .int (iI (cc)), .int (iI (bc)), .ref mco, .ref mfl, .ref mba, .ref mdu, .long (lI (pot)), .long (lI (gr)), .long (lI (bk)), .int (iI (btw)), .int (iI (bhd))])), (ar, .inl (k4 0, 6, .inl (fun i9 => iI (R i9)))), (ai, .inl (k4 0, 6, .inl (fun i9 => iI (T.2.2 i9)))), (q9, .inl (k4 2, 6, .inl (fun i9 => iI ((rmF T.2.1) i9))))])
set_option maxHeartbeats 4000000 in
set_option maxRecDepth 100000 in
theorem c_X5_withRoom (l : Launch) (D : va_G) (k4 : Nat → ClassId) (mo mnw mte mge mus mco mfl mba mdu : Nat) (th : Int) (n p st : Nat) (cc bc pot gr bk btw bhd : Int) (ar ai : Nat) (R : Nat → Int) (T : sS) (ab : Nat) (hn : n ≤ 6) (hT : sOK T) (hsi : sIn R T) (hR : rdOK R) (h0 : nul n T.2.1) : zC l yX5_withRoom (zW yX5_withRoom cX5_withRoom 7 (some (.array .boolean))) ({ frames := 0, cells := 1, slots := 6, locals := 0 } : Room) D k4 [.ref mo, .ref ar, .ref ai, .ref ab, .int (iI (0))] [(mo, .inr (5, [.int (iI (th)), .int (iI (((n : Nat) : Int))), .ref mnw, .ref mte, .ref mge, .ref mus, .int (iI (((p : Nat) : Int))), .int (iI (((st : Nat) : Int))), .int (iI (cc)), .int (iI (bc)), .ref mco, .ref mfl, .ref mba, .ref mdu, .long (lI (pot)), .long (lI (gr)), .long (lI (bk)), .int (iI (btw)), .int (iI (bhd))])), (ar, .inl (k4 0, 6, .inl (fun i9 => iI (R i9)))), (ai, .inl (k4 0, 6, .inl (fun i9 => iI (T.2.2 i9))))] (1) (6) (q_c_X5_withRoom k4 mo mnw mte mge mus mco mfl mba mdu th n p st cc bc pot gr bk btw bhd ar ai R T ab) := by
  refine zC_of (cc := cX5_withRoom) (by decide) (Nat.le_of_ble_eq_true rfl) (fun pp ee ss mm bl me co AA H locs ls E hr hlocks hin G hl => ?_)
  have hl : lv_has ls 7 [(0, .ref mo), (1, .ref ar), (2, .ref ai), (3, .ref ab), (4, .int (iI (0)))] := hl
  refine z_bipush E dX5_withRoom_0 (by decide) ?_
  refine z_newa_boolean E G (n := 6) rfl zw_450 (by first | exact Nat.le_of_ble_eq_true rfl | omega | (show _ ≤ (1); omega)) (by first | exact Nat.le_of_ble_eq_true rfl | omega | (show _ ≤ (6); omega)) (by decide) dX5_withRoom_2 (fun q1 H G => ?_)
  have G : zG D AA ss.heap [(mo, .inr (5, [.int (iI (th)), .int (iI (((n : Nat) : Int))), .ref mnw, .ref mte, .ref mge, .ref mus, .int (iI (((p : Nat) : Int))), .int (iI (((st : Nat) : Int))), .int (iI (cc)), .int (iI (bc)), .ref mco, .ref mfl, .ref mba, .ref mdu, .long (lI (pot)), .long (lI (gr)), .long (lI (bk)), .int (iI (btw)), .int (iI (bhd))])), (ar, .inl (k4 0, 6, .inl (fun i9 => iI (R i9)))), (ai, .inl (k4 0, 6, .inl (fun i9 => iI (T.2.2 i9)))), (q1, .inl (k4 2, 6, .inl (fun i9 => iI ((fun _ => 0) i9))))] H locs := G
  refine z_astore E [(5, .ref q1), (0, .ref mo), (1, .ref ar), (2, .ref ai), (3, .ref ab), (4, .int (iI (0)))] dX5_withRoom_4 hl (by decide) rfl (fun ls hl => ?_)
  refine z_iconst E dX5_withRoom_6 ?_
  refine z_istore E [(6, .int (iI (0))), (5, .ref q1), (0, .ref mo), (1, .ref ar), (2, .ref ai), (3, .ref ab), (4, .int (iI (0)))] dX5_withRoom_7 hl (by decide) rfl (fun ls hl => ?_)
  have hp9_1 : ∀ (n9 : Nat) (j : Nat) (H : Heap) (locs : List Loc) (ls : Array Slot), (n - j < n9) → (j ≤ n) → zG D AA ss.heap [(mo, .inr (5, [.int (iI (th)), .int (iI (((n : Nat) : Int))), .ref mnw, .ref mte, .ref mge, .ref mus, .int (iI (((p : Nat) : Int))), .int (iI (((st : Nat) : Int))), .int (iI (cc)), .int (iI (bc)), .ref mco, .ref mfl, .ref mba, .ref mdu, .long (lI (pot)), .long (lI (gr)), .long (lI (bk)), .int (iI (btw)), .int (iI (bhd))])), (ar, .inl (k4 0, 6, .inl (fun i9 => iI (R i9)))), (ai, .inl (k4 0, 6, .inl (fun i9 => iI (T.2.2 i9)))), (q1, .inl (k4 2, 6, .inl (fun i9 => iI ((cp (rmF T.2.1) (fun _ => 0) j) i9))))] H locs → lv_has ls 7 [(0, .ref mo), (1, .ref ar), (2, .ref ai), (3, .ref ab), (4, .int (iI (0))), (5, .ref q1), (6, .int (iI (((j : Nat) : Int))))] → W pp l ee ({ frames := 0, cells := 1, slots := 6, locals := 0 } : Room) ss mm ([.ref mo, .ref ar, .ref ai, .ref ab, .int (iI (0))] : List Value).toArray bl me co H locs (0 + 1) (0 + 6) (MQ bl (zQ D [(mo, .inr (5, [.int (iI (th)), .int (iI (((n : Nat) : Int))), .ref mnw, .ref mte, .ref mge, .ref mus, .int (iI (((p : Nat) : Int))), .int (iI (((st : Nat) : Int))), .int (iI (cc)), .int (iI (bc)), .ref mco, .ref mfl, .ref mba, .ref mdu, .long (lI (pot)), .long (lI (gr)), .long (lI (bk)), .int (iI (btw)), .int (iI (bhd))])), (ar, .inl (k4 0, 6, .inl (fun i9 => iI (R i9)))), (ai, .inl (k4 0, 6, .inl (fun i9 => iI (T.2.2 i9))))] AA (q_c_X5_withRoom k4 mo mnw mte mge mus mco mfl mba mdu th n p st cc bc pot gr bk btw bhd ar ai R T ab)) ([.ref mo, .ref ar, .ref ai, .ref ab, .int (iI (0))] : List Value).toArray ss (1) (6) AA) (F0 mm 9 ls []) := by
    intro n9
    induction n9 with
    | zero => intro j H locs ls hn9 hj G hl; exact absurd hn9 (by omega)
    | succ n9 ih =>
      intro j H locs ls hn9 hj G hl
      have ih9_1 := @ih
      refine z_iload E hl 6 rfl dX5_withRoom_9 ?_
      refine z_aload_n E hl 0 rfl dX5_withRoom_11 rfl ?_
      refine kg_X5_39 E G 0 rfl rfl dX5_withRoom_12 ?_
      refine z_icmp_ge (tgt := 60) E dX5_withRoom_15 (by decide) ⟨by omega, by omega⟩ ⟨by omega, by omega⟩ (fun c_15 => ?_) (fun c_15 => ?_)
      · skip
        obtain rfl : j = n := by omega
        have G := z_ext G 3 rfl (F' := (rmF T.2.1)) (fun k hk => by rcases Nat.lt_or_ge k j with g9 | g9; exact cp_in g9; rw [cp_out g9]; show 0 = (if _ then (1 : Int) else 0); rw [if_neg (by have := h0 k g9 hk; omega)])
        have G : zG D AA ss.heap [(mo, .inr (5, [.int (iI (th)), .int (iI (((j : Nat) : Int))), .ref mnw, .ref mte, .ref mge, .ref mus, .int (iI (((p : Nat) : Int))), .int (iI (((st : Nat) : Int))), .int (iI (cc)), .int (iI (bc)), .ref mco, .ref mfl, .ref mba, .ref mdu, .long (lI (pot)), .long (lI (gr)), .long (lI (bk)), .int (iI (btw)), .int (iI (bhd))])), (ar, .inl (k4 0, 6, .inl (fun i9 => iI (R i9)))), (ai, .inl (k4 0, 6, .inl (fun i9 => iI (T.2.2 i9)))), (q1, .inl (k4 2, 6, .inl (fun i9 => iI ((rmF T.2.1) i9))))] H locs := G
        refine z_aload E hl 5 rfl dX5_withRoom_60 ?_
        exact z_aret (w' := [(mo, .inr (5, [.int (iI (th)), .int (iI (((j : Nat) : Int))), .ref mnw, .ref mte, .ref mge, .ref mus, .int (iI (((p : Nat) : Int))), .int (iI (((st : Nat) : Int))), .int (iI (cc)), .int (iI (bc)), .ref mco, .ref mfl, .ref mba, .ref mdu, .long (lI (pot)), .long (lI (gr)), .long (lI (bk)), .int (iI (btw)), .int (iI (bhd))])), (ar, .inl (k4 0, 6, .inl (fun i9 => iI (R i9)))), (ai, .inl (k4 0, 6, .inl (fun i9 => iI (T.2.2 i9)))), (q1, .inl (k4 2, 6, .inl (fun i9 => iI ((rmF T.2.1) i9))))]) E hr (by first | exact Or.inl ⟨_, rfl⟩ | exact Or.inr ⟨_, rfl⟩) hlocks G dX5_withRoom_62 (by omega) (by omega) (⟨[q1], rfl⟩) ⟨q1, rfl, rfl⟩
      · skip
        have y1 := hsi j (by omega)
        have y2 := hT.2 j (by omega)
        have y3 := hR j (by omega)
        refine z_aload E hl 5 rfl dX5_withRoom_18 ?_
        refine z_iload E hl 6 rfl dX5_withRoom_20 ?_
        refine z_aload_n E hl 2 rfl dX5_withRoom_22 rfl ?_
        refine z_iload E hl 6 rfl dX5_withRoom_23 ?_
        refine z_iald E G 2 rfl (j) rfl (by omega) (by decide) dX5_withRoom_25 ?_
        refine z_aload_n E hl 1 rfl dX5_withRoom_26 rfl ?_
        refine z_iload E hl 6 rfl dX5_withRoom_27 ?_
        refine z_iald E G 1 rfl (j) rfl (by omega) (by decide) dX5_withRoom_29 ?_
        refine z_icmp_ge (tgt := 52) E dX5_withRoom_30 (by decide) ⟨by omega, by omega⟩ ⟨by omega, by omega⟩ (fun c_30 => ?_) (fun c_30 => ?_)
        · skip
          refine z_iconst E dX5_withRoom_52 ?_
          refine z_eq (y := (rmF T.2.1) j) (by show 0 = (if 0 < T.2.1 j then (1 : Int) else 0); first | rw [if_pos (by omega)] | rw [if_neg (by omega)]) ?_
          refine z_zast E G 3 rfl (j) rfl (by omega) (by decide) (rmF_01 _ _) dX5_withRoom_53 (fun H locs G => ?_)
          have G : zG D AA ss.heap [(mo, .inr (5, [.int (iI (th)), .int (iI (((n : Nat) : Int))), .ref mnw, .ref mte, .ref mge, .ref mus, .int (iI (((p : Nat) : Int))), .int (iI (((st : Nat) : Int))), .int (iI (cc)), .int (iI (bc)), .ref mco, .ref mfl, .ref mba, .ref mdu, .long (lI (pot)), .long (lI (gr)), .long (lI (bk)), .int (iI (btw)), .int (iI (bhd))])), (ar, .inl (k4 0, 6, .inl (fun i9 => iI (R i9)))), (ai, .inl (k4 0, 6, .inl (fun i9 => iI (T.2.2 i9)))), (q1, .inl (k4 2, 6, .inl (fun i9 => iI ((up (cp (rmF T.2.1) (fun _ => 0) j) (j) ((rmF T.2.1) j)) i9))))] H locs := G
          rw [show up (cp (rmF T.2.1) (fun _ => 0) j) j ((rmF T.2.1) j) = (cp (rmF T.2.1) (fun _ => 0) (j + 1)) from cp_s (rmF T.2.1) (fun _ => 0) j] at G
          refine z_iinc E [(6, .int (iI (((j : Nat) : Int) + 1))), (0, .ref mo), (1, .ref ar), (2, .ref ai), (3, .ref ab), (4, .int (iI (0))), (5, .ref q1)] dX5_withRoom_54 hl (k := 6) rfl (by decide) rfl (fun ls hl => ?_)
          refine z_goto (tgt := 9) E dX5_withRoom_57 (by decide) ?_
          exact ih9_1 (j + 1) _ _ _ (by omega) (by omega) G (lv_sub hl [1, 2, 3, 4, 5, 6, 0] rfl)
        · skip
          refine z_iload E hl 4 rfl dX5_withRoom_33 ?_
          refine z_if_eq (tgt := 48) E dX5_withRoom_35 (by decide) (by decide) (fun c_35 => ?_) (fun c_35 => absurd c_35 (by decide))
          refine z_iconst E dX5_withRoom_48 ?_
          refine z_eq (y := (rmF T.2.1) j) (by show 1 = (if 0 < T.2.1 j then (1 : Int) else 0); first | rw [if_pos (by omega)] | rw [if_neg (by omega)]) ?_
          refine z_goto (tgt := 53) E dX5_withRoom_49 (by decide) ?_
          refine z_zast E G 3 rfl (j) rfl (by omega) (by decide) (rmF_01 _ _) dX5_withRoom_53 (fun H locs G => ?_)
          have G : zG D AA ss.heap [(mo, .inr (5, [.int (iI (th)), .int (iI (((n : Nat) : Int))), .ref mnw, .ref mte, .ref mge, .ref mus, .int (iI (((p : Nat) : Int))), .int (iI (((st : Nat) : Int))), .int (iI (cc)), .int (iI (bc)), .ref mco, .ref mfl, .ref mba, .ref mdu, .long (lI (pot)), .long (lI (gr)), .long (lI (bk)), .int (iI (btw)), .int (iI (bhd))])), (ar, .inl (k4 0, 6, .inl (fun i9 => iI (R i9)))), (ai, .inl (k4 0, 6, .inl (fun i9 => iI (T.2.2 i9)))), (q1, .inl (k4 2, 6, .inl (fun i9 => iI ((up (cp (rmF T.2.1) (fun _ => 0) j) (j) ((rmF T.2.1) j)) i9))))] H locs := G
          rw [show up (cp (rmF T.2.1) (fun _ => 0) j) j ((rmF T.2.1) j) = (cp (rmF T.2.1) (fun _ => 0) (j + 1)) from cp_s (rmF T.2.1) (fun _ => 0) j] at G
          refine z_iinc E [(6, .int (iI (((j : Nat) : Int) + 1))), (0, .ref mo), (1, .ref ar), (2, .ref ai), (3, .ref ab), (4, .int (iI (0))), (5, .ref q1)] dX5_withRoom_54 hl (k := 6) rfl (by decide) rfl (fun ls hl => ?_)
          refine z_goto (tgt := 9) E dX5_withRoom_57 (by decide) ?_
          exact ih9_1 (j + 1) _ _ _ (by omega) (by omega) G (lv_sub hl [1, 2, 3, 4, 5, 6, 0] rfl)
  exact hp9_1 (n + 1) 0 _ _ _ (by omega) (by omega) G (lv_sub hl [2, 3, 4, 5, 6, 1, 0] rfl)

def q_c_X5_withRoomS (k4 : Nat → ClassId) (mo mnw mte mge mus mco mfl mba mdu : Nat) (th : Int) (n p st : Nat) (cc bc pot gr bk btw bhd : Int) (ar ai : Nat) (R : Nat → Int) (T : sS) (ab : Nat) (B : Nat → Int) : Option Value → va_W → Prop := (fun (v9 : Option Value) (w9 : va_W) => ∃ (q9 : Nat), v9 = some (.ref q9) ∧ w9 = [(mo, .inr (5, [.int (iI (th)), .int (iI (((n : Nat) : Int))), .ref mnw, .ref mte, .ref mge, .ref mus, .int (iI (((p : Nat) : Int))), .int (iI (((st : Nat) : Int))), .int (iI (cc)), .int (iI (bc)), .ref mco, .ref mfl, .ref mba, .ref mdu, .long (lI (pot)), .long (lI (gr)), .long (lI (bk)), .int (iI (btw)), .int (iI (bhd))])), (ar, .inl (k4 0, 6, .inl (fun i9 => iI (R i9)))), (ai, .inl (k4 0, 6, .inl (fun i9 => iI (T.2.2 i9)))), (ab, .inl (k4 0, 19, .inl (fun i9 => iI (B i9)))), (q9, .inl (k4 2, 6, .inl (fun i9 => iI ((rsF (fun i => B (7 + i)) T.2.1) i9))))])
set_option maxHeartbeats 4000000 in
set_option maxRecDepth 100000 in
theorem c_X5_withRoomS (l : Launch) (D : va_G) (k4 : Nat → ClassId) (mo mnw mte mge mus mco mfl mba mdu : Nat) (th : Int) (n p st : Nat) (cc bc pot gr bk btw bhd : Int) (ar ai : Nat) (R : Nat → Int) (T : sS) (ab : Nat) (B : Nat → Int) (hn : n ≤ 6) (hT : sOK T) (hsi : sIn R T) (hR : rdOK R) (h0 : nul n T.2.1) (hB : ∀ k, k < 6 → 0 ≤ B (7 + k) ∧ B (7 + k) ≤ 100) : zC l yX5_withRoom (zW yX5_withRoom cX5_withRoom 7 (some (.array .boolean))) ({ frames := 0, cells := 1, slots := 6, locals := 0 } : Room) D k4 [.ref mo, .ref ar, .ref ai, .ref ab, .int (iI (1))] [(mo, .inr (5, [.int (iI (th)), .int (iI (((n : Nat) : Int))), .ref mnw, .ref mte, .ref mge, .ref mus, .int (iI (((p : Nat) : Int))), .int (iI (((st : Nat) : Int))), .int (iI (cc)), .int (iI (bc)), .ref mco, .ref mfl, .ref mba, .ref mdu, .long (lI (pot)), .long (lI (gr)), .long (lI (bk)), .int (iI (btw)), .int (iI (bhd))])), (ar, .inl (k4 0, 6, .inl (fun i9 => iI (R i9)))), (ai, .inl (k4 0, 6, .inl (fun i9 => iI (T.2.2 i9)))), (ab, .inl (k4 0, 19, .inl (fun i9 => iI (B i9))))] (1) (6) (q_c_X5_withRoomS k4 mo mnw mte mge mus mco mfl mba mdu th n p st cc bc pot gr bk btw bhd ar ai R T ab B) := by
  refine zC_of (cc := cX5_withRoom) (by decide) (Nat.le_of_ble_eq_true rfl) (fun pp ee ss mm bl me co AA H locs ls E hr hlocks hin G hl => ?_)
  have hl : lv_has ls 7 [(0, .ref mo), (1, .ref ar), (2, .ref ai), (3, .ref ab), (4, .int (iI (1)))] := hl
  refine z_bipush E dX5_withRoom_0 (by decide) ?_
  refine z_newa_boolean E G (n := 6) rfl zw_450 (by first | exact Nat.le_of_ble_eq_true rfl | omega | (show _ ≤ (1); omega)) (by first | exact Nat.le_of_ble_eq_true rfl | omega | (show _ ≤ (6); omega)) (by decide) dX5_withRoom_2 (fun q1 H G => ?_)
  have G : zG D AA ss.heap [(mo, .inr (5, [.int (iI (th)), .int (iI (((n : Nat) : Int))), .ref mnw, .ref mte, .ref mge, .ref mus, .int (iI (((p : Nat) : Int))), .int (iI (((st : Nat) : Int))), .int (iI (cc)), .int (iI (bc)), .ref mco, .ref mfl, .ref mba, .ref mdu, .long (lI (pot)), .long (lI (gr)), .long (lI (bk)), .int (iI (btw)), .int (iI (bhd))])), (ar, .inl (k4 0, 6, .inl (fun i9 => iI (R i9)))), (ai, .inl (k4 0, 6, .inl (fun i9 => iI (T.2.2 i9)))), (ab, .inl (k4 0, 19, .inl (fun i9 => iI (B i9)))), (q1, .inl (k4 2, 6, .inl (fun i9 => iI ((fun _ => 0) i9))))] H locs := G
  refine z_astore E [(5, .ref q1), (0, .ref mo), (1, .ref ar), (2, .ref ai), (3, .ref ab), (4, .int (iI (1)))] dX5_withRoom_4 hl (by decide) rfl (fun ls hl => ?_)
  refine z_iconst E dX5_withRoom_6 ?_
  refine z_istore E [(6, .int (iI (0))), (5, .ref q1), (0, .ref mo), (1, .ref ar), (2, .ref ai), (3, .ref ab), (4, .int (iI (1)))] dX5_withRoom_7 hl (by decide) rfl (fun ls hl => ?_)
  have hp9_1 : ∀ (n9 : Nat) (j : Nat) (H : Heap) (locs : List Loc) (ls : Array Slot), (n - j < n9) → (j ≤ n) → zG D AA ss.heap [(mo, .inr (5, [.int (iI (th)), .int (iI (((n : Nat) : Int))), .ref mnw, .ref mte, .ref mge, .ref mus, .int (iI (((p : Nat) : Int))), .int (iI (((st : Nat) : Int))), .int (iI (cc)), .int (iI (bc)), .ref mco, .ref mfl, .ref mba, .ref mdu, .long (lI (pot)), .long (lI (gr)), .long (lI (bk)), .int (iI (btw)), .int (iI (bhd))])), (ar, .inl (k4 0, 6, .inl (fun i9 => iI (R i9)))), (ai, .inl (k4 0, 6, .inl (fun i9 => iI (T.2.2 i9)))), (ab, .inl (k4 0, 19, .inl (fun i9 => iI (B i9)))), (q1, .inl (k4 2, 6, .inl (fun i9 => iI ((cp (rsF (fun i => B (7 + i)) T.2.1) (fun _ => 0) j) i9))))] H locs → lv_has ls 7 [(0, .ref mo), (1, .ref ar), (2, .ref ai), (3, .ref ab), (4, .int (iI (1))), (5, .ref q1), (6, .int (iI (((j : Nat) : Int))))] → W pp l ee ({ frames := 0, cells := 1, slots := 6, locals := 0 } : Room) ss mm ([.ref mo, .ref ar, .ref ai, .ref ab, .int (iI (1))] : List Value).toArray bl me co H locs (0 + 1) (0 + 6) (MQ bl (zQ D [(mo, .inr (5, [.int (iI (th)), .int (iI (((n : Nat) : Int))), .ref mnw, .ref mte, .ref mge, .ref mus, .int (iI (((p : Nat) : Int))), .int (iI (((st : Nat) : Int))), .int (iI (cc)), .int (iI (bc)), .ref mco, .ref mfl, .ref mba, .ref mdu, .long (lI (pot)), .long (lI (gr)), .long (lI (bk)), .int (iI (btw)), .int (iI (bhd))])), (ar, .inl (k4 0, 6, .inl (fun i9 => iI (R i9)))), (ai, .inl (k4 0, 6, .inl (fun i9 => iI (T.2.2 i9)))), (ab, .inl (k4 0, 19, .inl (fun i9 => iI (B i9))))] AA (q_c_X5_withRoomS k4 mo mnw mte mge mus mco mfl mba mdu th n p st cc bc pot gr bk btw bhd ar ai R T ab B)) ([.ref mo, .ref ar, .ref ai, .ref ab, .int (iI (1))] : List Value).toArray ss (1) (6) AA) (F0 mm 9 ls []) := by
    intro n9
    induction n9 with
    | zero => intro j H locs ls hn9 hj G hl; exact absurd hn9 (by omega)
    | succ n9 ih =>
      intro j H locs ls hn9 hj G hl
      have ih9_1 := @ih
      refine z_iload E hl 6 rfl dX5_withRoom_9 ?_
      refine z_aload_n E hl 0 rfl dX5_withRoom_11 rfl ?_
      refine kg_X5_39 E G 0 rfl rfl dX5_withRoom_12 ?_
      refine z_icmp_ge (tgt := 60) E dX5_withRoom_15 (by decide) ⟨by omega, by omega⟩ ⟨by omega, by omega⟩ (fun c_15 => ?_) (fun c_15 => ?_)
      · skip
        obtain rfl : j = n := by omega
        have G := z_ext G 4 rfl (F' := (rsF (fun i => B (7 + i)) T.2.1)) (fun k hk => by rcases Nat.lt_or_ge k j with g9 | g9; exact cp_in g9; rw [cp_out g9]; show 0 = (if _ then (1 : Int) else 0); rw [if_neg (by have := h0 k g9 hk; omega)])
        have G : zG D AA ss.heap [(mo, .inr (5, [.int (iI (th)), .int (iI (((j : Nat) : Int))), .ref mnw, .ref mte, .ref mge, .ref mus, .int (iI (((p : Nat) : Int))), .int (iI (((st : Nat) : Int))), .int (iI (cc)), .int (iI (bc)), .ref mco, .ref mfl, .ref mba, .ref mdu, .long (lI (pot)), .long (lI (gr)), .long (lI (bk)), .int (iI (btw)), .int (iI (bhd))])), (ar, .inl (k4 0, 6, .inl (fun i9 => iI (R i9)))), (ai, .inl (k4 0, 6, .inl (fun i9 => iI (T.2.2 i9)))), (ab, .inl (k4 0, 19, .inl (fun i9 => iI (B i9)))), (q1, .inl (k4 2, 6, .inl (fun i9 => iI ((rsF (fun i => B (7 + i)) T.2.1) i9))))] H locs := G
        refine z_aload E hl 5 rfl dX5_withRoom_60 ?_
        exact z_aret (w' := [(mo, .inr (5, [.int (iI (th)), .int (iI (((j : Nat) : Int))), .ref mnw, .ref mte, .ref mge, .ref mus, .int (iI (((p : Nat) : Int))), .int (iI (((st : Nat) : Int))), .int (iI (cc)), .int (iI (bc)), .ref mco, .ref mfl, .ref mba, .ref mdu, .long (lI (pot)), .long (lI (gr)), .long (lI (bk)), .int (iI (btw)), .int (iI (bhd))])), (ar, .inl (k4 0, 6, .inl (fun i9 => iI (R i9)))), (ai, .inl (k4 0, 6, .inl (fun i9 => iI (T.2.2 i9)))), (ab, .inl (k4 0, 19, .inl (fun i9 => iI (B i9)))), (q1, .inl (k4 2, 6, .inl (fun i9 => iI ((rsF (fun i => B (7 + i)) T.2.1) i9))))]) E hr (by first | exact Or.inl ⟨_, rfl⟩ | exact Or.inr ⟨_, rfl⟩) hlocks G dX5_withRoom_62 (by omega) (by omega) (⟨[q1], rfl⟩) ⟨q1, rfl, rfl⟩
      · skip
        have y1 := hsi j (by omega)
        have y2 := hT.2 j (by omega)
        have y3 := hR j (by omega)
        have y4 := hB j (by omega)
        refine z_aload E hl 5 rfl dX5_withRoom_18 ?_
        refine z_iload E hl 6 rfl dX5_withRoom_20 ?_
        refine z_aload_n E hl 2 rfl dX5_withRoom_22 rfl ?_
        refine z_iload E hl 6 rfl dX5_withRoom_23 ?_
        refine z_iald E G 2 rfl (j) rfl (by omega) (by decide) dX5_withRoom_25 ?_
        refine z_aload_n E hl 1 rfl dX5_withRoom_26 rfl ?_
        refine z_iload E hl 6 rfl dX5_withRoom_27 ?_
        refine z_iald E G 1 rfl (j) rfl (by omega) (by decide) dX5_withRoom_29 ?_
        refine z_icmp_ge (tgt := 52) E dX5_withRoom_30 (by decide) ⟨by omega, by omega⟩ ⟨by omega, by omega⟩ (fun c_30 => ?_) (fun c_30 => ?_)
        · skip
          refine z_iconst E dX5_withRoom_52 ?_
          refine z_eq (y := (rsF (fun i => B (7 + i)) T.2.1) j) (by show 0 = (if 0 < T.2.1 j ∧ 0 < B (7 + j) then (1 : Int) else 0); first | rw [if_pos (by omega)] | rw [if_neg (by omega)]) ?_
          refine z_zast E G 4 rfl (j) rfl (by omega) (by decide) (rsF_01 _ _ _) dX5_withRoom_53 (fun H locs G => ?_)
          have G : zG D AA ss.heap [(mo, .inr (5, [.int (iI (th)), .int (iI (((n : Nat) : Int))), .ref mnw, .ref mte, .ref mge, .ref mus, .int (iI (((p : Nat) : Int))), .int (iI (((st : Nat) : Int))), .int (iI (cc)), .int (iI (bc)), .ref mco, .ref mfl, .ref mba, .ref mdu, .long (lI (pot)), .long (lI (gr)), .long (lI (bk)), .int (iI (btw)), .int (iI (bhd))])), (ar, .inl (k4 0, 6, .inl (fun i9 => iI (R i9)))), (ai, .inl (k4 0, 6, .inl (fun i9 => iI (T.2.2 i9)))), (ab, .inl (k4 0, 19, .inl (fun i9 => iI (B i9)))), (q1, .inl (k4 2, 6, .inl (fun i9 => iI ((up (cp (rsF (fun i => B (7 + i)) T.2.1) (fun _ => 0) j) (j) ((rsF (fun i => B (7 + i)) T.2.1) j)) i9))))] H locs := G
          rw [show up (cp (rsF (fun i => B (7 + i)) T.2.1) (fun _ => 0) j) j ((rsF (fun i => B (7 + i)) T.2.1) j) = (cp (rsF (fun i => B (7 + i)) T.2.1) (fun _ => 0) (j + 1)) from cp_s (rsF (fun i => B (7 + i)) T.2.1) (fun _ => 0) j] at G
          refine z_iinc E [(6, .int (iI (((j : Nat) : Int) + 1))), (0, .ref mo), (1, .ref ar), (2, .ref ai), (3, .ref ab), (4, .int (iI (1))), (5, .ref q1)] dX5_withRoom_54 hl (k := 6) rfl (by decide) rfl (fun ls hl => ?_)
          refine z_goto (tgt := 9) E dX5_withRoom_57 (by decide) ?_
          exact ih9_1 (j + 1) _ _ _ (by omega) (by omega) G (lv_sub hl [1, 2, 3, 4, 5, 6, 0] rfl)
        · skip
          refine z_iload E hl 4 rfl dX5_withRoom_33 ?_
          refine z_if_eq (tgt := 48) E dX5_withRoom_35 (by decide) (by decide) (fun c_35 => absurd c_35 (by decide)) (fun c_35 => ?_)
          refine z_aload_n E hl 3 rfl dX5_withRoom_38 rfl ?_
          refine z_bipush E dX5_withRoom_39 (by decide) ?_
          refine z_iload E hl 6 rfl dX5_withRoom_41 ?_
          refine z_iadd E dX5_withRoom_43 ?_
          refine z_iald E G 3 rfl ((7 + j)) (by omega) (by omega) (by decide) dX5_withRoom_44 ?_
          refine z_if_le (tgt := 52) E dX5_withRoom_45 (by decide) ⟨by omega, by omega⟩ (fun c_45 => ?_) (fun c_45 => ?_)
          · skip
            refine z_iconst E dX5_withRoom_52 ?_
            refine z_eq (y := (rsF (fun i => B (7 + i)) T.2.1) j) (by show 0 = (if 0 < T.2.1 j ∧ 0 < B (7 + j) then (1 : Int) else 0); first | rw [if_pos (by omega)] | rw [if_neg (by omega)]) ?_
            refine z_zast E G 4 rfl (j) rfl (by omega) (by decide) (rsF_01 _ _ _) dX5_withRoom_53 (fun H locs G => ?_)
            have G : zG D AA ss.heap [(mo, .inr (5, [.int (iI (th)), .int (iI (((n : Nat) : Int))), .ref mnw, .ref mte, .ref mge, .ref mus, .int (iI (((p : Nat) : Int))), .int (iI (((st : Nat) : Int))), .int (iI (cc)), .int (iI (bc)), .ref mco, .ref mfl, .ref mba, .ref mdu, .long (lI (pot)), .long (lI (gr)), .long (lI (bk)), .int (iI (btw)), .int (iI (bhd))])), (ar, .inl (k4 0, 6, .inl (fun i9 => iI (R i9)))), (ai, .inl (k4 0, 6, .inl (fun i9 => iI (T.2.2 i9)))), (ab, .inl (k4 0, 19, .inl (fun i9 => iI (B i9)))), (q1, .inl (k4 2, 6, .inl (fun i9 => iI ((up (cp (rsF (fun i => B (7 + i)) T.2.1) (fun _ => 0) j) (j) ((rsF (fun i => B (7 + i)) T.2.1) j)) i9))))] H locs := G
            rw [show up (cp (rsF (fun i => B (7 + i)) T.2.1) (fun _ => 0) j) j ((rsF (fun i => B (7 + i)) T.2.1) j) = (cp (rsF (fun i => B (7 + i)) T.2.1) (fun _ => 0) (j + 1)) from cp_s (rsF (fun i => B (7 + i)) T.2.1) (fun _ => 0) j] at G
            refine z_iinc E [(6, .int (iI (((j : Nat) : Int) + 1))), (0, .ref mo), (1, .ref ar), (2, .ref ai), (3, .ref ab), (4, .int (iI (1))), (5, .ref q1)] dX5_withRoom_54 hl (k := 6) rfl (by decide) rfl (fun ls hl => ?_)
            refine z_goto (tgt := 9) E dX5_withRoom_57 (by decide) ?_
            exact ih9_1 (j + 1) _ _ _ (by omega) (by omega) G (lv_sub hl [1, 2, 3, 4, 5, 6, 0] rfl)
          · skip
            refine z_iconst E dX5_withRoom_48 ?_
            refine z_eq (y := (rsF (fun i => B (7 + i)) T.2.1) j) (by show 1 = (if 0 < T.2.1 j ∧ 0 < B (7 + j) then (1 : Int) else 0); first | rw [if_pos (by omega)] | rw [if_neg (by omega)]) ?_
            refine z_goto (tgt := 53) E dX5_withRoom_49 (by decide) ?_
            refine z_zast E G 4 rfl (j) rfl (by omega) (by decide) (rsF_01 _ _ _) dX5_withRoom_53 (fun H locs G => ?_)
            have G : zG D AA ss.heap [(mo, .inr (5, [.int (iI (th)), .int (iI (((n : Nat) : Int))), .ref mnw, .ref mte, .ref mge, .ref mus, .int (iI (((p : Nat) : Int))), .int (iI (((st : Nat) : Int))), .int (iI (cc)), .int (iI (bc)), .ref mco, .ref mfl, .ref mba, .ref mdu, .long (lI (pot)), .long (lI (gr)), .long (lI (bk)), .int (iI (btw)), .int (iI (bhd))])), (ar, .inl (k4 0, 6, .inl (fun i9 => iI (R i9)))), (ai, .inl (k4 0, 6, .inl (fun i9 => iI (T.2.2 i9)))), (ab, .inl (k4 0, 19, .inl (fun i9 => iI (B i9)))), (q1, .inl (k4 2, 6, .inl (fun i9 => iI ((up (cp (rsF (fun i => B (7 + i)) T.2.1) (fun _ => 0) j) (j) ((rsF (fun i => B (7 + i)) T.2.1) j)) i9))))] H locs := G
            rw [show up (cp (rsF (fun i => B (7 + i)) T.2.1) (fun _ => 0) j) j ((rsF (fun i => B (7 + i)) T.2.1) j) = (cp (rsF (fun i => B (7 + i)) T.2.1) (fun _ => 0) (j + 1)) from cp_s (rsF (fun i => B (7 + i)) T.2.1) (fun _ => 0) j] at G
            refine z_iinc E [(6, .int (iI (((j : Nat) : Int) + 1))), (0, .ref mo), (1, .ref ar), (2, .ref ai), (3, .ref ab), (4, .int (iI (1))), (5, .ref q1)] dX5_withRoom_54 hl (k := 6) rfl (by decide) rfl (fun ls hl => ?_)
            refine z_goto (tgt := 9) E dX5_withRoom_57 (by decide) ?_
            exact ih9_1 (j + 1) _ _ _ (by omega) (by omega) G (lv_sub hl [1, 2, 3, 4, 5, 6, 0] rfl)
  exact hp9_1 (n + 1) 0 _ _ _ (by omega) (by omega) G (lv_sub hl [2, 3, 4, 5, 6, 1, 0] rfl)

def q_c_X5_byOne (k4 : Nat → ClassId) (mo mnw mte mge mus mco mfl mba mdu : Nat) (th : Int) (n p st : Nat) (cc bc pot gr bk btw bhd : Int) (ar ai : Nat) (R : Nat → Int) (T : sS) (aa : Nat) (a9 : Nat → Int) : Option Value → va_W → Prop := (fun (v9 : Option Value) (w9 : va_W) => v9 = none ∧ w9 = [(mo, .inr (5, [.int (iI (th)), .int (iI (((n : Nat) : Int))), .ref mnw, .ref mte, .ref mge, .ref mus, .int (iI (((p : Nat) : Int))), .int (iI (((st : Nat) : Int))), .int (iI (cc)), .int (iI (bc)), .ref mco, .ref mfl, .ref mba, .ref mdu, .long (lI (pot)), .long (lI (gr)), .long (lI (bk)), .int (iI (btw)), .int (iI (bhd))])), (ar, .inl (k4 0, 6, .inl (fun i9 => iI (R i9)))), (ai, .inl (k4 0, 6, .inl (fun i9 => iI ((giveTo (fun _ => 1) 6 T).2.2 i9)))), (aa, .inl (k4 2, 6, .inl (fun i9 => iI (a9 i9))))])
set_option maxHeartbeats 4000000 in
set_option maxRecDepth 100000 in
theorem c_X5_byOne (l : Launch) (D : va_G) (k4 : Nat → ClassId) (mo mnw mte mge mus mco mfl mba mdu : Nat) (th : Int) (n p st : Nat) (cc bc pot gr bk btw bhd : Int) (ar ai : Nat) (R : Nat → Int) (T : sS) (aa : Nat) (a9 : Nat → Int) (hn : n ≤ 6) (hT : sOK T) (hsi : sIn R T) (hR : rdOK R) (h0 : nul n T.2.1) (ha : ∀ k, k < n → a9 k = 0 ∨ a9 k = 1) (ha2 : ∀ k, k < n → a9 k = 0 → T.2.1 k = 0) (hone : T.1 ≤ (cB (bR T.2.1) 6 : Int)) : zC l yX5_byOne (zW yX5_byOne cX5_byOne 7 none) ({ frames := 0, cells := 0, slots := 0, locals := 0 } : Room) D k4 [.ref mo, .int (iI (T.1)), .ref ar, .ref ai, .ref aa] [(mo, .inr (5, [.int (iI (th)), .int (iI (((n : Nat) : Int))), .ref mnw, .ref mte, .ref mge, .ref mus, .int (iI (((p : Nat) : Int))), .int (iI (((st : Nat) : Int))), .int (iI (cc)), .int (iI (bc)), .ref mco, .ref mfl, .ref mba, .ref mdu, .long (lI (pot)), .long (lI (gr)), .long (lI (bk)), .int (iI (btw)), .int (iI (bhd))])), (ar, .inl (k4 0, 6, .inl (fun i9 => iI (R i9)))), (ai, .inl (k4 0, 6, .inl (fun i9 => iI (T.2.2 i9)))), (aa, .inl (k4 2, 6, .inl (fun i9 => iI (a9 i9))))] (0) (0) (q_c_X5_byOne k4 mo mnw mte mge mus mco mfl mba mdu th n p st cc bc pot gr bk btw bhd ar ai R T aa a9) := by
  refine zC_of (cc := cX5_byOne) (by decide) (Nat.le_of_ble_eq_true rfl) (fun pp ee ss mm bl me co AA H locs ls E hr hlocks hin G hl => ?_)
  have hl : lv_has ls 7 [(0, .ref mo), (1, .int (iI (T.1))), (2, .ref ar), (3, .ref ai), (4, .ref aa)] := hl
  have z1 := hT.1
  refine z_iload_n E hl 1 rfl dX5_byOne_0 rfl ?_
  refine z_istore E [(5, .int (iI (T.1))), (0, .ref mo), (1, .int (iI (T.1))), (2, .ref ar), (3, .ref ai), (4, .ref aa)] dX5_byOne_1 hl (by decide) rfl (fun ls hl => ?_)
  refine z_iload E hl 0 rfl dX5_byOne_3 ?_
  refine z_if_le (tgt := 67) E dX5_byOne_5 (by decide) ⟨by omega, by omega⟩ (fun c_5 => ?_) (fun c_5 => ?_)
  · skip
    have e9 : (giveTo (fun _ => 1) 6 T) = T := giveTo_0 6 (fun m hm => by have := hT.2 m hm; omega)
    rw [← e9] at G
    have G : zG D AA ss.heap [(mo, .inr (5, [.int (iI (th)), .int (iI (((n : Nat) : Int))), .ref mnw, .ref mte, .ref mge, .ref mus, .int (iI (((p : Nat) : Int))), .int (iI (((st : Nat) : Int))), .int (iI (cc)), .int (iI (bc)), .ref mco, .ref mfl, .ref mba, .ref mdu, .long (lI (pot)), .long (lI (gr)), .long (lI (bk)), .int (iI (btw)), .int (iI (bhd))])), (ar, .inl (k4 0, 6, .inl (fun i9 => iI (R i9)))), (ai, .inl (k4 0, 6, .inl (fun i9 => iI ((giveTo (fun _ => 1) 6 T).2.2 i9)))), (aa, .inl (k4 2, 6, .inl (fun i9 => iI (a9 i9))))] H locs := G
    exact z_vret (w' := [(mo, .inr (5, [.int (iI (th)), .int (iI (((n : Nat) : Int))), .ref mnw, .ref mte, .ref mge, .ref mus, .int (iI (((p : Nat) : Int))), .int (iI (((st : Nat) : Int))), .int (iI (cc)), .int (iI (bc)), .ref mco, .ref mfl, .ref mba, .ref mdu, .long (lI (pot)), .long (lI (gr)), .long (lI (bk)), .int (iI (btw)), .int (iI (bhd))])), (ar, .inl (k4 0, 6, .inl (fun i9 => iI (R i9)))), (ai, .inl (k4 0, 6, .inl (fun i9 => iI ((giveTo (fun _ => 1) 6 T).2.2 i9)))), (aa, .inl (k4 2, 6, .inl (fun i9 => iI (a9 i9))))]) E hr hlocks G dX5_byOne_67 (by omega) (by omega) (zx0 rfl) ⟨rfl, rfl⟩
  · skip
    refine z_iconst E dX5_byOne_8 ?_
    refine z_istore E [(6, .int (iI (0))), (5, .int (iI (T.1))), (0, .ref mo), (1, .int (iI (T.1))), (2, .ref ar), (3, .ref ai), (4, .ref aa)] dX5_byOne_9 hl (by decide) rfl (fun ls hl => ?_)
    have hp11_1 : ∀ (n9 : Nat) (j : Nat) (H : Heap) (locs : List Loc) (ls : Array Slot), (n - j < n9) → (j ≤ n) → zG D AA ss.heap [(mo, .inr (5, [.int (iI (th)), .int (iI (((n : Nat) : Int))), .ref mnw, .ref mte, .ref mge, .ref mus, .int (iI (((p : Nat) : Int))), .int (iI (((st : Nat) : Int))), .int (iI (cc)), .int (iI (bc)), .ref mco, .ref mfl, .ref mba, .ref mdu, .long (lI (pot)), .long (lI (gr)), .long (lI (bk)), .int (iI (btw)), .int (iI (bhd))])), (ar, .inl (k4 0, 6, .inl (fun i9 => iI (R i9)))), (ai, .inl (k4 0, 6, .inl (fun i9 => iI ((giveTo (fun _ => 1) j T).2.2 i9)))), (aa, .inl (k4 2, 6, .inl (fun i9 => iI (a9 i9))))] H locs → lv_has ls 7 [(0, .ref mo), (1, .int (iI (T.1))), (2, .ref ar), (3, .ref ai), (4, .ref aa), (5, .int (iI ((giveTo (fun _ => 1) j T).1))), (6, .int (iI (((j : Nat) : Int))))] → W pp l ee ({ frames := 0, cells := 0, slots := 0, locals := 0 } : Room) ss mm ([.ref mo, .int (iI (T.1)), .ref ar, .ref ai, .ref aa] : List Value).toArray bl me co H locs (0) (0) (MQ bl (zQ D [(mo, .inr (5, [.int (iI (th)), .int (iI (((n : Nat) : Int))), .ref mnw, .ref mte, .ref mge, .ref mus, .int (iI (((p : Nat) : Int))), .int (iI (((st : Nat) : Int))), .int (iI (cc)), .int (iI (bc)), .ref mco, .ref mfl, .ref mba, .ref mdu, .long (lI (pot)), .long (lI (gr)), .long (lI (bk)), .int (iI (btw)), .int (iI (bhd))])), (ar, .inl (k4 0, 6, .inl (fun i9 => iI (R i9)))), (ai, .inl (k4 0, 6, .inl (fun i9 => iI (T.2.2 i9)))), (aa, .inl (k4 2, 6, .inl (fun i9 => iI (a9 i9))))] AA (q_c_X5_byOne k4 mo mnw mte mge mus mco mfl mba mdu th n p st cc bc pot gr bk btw bhd ar ai R T aa a9)) ([.ref mo, .int (iI (T.1)), .ref ar, .ref ai, .ref aa] : List Value).toArray ss (0) (0) AA) (F0 mm 11 ls []) := by
      intro n9
      induction n9 with
      | zero => intro j H locs ls hn9 hj G hl; exact absurd hn9 (by omega)
      | succ n9 ih =>
        intro j H locs ls hn9 hj G hl
        have ih11_1 := @ih
        refine z_iload E hl 6 rfl dX5_byOne_11 ?_
        refine z_aload_n E hl 0 rfl dX5_byOne_13 rfl ?_
        refine kg_X5_39 E G 0 rfl rfl dX5_byOne_14 ?_
        refine z_icmp_ge (tgt := 64) E dX5_byOne_17 (by decide) ⟨by omega, by omega⟩ ⟨by omega, by omega⟩ (fun c_17 => ?_) (fun c_17 => ?_)
        · skip
          obtain rfl : j = n := by omega
          have z2 : (giveTo (fun _ => 1) j T).1 = 0 := ones_end hT hn h0 hone
          have z3 : (giveTo (fun _ => 1) 6 T) = (giveTo (fun _ => 1) j T) := (giveTo_n6 hT one_nn hn h0).symm
          rw [← z3] at G
          have G : zG D AA ss.heap [(mo, .inr (5, [.int (iI (th)), .int (iI (((j : Nat) : Int))), .ref mnw, .ref mte, .ref mge, .ref mus, .int (iI (((p : Nat) : Int))), .int (iI (((st : Nat) : Int))), .int (iI (cc)), .int (iI (bc)), .ref mco, .ref mfl, .ref mba, .ref mdu, .long (lI (pot)), .long (lI (gr)), .long (lI (bk)), .int (iI (btw)), .int (iI (bhd))])), (ar, .inl (k4 0, 6, .inl (fun i9 => iI (R i9)))), (ai, .inl (k4 0, 6, .inl (fun i9 => iI ((giveTo (fun _ => 1) 6 T).2.2 i9)))), (aa, .inl (k4 2, 6, .inl (fun i9 => iI (a9 i9))))] H locs := G
          refine z_goto (tgt := 3) E dX5_byOne_64 (by decide) ?_
          refine z_iload E hl 5 rfl dX5_byOne_3 ?_
          refine z_if_le (tgt := 67) E dX5_byOne_5 (by decide) ⟨by omega, by omega⟩ (fun c_5 => ?_) (fun c_5 => absurd c_5 (by omega))
          exact z_vret (w' := [(mo, .inr (5, [.int (iI (th)), .int (iI (((j : Nat) : Int))), .ref mnw, .ref mte, .ref mge, .ref mus, .int (iI (((p : Nat) : Int))), .int (iI (((st : Nat) : Int))), .int (iI (cc)), .int (iI (bc)), .ref mco, .ref mfl, .ref mba, .ref mdu, .long (lI (pot)), .long (lI (gr)), .long (lI (bk)), .int (iI (btw)), .int (iI (bhd))])), (ar, .inl (k4 0, 6, .inl (fun i9 => iI (R i9)))), (ai, .inl (k4 0, 6, .inl (fun i9 => iI ((giveTo (fun _ => 1) 6 T).2.2 i9)))), (aa, .inl (k4 2, 6, .inl (fun i9 => iI (a9 i9))))]) E hr hlocks G dX5_byOne_67 (by omega) (by omega) (zx0 rfl) ⟨rfl, rfl⟩
        · skip
          have y0 := giveTo_ok hT j (by omega) (fun k hk => one_nn k (by omega))
          have y1 := giveTo_in hsi hT one_nn j (by omega) j (by omega)
          have y2 := y0.2 j (by omega)
          have y3 := hR j (by omega)
          have y4 := y0.1
          have y5 : (giveTo (fun _ => 1) j T).2.1 j = T.2.1 j := giveTo_room j j (Nat.le_refl _)
          refine z_iload E hl 5 rfl dX5_byOne_20 ?_
          refine z_if_le (tgt := 64) E dX5_byOne_22 (by decide) ⟨by omega, by omega⟩ (fun c_22 => ?_) (fun c_22 => ?_)
          · skip
            have z2 : (giveTo (fun _ => 1) j T).1 = 0 := by omega
            have z3 : (giveTo (fun _ => 1) 6 T) = (giveTo (fun _ => 1) j T) := giveTo_stop6 hT one_nn (by omega) z2
            rw [← z3] at G
            have G : zG D AA ss.heap [(mo, .inr (5, [.int (iI (th)), .int (iI (((n : Nat) : Int))), .ref mnw, .ref mte, .ref mge, .ref mus, .int (iI (((p : Nat) : Int))), .int (iI (((st : Nat) : Int))), .int (iI (cc)), .int (iI (bc)), .ref mco, .ref mfl, .ref mba, .ref mdu, .long (lI (pot)), .long (lI (gr)), .long (lI (bk)), .int (iI (btw)), .int (iI (bhd))])), (ar, .inl (k4 0, 6, .inl (fun i9 => iI (R i9)))), (ai, .inl (k4 0, 6, .inl (fun i9 => iI ((giveTo (fun _ => 1) 6 T).2.2 i9)))), (aa, .inl (k4 2, 6, .inl (fun i9 => iI (a9 i9))))] H locs := G
            refine z_goto (tgt := 3) E dX5_byOne_64 (by decide) ?_
            refine z_iload E hl 5 rfl dX5_byOne_3 ?_
            refine z_if_le (tgt := 67) E dX5_byOne_5 (by decide) ⟨by omega, by omega⟩ (fun c_5 => ?_) (fun c_5 => absurd c_5 (by omega))
            exact z_vret (w' := [(mo, .inr (5, [.int (iI (th)), .int (iI (((n : Nat) : Int))), .ref mnw, .ref mte, .ref mge, .ref mus, .int (iI (((p : Nat) : Int))), .int (iI (((st : Nat) : Int))), .int (iI (cc)), .int (iI (bc)), .ref mco, .ref mfl, .ref mba, .ref mdu, .long (lI (pot)), .long (lI (gr)), .long (lI (bk)), .int (iI (btw)), .int (iI (bhd))])), (ar, .inl (k4 0, 6, .inl (fun i9 => iI (R i9)))), (ai, .inl (k4 0, 6, .inl (fun i9 => iI ((giveTo (fun _ => 1) 6 T).2.2 i9)))), (aa, .inl (k4 2, 6, .inl (fun i9 => iI (a9 i9))))]) E hr hlocks G dX5_byOne_67 (by omega) (by omega) (zx0 rfl) ⟨rfl, rfl⟩
          · skip
            refine z_aload E hl 4 rfl dX5_byOne_25 ?_
            have y6 := ha j (by omega)
            refine z_iload E hl 6 rfl dX5_byOne_27 ?_
            refine z_zald E G 3 rfl (j) rfl (by omega) (by decide) dX5_byOne_29 ?_
            refine z_if_eq (tgt := 58) E dX5_byOne_30 (by decide) ⟨by omega, by omega⟩ (fun c_30 => ?_) (fun c_30 => ?_)
            · skip
              have y7 := ha2 j (by omega) c_30
              have e9 : (giveTo (fun _ => 1) (j + 1) T) = (giveTo (fun _ => 1) j T) := giveS_0 (by show min 1 (min ((giveTo (fun _ => 1) j T).2.1 j) (giveTo (fun _ => 1) j T).1) = 0; rw [y5]; omega)
              rw [← e9] at G hl
              have hl : lv_has ls 7 [(0, .ref mo), (1, .int (iI (T.1))), (2, .ref ar), (3, .ref ai), (4, .ref aa), (5, .int (iI ((giveTo (fun _ => 1) (j + 1) T).1))), (6, .int (iI (((j : Nat) : Int))))] := hl
              have G : zG D AA ss.heap [(mo, .inr (5, [.int (iI (th)), .int (iI (((n : Nat) : Int))), .ref mnw, .ref mte, .ref mge, .ref mus, .int (iI (((p : Nat) : Int))), .int (iI (((st : Nat) : Int))), .int (iI (cc)), .int (iI (bc)), .ref mco, .ref mfl, .ref mba, .ref mdu, .long (lI (pot)), .long (lI (gr)), .long (lI (bk)), .int (iI (btw)), .int (iI (bhd))])), (ar, .inl (k4 0, 6, .inl (fun i9 => iI (R i9)))), (ai, .inl (k4 0, 6, .inl (fun i9 => iI ((giveTo (fun _ => 1) (j + 1) T).2.2 i9)))), (aa, .inl (k4 2, 6, .inl (fun i9 => iI (a9 i9))))] H locs := G
              refine z_iinc E [(6, .int (iI (((j : Nat) : Int) + 1))), (0, .ref mo), (1, .int (iI (T.1))), (2, .ref ar), (3, .ref ai), (4, .ref aa), (5, .int (iI ((giveTo (fun _ => 1) (j + 1) T).1)))] dX5_byOne_58 hl (k := 6) rfl (by decide) rfl (fun ls hl => ?_)
              refine z_goto (tgt := 11) E dX5_byOne_61 (by decide) ?_
              first | (have e8 : (giveTo (fun _ => 1) j T).1 + (-1) = (giveTo (fun _ => 1) (j + 1) T).1 := (by show _ = (giveTo (fun _ => 1) j T).1 - min 1 (min ((giveTo (fun _ => 1) j T).2.1 j) (giveTo (fun _ => 1) j T).1); omega); rw [e8] at hl) | skip
              exact ih11_1 (j + 1) _ _ _ (by omega) (by omega) G (lv_sub hl [1, 2, 3, 4, 5, 6, 0] rfl)
            · skip
              refine z_aload_n E hl 3 rfl dX5_byOne_33 rfl ?_
              refine z_iload E hl 6 rfl dX5_byOne_34 ?_
              refine z_iald E G 2 rfl (j) rfl (by omega) (by decide) dX5_byOne_36 ?_
              refine z_aload_n E hl 2 rfl dX5_byOne_37 rfl ?_
              refine z_iload E hl 6 rfl dX5_byOne_38 ?_
              refine z_iald E G 1 rfl (j) rfl (by omega) (by decide) dX5_byOne_40 ?_
              refine z_icmp_ne (tgt := 47) E dX5_byOne_41 (by decide) ⟨by omega, by omega⟩ ⟨by omega, by omega⟩ (fun c_41 => ?_) (fun c_41 => ?_)
              · skip
                refine z_aload_n E hl 3 rfl dX5_byOne_47 rfl ?_
                refine z_iload E hl 6 rfl dX5_byOne_48 ?_
                refine lv_dup2_11 E.1 E.2.1 dX5_byOne_50 rfl rfl ?_
                refine z_iald E G 2 rfl (j) rfl (by omega) (by decide) dX5_byOne_51 ?_
                refine z_iconst E dX5_byOne_52 ?_
                refine z_iadd E dX5_byOne_53 ?_
                refine z_eq (y := (giveTo (fun _ => 1) j T).2.2 j + min 1 (min ((giveTo (fun _ => 1) j T).2.1 j) (giveTo (fun _ => 1) j T).1)) (by omega) ?_
                refine z_iast E G 2 rfl (j) rfl (by omega) (by decide) dX5_byOne_54 (fun H locs G => ?_)
                have G : zG D AA ss.heap [(mo, .inr (5, [.int (iI (th)), .int (iI (((n : Nat) : Int))), .ref mnw, .ref mte, .ref mge, .ref mus, .int (iI (((p : Nat) : Int))), .int (iI (((st : Nat) : Int))), .int (iI (cc)), .int (iI (bc)), .ref mco, .ref mfl, .ref mba, .ref mdu, .long (lI (pot)), .long (lI (gr)), .long (lI (bk)), .int (iI (btw)), .int (iI (bhd))])), (ar, .inl (k4 0, 6, .inl (fun i9 => iI (R i9)))), (ai, .inl (k4 0, 6, .inl (fun i9 => iI ((up (giveTo (fun _ => 1) j T).2.2 (j) ((giveTo (fun _ => 1) j T).2.2 j + min 1 (min ((giveTo (fun _ => 1) j T).2.1 j) (giveTo (fun _ => 1) j T).1))) i9)))), (aa, .inl (k4 2, 6, .inl (fun i9 => iI (a9 i9))))] H locs := G
                refine z_iinc E [(5, .int (iI ((giveTo (fun _ => 1) j T).1 + (-1)))), (0, .ref mo), (1, .int (iI (T.1))), (2, .ref ar), (3, .ref ai), (4, .ref aa), (6, .int (iI (((j : Nat) : Int))))] dX5_byOne_55 hl (k := 5) rfl (by decide) rfl (fun ls hl => ?_)
                refine z_iinc E [(6, .int (iI (((j : Nat) : Int) + 1))), (5, .int (iI ((giveTo (fun _ => 1) j T).1 + (-1)))), (0, .ref mo), (1, .int (iI (T.1))), (2, .ref ar), (3, .ref ai), (4, .ref aa)] dX5_byOne_58 hl (k := 6) rfl (by decide) rfl (fun ls hl => ?_)
                refine z_goto (tgt := 11) E dX5_byOne_61 (by decide) ?_
                first | (have e8 : (giveTo (fun _ => 1) j T).1 + (-1) = (giveTo (fun _ => 1) (j + 1) T).1 := (by show _ = (giveTo (fun _ => 1) j T).1 - min 1 (min ((giveTo (fun _ => 1) j T).2.1 j) (giveTo (fun _ => 1) j T).1); omega); rw [e8] at hl) | skip
                exact ih11_1 (j + 1) _ _ _ (by omega) (by omega) G (lv_sub hl [2, 3, 4, 5, 6, 1, 0] rfl)
              · skip
                have e9 : (giveTo (fun _ => 1) (j + 1) T) = (giveTo (fun _ => 1) j T) := giveS_0 (by show min 1 (min ((giveTo (fun _ => 1) j T).2.1 j) (giveTo (fun _ => 1) j T).1) = 0; rw [y5]; omega)
                rw [← e9] at G hl
                have hl : lv_has ls 7 [(0, .ref mo), (1, .int (iI (T.1))), (2, .ref ar), (3, .ref ai), (4, .ref aa), (5, .int (iI ((giveTo (fun _ => 1) (j + 1) T).1))), (6, .int (iI (((j : Nat) : Int))))] := hl
                have G : zG D AA ss.heap [(mo, .inr (5, [.int (iI (th)), .int (iI (((n : Nat) : Int))), .ref mnw, .ref mte, .ref mge, .ref mus, .int (iI (((p : Nat) : Int))), .int (iI (((st : Nat) : Int))), .int (iI (cc)), .int (iI (bc)), .ref mco, .ref mfl, .ref mba, .ref mdu, .long (lI (pot)), .long (lI (gr)), .long (lI (bk)), .int (iI (btw)), .int (iI (bhd))])), (ar, .inl (k4 0, 6, .inl (fun i9 => iI (R i9)))), (ai, .inl (k4 0, 6, .inl (fun i9 => iI ((giveTo (fun _ => 1) (j + 1) T).2.2 i9)))), (aa, .inl (k4 2, 6, .inl (fun i9 => iI (a9 i9))))] H locs := G
                refine z_goto (tgt := 58) E dX5_byOne_44 (by decide) ?_
                refine z_iinc E [(6, .int (iI (((j : Nat) : Int) + 1))), (0, .ref mo), (1, .int (iI (T.1))), (2, .ref ar), (3, .ref ai), (4, .ref aa), (5, .int (iI ((giveTo (fun _ => 1) (j + 1) T).1)))] dX5_byOne_58 hl (k := 6) rfl (by decide) rfl (fun ls hl => ?_)
                refine z_goto (tgt := 11) E dX5_byOne_61 (by decide) ?_
                first | (have e8 : (giveTo (fun _ => 1) j T).1 + (-1) = (giveTo (fun _ => 1) (j + 1) T).1 := (by show _ = (giveTo (fun _ => 1) j T).1 - min 1 (min ((giveTo (fun _ => 1) j T).2.1 j) (giveTo (fun _ => 1) j T).1); omega); rw [e8] at hl) | skip
                exact ih11_1 (j + 1) _ _ _ (by omega) (by omega) G (lv_sub hl [1, 2, 3, 4, 5, 6, 0] rfl)
    exact hp11_1 (n + 1) 0 _ _ _ (by omega) (by omega) G (lv_sub hl [2, 3, 4, 5, 6, 1, 0] rfl)

