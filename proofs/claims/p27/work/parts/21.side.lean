def q_c_X1_room (k4 : Nat → ClassId) (h r q : Nat) (S : sS) (m : Nat) : Option Value → va_W → Prop := (fun (v9 : Option Value) (w9 : va_W) => v9 = some (.int (iI (S.2.1 m))) ∧ w9 = [(h, .inr (1, [.ref r, .ref q, .int (iI (S.1))])), (r, .inl (k4 0, 6, .inl (fun i9 => iI (S.2.1 i9)))), (q, .inl (k4 0, 6, .inl (fun i9 => iI (S.2.2 i9))))])
set_option maxHeartbeats 4000000 in
set_option maxRecDepth 100000 in
theorem c_X1_room (l : Launch) (D : va_G) (k4 : Nat → ClassId) (h r q : Nat) (S : sS) (m : Nat) (hm : m < 6) : zC l yX1_room (zW yX1_room cX1_room 2 (some .int)) ({ frames := 1, cells := 0, slots := 0, locals := 21 } : Room) D k4 [.ref h, .int (iI (((m : Nat) : Int)))] [(h, .inr (1, [.ref r, .ref q, .int (iI (S.1))])), (r, .inl (k4 0, 6, .inl (fun i9 => iI (S.2.1 i9)))), (q, .inl (k4 0, 6, .inl (fun i9 => iI (S.2.2 i9))))] (0) (0) (q_c_X1_room k4 h r q S m) := by
  refine zC_of (cc := cX1_room) (by decide) (Nat.le_of_ble_eq_true rfl) (fun pp ee ss mm bl me co AA H locs ls E hr hlocks hin G hl => ?_)
  have hl : lv_has ls 2 [(0, .ref h), (1, .int (iI (((m : Nat) : Int))))] := hl
  refine z_aload_n E hl 0 rfl dX1_room_0 rfl ?_
  refine kg_X1_9 E G 0 rfl rfl dX1_room_1 ?_
  refine z_iload_n E hl 1 rfl dX1_room_4 rfl ?_
  refine z_callSN E G hl.1 (c_X4_at l D k4 r 6 S.2.1 m (by omega) (by decide)) kSN_X1_18 ⟨rfl, rfl, Nat.le_of_ble_eq_true rfl, Nat.le_of_ble_eq_true rfl⟩ [1] rfl (by decide) rfl rfl (Nat.le_of_ble_eq_true rfl) dX1_room_5 ⟨by first | exact Nat.le_of_ble_eq_true rfl | omega, by first | exact Nat.le_of_ble_eq_true rfl | omega⟩ (fun v9 w9 H locs hq G => ?_)
  obtain ⟨rfl, rfl⟩ := hq
  refine W.eq (g2 := F0 mm 8 ls [.int (iI (S.2.1 m))]) rfl ?_
  have G : zG D AA ss.heap [(h, .inr (1, [.ref r, .ref q, .int (iI (S.1))])), (r, .inl (k4 0, 6, .inl (fun i9 => iI (S.2.1 i9)))), (q, .inl (k4 0, 6, .inl (fun i9 => iI (S.2.2 i9))))] H locs := G
  exact z_iret (w' := [(h, .inr (1, [.ref r, .ref q, .int (iI (S.1))])), (r, .inl (k4 0, 6, .inl (fun i9 => iI (S.2.1 i9)))), (q, .inl (k4 0, 6, .inl (fun i9 => iI (S.2.2 i9))))]) (v := S.2.1 m) E hr hlocks G dX1_room_8 (by omega) (by omega) (zx0 rfl) ⟨rfl, rfl⟩

def q_c_X1_part (k4 : Nat → ClassId) (h r q : Nat) (S : sS) (m : Nat) : Option Value → va_W → Prop := (fun (v9 : Option Value) (w9 : va_W) => v9 = some (.int (iI (S.2.2 m))) ∧ w9 = [(h, .inr (1, [.ref r, .ref q, .int (iI (S.1))])), (r, .inl (k4 0, 6, .inl (fun i9 => iI (S.2.1 i9)))), (q, .inl (k4 0, 6, .inl (fun i9 => iI (S.2.2 i9))))])
set_option maxHeartbeats 4000000 in
set_option maxRecDepth 100000 in
theorem c_X1_part (l : Launch) (D : va_G) (k4 : Nat → ClassId) (h r q : Nat) (S : sS) (m : Nat) (hm : m < 6) : zC l yX1_part (zW yX1_part cX1_part 2 (some .int)) ({ frames := 1, cells := 0, slots := 0, locals := 21 } : Room) D k4 [.ref h, .int (iI (((m : Nat) : Int)))] [(h, .inr (1, [.ref r, .ref q, .int (iI (S.1))])), (r, .inl (k4 0, 6, .inl (fun i9 => iI (S.2.1 i9)))), (q, .inl (k4 0, 6, .inl (fun i9 => iI (S.2.2 i9))))] (0) (0) (q_c_X1_part k4 h r q S m) := by
  refine zC_of (cc := cX1_part) (by decide) (Nat.le_of_ble_eq_true rfl) (fun pp ee ss mm bl me co AA H locs ls E hr hlocks hin G hl => ?_)
  have hl : lv_has ls 2 [(0, .ref h), (1, .int (iI (((m : Nat) : Int))))] := hl
  refine z_aload_n E hl 0 rfl dX1_part_0 rfl ?_
  refine kg_X1_15 E G 0 rfl rfl dX1_part_1 ?_
  refine z_iload_n E hl 1 rfl dX1_part_4 rfl ?_
  refine z_callSN E G hl.1 (c_X4_at l D k4 q 6 S.2.2 m (by omega) (by decide)) kSN_X1_18 ⟨rfl, rfl, Nat.le_of_ble_eq_true rfl, Nat.le_of_ble_eq_true rfl⟩ [2] rfl (by decide) rfl rfl (Nat.le_of_ble_eq_true rfl) dX1_part_5 ⟨by first | exact Nat.le_of_ble_eq_true rfl | omega, by first | exact Nat.le_of_ble_eq_true rfl | omega⟩ (fun v9 w9 H locs hq G => ?_)
  obtain ⟨rfl, rfl⟩ := hq
  refine W.eq (g2 := F0 mm 8 ls [.int (iI (S.2.2 m))]) rfl ?_
  have G : zG D AA ss.heap [(h, .inr (1, [.ref r, .ref q, .int (iI (S.1))])), (r, .inl (k4 0, 6, .inl (fun i9 => iI (S.2.1 i9)))), (q, .inl (k4 0, 6, .inl (fun i9 => iI (S.2.2 i9))))] H locs := G
  exact z_iret (w' := [(h, .inr (1, [.ref r, .ref q, .int (iI (S.1))])), (r, .inl (k4 0, 6, .inl (fun i9 => iI (S.2.1 i9)))), (q, .inl (k4 0, 6, .inl (fun i9 => iI (S.2.2 i9))))]) (v := S.2.2 m) E hr hlocks G dX1_part_8 (by omega) (by omega) (zx0 rfl) ⟨rfl, rfl⟩

def q_c_X1_setRoom (k4 : Nat → ClassId) (h r q : Nat) (S : sS) (m : Nat) (x : Int) : Option Value → va_W → Prop := (fun (v9 : Option Value) (w9 : va_W) => v9 = none ∧ w9 = [(h, .inr (1, [.ref r, .ref q, .int (iI ((S.1, up S.2.1 m x, S.2.2).1))])), (r, .inl (k4 0, 6, .inl (fun i9 => iI ((S.1, up S.2.1 m x, S.2.2).2.1 i9)))), (q, .inl (k4 0, 6, .inl (fun i9 => iI ((S.1, up S.2.1 m x, S.2.2).2.2 i9))))])
set_option maxHeartbeats 4000000 in
set_option maxRecDepth 100000 in
theorem c_X1_setRoom (l : Launch) (D : va_G) (k4 : Nat → ClassId) (h r q : Nat) (S : sS) (m : Nat) (x : Int) (hm : m < 6) : zC l yX1_setRoom (zW yX1_setRoom cX1_setRoom 3 none) ({ frames := 1, cells := 0, slots := 0, locals := 22 } : Room) D k4 [.ref h, .int (iI (((m : Nat) : Int))), .int (iI (x))] [(h, .inr (1, [.ref r, .ref q, .int (iI (S.1))])), (r, .inl (k4 0, 6, .inl (fun i9 => iI (S.2.1 i9)))), (q, .inl (k4 0, 6, .inl (fun i9 => iI (S.2.2 i9))))] (0) (0) (q_c_X1_setRoom k4 h r q S m x) := by
  refine zC_of (cc := cX1_setRoom) (by decide) (Nat.le_of_ble_eq_true rfl) (fun pp ee ss mm bl me co AA H locs ls E hr hlocks hin G hl => ?_)
  have hl : lv_has ls 3 [(0, .ref h), (1, .int (iI (((m : Nat) : Int)))), (2, .int (iI (x)))] := hl
  refine z_aload_n E hl 0 rfl dX1_setRoom_0 rfl ?_
  refine kg_X1_9 E G 0 rfl rfl dX1_setRoom_1 ?_
  refine z_iload_n E hl 1 rfl dX1_setRoom_4 rfl ?_
  refine z_iload_n E hl 2 rfl dX1_setRoom_5 rfl ?_
  refine z_callSN E G hl.1 (c_X4_put l D k4 r 6 S.2.1 m x hm (by decide)) kSN_X1_22 ⟨rfl, rfl, Nat.le_of_ble_eq_true rfl, Nat.le_of_ble_eq_true rfl⟩ [1] rfl (by decide) rfl rfl (Nat.le_of_ble_eq_true rfl) dX1_setRoom_6 ⟨by first | exact Nat.le_of_ble_eq_true rfl | omega, by first | exact Nat.le_of_ble_eq_true rfl | omega⟩ (fun v9 w9 H locs hq G => ?_)
  obtain ⟨rfl, rfl⟩ := hq
  refine W.eq (g2 := F0 mm 9 ls []) rfl ?_
  have G : zG D AA ss.heap [(h, .inr (1, [.ref r, .ref q, .int (iI (S.1))])), (r, .inl (k4 0, 6, .inl (fun i9 => iI ((up S.2.1 m x) i9)))), (q, .inl (k4 0, 6, .inl (fun i9 => iI (S.2.2 i9))))] H locs := G
  exact z_vret (w' := [(h, .inr (1, [.ref r, .ref q, .int (iI (S.1))])), (r, .inl (k4 0, 6, .inl (fun i9 => iI ((up S.2.1 m x) i9)))), (q, .inl (k4 0, 6, .inl (fun i9 => iI (S.2.2 i9))))]) E hr hlocks G dX1_setRoom_9 (by omega) (by omega) (zx0 rfl) ⟨rfl, rfl⟩

def q_c_X1_sumOfRooms (k4 : Nat → ClassId) (h r q : Nat) (S : sS) : Option Value → va_W → Prop := (fun (v9 : Option Value) (w9 : va_W) => v9 = some (.int (iI (sumN S.2.1 6))) ∧ w9 = [(h, .inr (1, [.ref r, .ref q, .int (iI (S.1))])), (r, .inl (k4 0, 6, .inl (fun i9 => iI (S.2.1 i9)))), (q, .inl (k4 0, 6, .inl (fun i9 => iI (S.2.2 i9))))])
set_option maxHeartbeats 4000000 in
set_option maxRecDepth 100000 in
theorem c_X1_sumOfRooms (l : Launch) (D : va_G) (k4 : Nat → ClassId) (h r q : Nat) (S : sS)  : zC l yX1_sumOfRooms (zW yX1_sumOfRooms cX1_sumOfRooms 3 (some .int)) ({ frames := 1, cells := 0, slots := 0, locals := 21 } : Room) D k4 [.ref h] [(h, .inr (1, [.ref r, .ref q, .int (iI (S.1))])), (r, .inl (k4 0, 6, .inl (fun i9 => iI (S.2.1 i9)))), (q, .inl (k4 0, 6, .inl (fun i9 => iI (S.2.2 i9))))] (0) (0) (q_c_X1_sumOfRooms k4 h r q S) := by
  refine zC_of (cc := cX1_sumOfRooms) (by decide) (Nat.le_of_ble_eq_true rfl) (fun pp ee ss mm bl me co AA H locs ls E hr hlocks hin G hl => ?_)
  have hl : lv_has ls 3 [(0, .ref h)] := hl
  refine z_iconst E dX1_sumOfRooms_0 ?_
  refine z_istore_n E [(1, .int (iI (0))), (0, .ref h)] dX1_sumOfRooms_1 rfl hl (by decide) rfl (fun ls hl => ?_)
  refine z_iconst E dX1_sumOfRooms_2 ?_
  refine z_istore_n E [(2, .int (iI (0))), (1, .int (iI (0))), (0, .ref h)] dX1_sumOfRooms_3 rfl hl (by decide) rfl (fun ls hl => ?_)
  have hp4_1 : ∀ (n9 : Nat) (j : Nat) (H : Heap) (locs : List Loc) (ls : Array Slot), (6 - j < n9) → (j ≤ 6) → zG D AA ss.heap [(h, .inr (1, [.ref r, .ref q, .int (iI (S.1))])), (r, .inl (k4 0, 6, .inl (fun i9 => iI (S.2.1 i9)))), (q, .inl (k4 0, 6, .inl (fun i9 => iI (S.2.2 i9))))] H locs → lv_has ls 3 [(0, .ref h), (1, .int (iI (sumN S.2.1 j))), (2, .int (iI (((j : Nat) : Int))))] → W pp l ee ({ frames := 1, cells := 0, slots := 0, locals := 21 } : Room) ss mm ([.ref h] : List Value).toArray bl me co H locs (0) (0) (MQ bl (zQ D [(h, .inr (1, [.ref r, .ref q, .int (iI (S.1))])), (r, .inl (k4 0, 6, .inl (fun i9 => iI (S.2.1 i9)))), (q, .inl (k4 0, 6, .inl (fun i9 => iI (S.2.2 i9))))] AA (q_c_X1_sumOfRooms k4 h r q S)) ([.ref h] : List Value).toArray ss (0) (0) AA) (F0 mm 4 ls []) := by
    intro n9
    induction n9 with
    | zero => intro j H locs ls hn9 hj G hl; exact absurd hn9 (by omega)
    | succ n9 ih =>
      intro j H locs ls hn9 hj G hl
      have ih4_1 := @ih
      refine z_iload_n E hl 2 rfl dX1_sumOfRooms_4 rfl ?_
      refine z_bipush E dX1_sumOfRooms_5 (by decide) ?_
      refine z_icmp_ge (tgt := 27) E dX1_sumOfRooms_7 (by decide) ⟨by omega, by omega⟩ (by decide) (fun c_7 => ?_) (fun c_7 => ?_)
      · skip
        obtain rfl : j = 6 := by omega
        refine z_iload_n E hl 1 rfl dX1_sumOfRooms_27 rfl ?_
        exact z_iret (w' := [(h, .inr (1, [.ref r, .ref q, .int (iI (S.1))])), (r, .inl (k4 0, 6, .inl (fun i9 => iI (S.2.1 i9)))), (q, .inl (k4 0, 6, .inl (fun i9 => iI (S.2.2 i9))))]) (v := sumN S.2.1 6) E hr hlocks G dX1_sumOfRooms_28 (by omega) (by omega) (zx0 rfl) ⟨rfl, rfl⟩
      · skip
        refine z_iload_n E hl 1 rfl dX1_sumOfRooms_10 rfl ?_
        refine z_aload_n E hl 0 rfl dX1_sumOfRooms_11 rfl ?_
        refine kg_X1_9 E G 0 rfl rfl dX1_sumOfRooms_12 ?_
        refine z_iload_n E hl 2 rfl dX1_sumOfRooms_15 rfl ?_
        refine z_callSN E G hl.1 (c_X4_at l D k4 r 6 S.2.1 j (by omega) (by decide)) kSN_X1_18 ⟨rfl, rfl, Nat.le_of_ble_eq_true rfl, Nat.le_of_ble_eq_true rfl⟩ [1] rfl (by decide) rfl rfl (Nat.le_of_ble_eq_true rfl) dX1_sumOfRooms_16 ⟨by first | exact Nat.le_of_ble_eq_true rfl | omega, by first | exact Nat.le_of_ble_eq_true rfl | omega⟩ (fun v9 w9 H locs hq G => ?_)
        obtain ⟨rfl, rfl⟩ := hq
        refine W.eq (g2 := F0 mm 19 ls [.int (iI (S.2.1 j)), .int (iI (sumN S.2.1 j))]) rfl ?_
        have G : zG D AA ss.heap [(h, .inr (1, [.ref r, .ref q, .int (iI (S.1))])), (r, .inl (k4 0, 6, .inl (fun i9 => iI (S.2.1 i9)))), (q, .inl (k4 0, 6, .inl (fun i9 => iI (S.2.2 i9))))] H locs := G
        refine z_iadd E dX1_sumOfRooms_19 ?_
        refine z_istore_n E [(1, .int (iI ((sumN S.2.1 j) + (S.2.1 j)))), (0, .ref h), (2, .int (iI (((j : Nat) : Int))))] dX1_sumOfRooms_20 rfl hl (by decide) rfl (fun ls hl => ?_)
        refine z_iinc E [(2, .int (iI (((j : Nat) : Int) + 1))), (1, .int (iI ((sumN S.2.1 j) + (S.2.1 j)))), (0, .ref h)] dX1_sumOfRooms_21 hl (k := 2) rfl (by decide) rfl (fun ls hl => ?_)
        refine z_goto (tgt := 4) E dX1_sumOfRooms_24 (by decide) ?_
        exact ih4_1 (j + 1) _ _ _ (by omega) (by omega) G (lv_sub hl [2, 1, 0] rfl)
  exact hp4_1 7 0 _ _ _ (by decide) (by decide) G (lv_sub hl [2, 1, 0] rfl)

def q_c_X1_give (k4 : Nat → ClassId) (h r q : Nat) (S : sS) (m : Nat) (a : Int) : Option Value → va_W → Prop := (fun (v9 : Option Value) (w9 : va_W) => v9 = none ∧ w9 = [(h, .inr (1, [.ref r, .ref q, .int (iI ((giveS m a S).1))])), (r, .inl (k4 0, 6, .inl (fun i9 => iI ((giveS m a S).2.1 i9)))), (q, .inl (k4 0, 6, .inl (fun i9 => iI ((giveS m a S).2.2 i9))))])
set_option maxHeartbeats 4000000 in
set_option maxRecDepth 100000 in
theorem c_X1_give (l : Launch) (D : va_G) (k4 : Nat → ClassId) (h r q : Nat) (S : sS) (m : Nat) (a : Int) (hS : sOK S) (hm : m < 6) (ha : 0 ≤ a ∧ a < 2147483648) : zC l yX1_give (zW yX1_give cX1_give 4 none) ({ frames := 1, cells := 0, slots := 0, locals := 14 } : Room) D k4 [.ref h, .int (iI (((m : Nat) : Int))), .int (iI (a))] [(h, .inr (1, [.ref r, .ref q, .int (iI (S.1))])), (r, .inl (k4 0, 6, .inl (fun i9 => iI (S.2.1 i9)))), (q, .inl (k4 0, 6, .inl (fun i9 => iI (S.2.2 i9))))] (0) (0) (q_c_X1_give k4 h r q S m a) := by
  refine zC_of (cc := cX1_give) (by decide) (Nat.le_of_ble_eq_true rfl) (fun pp ee ss mm bl me co AA H locs ls E hr hlocks hin G hl => ?_)
  have hl : lv_has ls 4 [(0, .ref h), (1, .int (iI (((m : Nat) : Int)))), (2, .int (iI (a)))] := hl
  have b1 := hS.1
  have b2 := hS.2 m hm
  refine z_iload_n E hl 1 rfl dX1_give_0 rfl ?_
  refine z_if_lt (tgt := 22) E dX1_give_1 (by decide) ⟨by omega, by omega⟩ (fun c_1 => absurd c_1 (by omega)) (fun c_1 => ?_)
  refine z_iload_n E hl 1 rfl dX1_give_4 rfl ?_
  refine z_aload_n E hl 0 rfl dX1_give_5 rfl ?_
  refine kg_X1_9 E G 0 rfl rfl dX1_give_6 ?_
  refine z_alen E G 1 0 rfl rfl dX1_give_9 ?_
  refine z_icmp_ge (tgt := 22) E dX1_give_10 (by decide) ⟨by omega, by omega⟩ ⟨by omega, by omega⟩ (fun c_10 => absurd c_10 (by omega)) (fun c_10 => ?_)
  refine z_iload_n E hl 1 rfl dX1_give_13 rfl ?_
  refine z_aload_n E hl 0 rfl dX1_give_14 rfl ?_
  refine kg_X1_15 E G 0 rfl rfl dX1_give_15 ?_
  refine z_alen E G 2 0 rfl rfl dX1_give_18 ?_
  refine z_icmp_lt (tgt := 23) E dX1_give_19 (by decide) ⟨by omega, by omega⟩ ⟨by omega, by omega⟩ (fun c_19 => ?_) (fun c_19 => absurd c_19 (by omega))
  refine z_iload_n E hl 2 rfl dX1_give_23 rfl ?_
  refine z_aload_n E hl 0 rfl dX1_give_24 rfl ?_
  refine kg_X1_9 E G 0 rfl rfl dX1_give_25 ?_
  refine z_iload_n E hl 1 rfl dX1_give_28 rfl ?_
  refine z_iald E G 1 rfl (m) rfl (by omega) (by decide) dX1_give_29 ?_
  refine z_aload_n E hl 0 rfl dX1_give_30 rfl ?_
  refine kg_X1_26 E G 0 rfl rfl dX1_give_31 ?_
  refine z_min E hl.1 zw_217 zw_6 zw_5 zw_7 (Nat.le_of_ble_eq_true rfl) (Nat.le_of_ble_eq_true rfl) (by omega) (by omega) ⟨by omega, by omega⟩ ⟨by omega, by omega⟩ dX1_give_34 ?_
  refine z_min E hl.1 zw_217 zw_6 zw_5 zw_7 (Nat.le_of_ble_eq_true rfl) (Nat.le_of_ble_eq_true rfl) (by omega) (by omega) ⟨by omega, by omega⟩ ⟨by omega, by omega⟩ dX1_give_37 ?_
  refine z_istore_n E [(3, .int (iI (min (a) (min (S.2.1 m) (S.1))))), (0, .ref h), (1, .int (iI (((m : Nat) : Int)))), (2, .int (iI (a)))] dX1_give_40 rfl hl (by decide) rfl (fun ls hl => ?_)
  refine z_aload_n E hl 1 rfl dX1_give_41 rfl ?_
  refine kg_X1_9 E G 0 rfl rfl dX1_give_42 ?_
  refine z_iload_n E hl 2 rfl dX1_give_45 rfl ?_
  refine lv_dup2_11 E.1 E.2.1 dX1_give_46 rfl rfl ?_
  refine z_iald E G 1 rfl (m) rfl (by omega) (by decide) dX1_give_47 ?_
  refine z_iload_n E hl 0 rfl dX1_give_48 rfl ?_
  refine z_isub E dX1_give_49 ?_
  refine z_iast E G 1 rfl (m) rfl (by omega) (by decide) dX1_give_50 (fun H locs G => ?_)
  have G : zG D AA ss.heap [(h, .inr (1, [.ref r, .ref q, .int (iI (S.1))])), (r, .inl (k4 0, 6, .inl (fun i9 => iI ((up S.2.1 (m) ((S.2.1 m) - (min (a) (min (S.2.1 m) (S.1))))) i9)))), (q, .inl (k4 0, 6, .inl (fun i9 => iI (S.2.2 i9))))] H locs := G
  refine z_aload_n E hl 1 rfl dX1_give_51 rfl ?_
  refine kg_X1_15 E G 0 rfl rfl dX1_give_52 ?_
  refine z_iload_n E hl 2 rfl dX1_give_55 rfl ?_
  refine lv_dup2_11 E.1 E.2.1 dX1_give_56 rfl rfl ?_
  refine z_iald E G 2 rfl (m) rfl (by omega) (by decide) dX1_give_57 ?_
  refine z_iload_n E hl 0 rfl dX1_give_58 rfl ?_
  refine z_iadd E dX1_give_59 ?_
  refine z_iast E G 2 rfl (m) rfl (by omega) (by decide) dX1_give_60 (fun H locs G => ?_)
  have G : zG D AA ss.heap [(h, .inr (1, [.ref r, .ref q, .int (iI (S.1))])), (r, .inl (k4 0, 6, .inl (fun i9 => iI ((up S.2.1 (m) ((S.2.1 m) - (min (a) (min (S.2.1 m) (S.1))))) i9)))), (q, .inl (k4 0, 6, .inl (fun i9 => iI ((up S.2.2 (m) ((S.2.2 m) + (min (a) (min (S.2.1 m) (S.1))))) i9))))] H locs := G
  refine z_aload_n E hl 1 rfl dX1_give_61 rfl ?_
  refine z_dup E dX1_give_62 rfl ?_
  refine kg_X1_26 E G 0 rfl rfl dX1_give_63 ?_
  refine z_iload_n E hl 0 rfl dX1_give_66 rfl ?_
  refine z_isub E dX1_give_67 ?_
  refine kp_X1_26 E G 0 rfl (Nat.le_of_ble_eq_true rfl) dX1_give_68 (fun H locs G => ?_)
  have G : zG D AA ss.heap [(h, .inr (1, [.ref r, .ref q, .int (iI ((S.1) - (min (a) (min (S.2.1 m) (S.1)))))])), (r, .inl (k4 0, 6, .inl (fun i9 => iI ((up S.2.1 (m) ((S.2.1 m) - (min (a) (min (S.2.1 m) (S.1))))) i9)))), (q, .inl (k4 0, 6, .inl (fun i9 => iI ((up S.2.2 (m) ((S.2.2 m) + (min (a) (min (S.2.1 m) (S.1))))) i9))))] H locs := G
  exact z_vret (w' := [(h, .inr (1, [.ref r, .ref q, .int (iI ((S.1) - (min (a) (min (S.2.1 m) (S.1)))))])), (r, .inl (k4 0, 6, .inl (fun i9 => iI ((up S.2.1 (m) ((S.2.1 m) - (min (a) (min (S.2.1 m) (S.1))))) i9)))), (q, .inl (k4 0, 6, .inl (fun i9 => iI ((up S.2.2 (m) ((S.2.2 m) + (min (a) (min (S.2.1 m) (S.1))))) i9))))]) E hr hlocks G dX1_give_71 (by omega) (by omega) (zx0 rfl) ⟨rfl, rfl⟩

def q_c_X1_giveEach (k4 : Nat → ClassId) (h r q : Nat) (S : sS) (a : Int) : Option Value → va_W → Prop := (fun (v9 : Option Value) (w9 : va_W) => v9 = none ∧ w9 = [(h, .inr (1, [.ref r, .ref q, .int (iI ((giveTo (fun _ => a) 6 S).1))])), (r, .inl (k4 0, 6, .inl (fun i9 => iI ((giveTo (fun _ => a) 6 S).2.1 i9)))), (q, .inl (k4 0, 6, .inl (fun i9 => iI ((giveTo (fun _ => a) 6 S).2.2 i9))))])
set_option maxHeartbeats 4000000 in
set_option maxRecDepth 100000 in
theorem c_X1_giveEach (l : Launch) (D : va_G) (k4 : Nat → ClassId) (h r q : Nat) (S : sS) (a : Int) (hS : sOK S) (ha : 0 ≤ a ∧ a < 2147483648) : zC l yX1_giveEach (zW yX1_giveEach cX1_giveEach 3 none) ({ frames := 2, cells := 0, slots := 0, locals := 37 } : Room) D k4 [.ref h, .int (iI (a))] [(h, .inr (1, [.ref r, .ref q, .int (iI (S.1))])), (r, .inl (k4 0, 6, .inl (fun i9 => iI (S.2.1 i9)))), (q, .inl (k4 0, 6, .inl (fun i9 => iI (S.2.2 i9))))] (0) (0) (q_c_X1_giveEach k4 h r q S a) := by
  refine zC_of (cc := cX1_giveEach) (by decide) (Nat.le_of_ble_eq_true rfl) (fun pp ee ss mm bl me co AA H locs ls E hr hlocks hin G hl => ?_)
  have hl : lv_has ls 3 [(0, .ref h), (1, .int (iI (a)))] := hl
  refine z_iconst E dX1_giveEach_0 ?_
  refine z_istore_n E [(2, .int (iI (0))), (0, .ref h), (1, .int (iI (a)))] dX1_giveEach_1 rfl hl (by decide) rfl (fun ls hl => ?_)
  have hp2_1 : ∀ (n9 : Nat) (j : Nat) (H : Heap) (locs : List Loc) (ls : Array Slot), (6 - j < n9) → (j ≤ 6) → zG D AA ss.heap [(h, .inr (1, [.ref r, .ref q, .int (iI ((giveTo (fun _ => a) j S).1))])), (r, .inl (k4 0, 6, .inl (fun i9 => iI ((giveTo (fun _ => a) j S).2.1 i9)))), (q, .inl (k4 0, 6, .inl (fun i9 => iI ((giveTo (fun _ => a) j S).2.2 i9))))] H locs → lv_has ls 3 [(0, .ref h), (1, .int (iI (a))), (2, .int (iI (((j : Nat) : Int))))] → W pp l ee ({ frames := 2, cells := 0, slots := 0, locals := 37 } : Room) ss mm ([.ref h, .int (iI (a))] : List Value).toArray bl me co H locs (0) (0) (MQ bl (zQ D [(h, .inr (1, [.ref r, .ref q, .int (iI (S.1))])), (r, .inl (k4 0, 6, .inl (fun i9 => iI (S.2.1 i9)))), (q, .inl (k4 0, 6, .inl (fun i9 => iI (S.2.2 i9))))] AA (q_c_X1_giveEach k4 h r q S a)) ([.ref h, .int (iI (a))] : List Value).toArray ss (0) (0) AA) (F0 mm 2 ls []) := by
    intro n9
    induction n9 with
    | zero => intro j H locs ls hn9 hj G hl; exact absurd hn9 (by omega)
    | succ n9 ih =>
      intro j H locs ls hn9 hj G hl
      have ih2_1 := @ih
      refine z_iload_n E hl 2 rfl dX1_giveEach_2 rfl ?_
      refine z_bipush E dX1_giveEach_3 (by decide) ?_
      refine z_icmp_ge (tgt := 20) E dX1_giveEach_5 (by decide) ⟨by omega, by omega⟩ (by decide) (fun c_5 => ?_) (fun c_5 => ?_)
      · skip
        obtain rfl : j = 6 := by omega
        exact z_vret (w' := [(h, .inr (1, [.ref r, .ref q, .int (iI ((giveTo (fun _ => a) 6 S).1))])), (r, .inl (k4 0, 6, .inl (fun i9 => iI ((giveTo (fun _ => a) 6 S).2.1 i9)))), (q, .inl (k4 0, 6, .inl (fun i9 => iI ((giveTo (fun _ => a) 6 S).2.2 i9))))]) E hr hlocks G dX1_giveEach_20 (by omega) (by omega) (zx0 rfl) ⟨rfl, rfl⟩
      · skip
        refine z_aload_n E hl 0 rfl dX1_giveEach_8 rfl ?_
        refine z_iload_n E hl 2 rfl dX1_giveEach_9 rfl ?_
        refine z_iload_n E hl 1 rfl dX1_giveEach_10 rfl ?_
        have b1 : sOK (giveTo (fun _ => a) j S) := giveTo_ok hS j hj (fun _ _ => ha.1)
        refine z_callV E G hl.1 (c_X1_give l D k4 h r q ((giveTo (fun _ => a) j S)) j a b1 (by omega) ha) kV_X1_69 ⟨rfl, rfl, Nat.le_of_ble_eq_true rfl, Nat.le_of_ble_eq_true rfl⟩ [0, 1, 2] rfl (by decide) 0 1 rfl rfl rfl rfl rfl (Nat.le_of_ble_eq_true rfl) dX1_giveEach_11 ⟨by first | exact Nat.le_of_ble_eq_true rfl | omega, by first | exact Nat.le_of_ble_eq_true rfl | omega⟩ (fun v9 w9 H locs hq G => ?_)
        obtain ⟨rfl, rfl⟩ := hq
        refine W.eq (g2 := F0 mm 14 ls []) rfl ?_
        have G : zG D AA ss.heap [(h, .inr (1, [.ref r, .ref q, .int (iI ((giveS j a (giveTo (fun _ => a) j S)).1))])), (r, .inl (k4 0, 6, .inl (fun i9 => iI ((giveS j a (giveTo (fun _ => a) j S)).2.1 i9)))), (q, .inl (k4 0, 6, .inl (fun i9 => iI ((giveS j a (giveTo (fun _ => a) j S)).2.2 i9))))] H locs := G
        refine z_iinc E [(2, .int (iI (((j : Nat) : Int) + 1))), (0, .ref h), (1, .int (iI (a)))] dX1_giveEach_14 hl (k := 2) rfl (by decide) rfl (fun ls hl => ?_)
        refine z_goto (tgt := 2) E dX1_giveEach_17 (by decide) ?_
        exact ih2_1 (j + 1) _ _ _ (by omega) (by omega) G (lv_sub hl [1, 2, 0] rfl)
  exact hp2_1 7 0 _ _ _ (by decide) (by decide) G (lv_sub hl [1, 2, 0] rfl)

def q_c_X1_countSharers (k4 : Nat → ClassId) (h r q : Nat) (S : sS) : Option Value → va_W → Prop := (fun (v9 : Option Value) (w9 : va_W) => v9 = some (.int (iI (cntN S.2.1 6))) ∧ w9 = [(h, .inr (1, [.ref r, .ref q, .int (iI (S.1))])), (r, .inl (k4 0, 6, .inl (fun i9 => iI (S.2.1 i9)))), (q, .inl (k4 0, 6, .inl (fun i9 => iI (S.2.2 i9))))])
set_option maxHeartbeats 4000000 in
set_option maxRecDepth 100000 in
theorem c_X1_countSharers (l : Launch) (D : va_G) (k4 : Nat → ClassId) (h r q : Nat) (S : sS) (hS : sOK S) : zC l yX1_countSharers (zW yX1_countSharers cX1_countSharers 3 (some .int)) ({ frames := 1, cells := 0, slots := 0, locals := 21 } : Room) D k4 [.ref h] [(h, .inr (1, [.ref r, .ref q, .int (iI (S.1))])), (r, .inl (k4 0, 6, .inl (fun i9 => iI (S.2.1 i9)))), (q, .inl (k4 0, 6, .inl (fun i9 => iI (S.2.2 i9))))] (0) (0) (q_c_X1_countSharers k4 h r q S) := by
  refine zC_of (cc := cX1_countSharers) (by decide) (Nat.le_of_ble_eq_true rfl) (fun pp ee ss mm bl me co AA H locs ls E hr hlocks hin G hl => ?_)
  have hl : lv_has ls 3 [(0, .ref h)] := hl
  refine z_iconst E dX1_countSharers_0 ?_
  refine z_istore_n E [(1, .int (iI (0))), (0, .ref h)] dX1_countSharers_1 rfl hl (by decide) rfl (fun ls hl => ?_)
  refine z_iconst E dX1_countSharers_2 ?_
  refine z_istore_n E [(2, .int (iI (0))), (1, .int (iI (0))), (0, .ref h)] dX1_countSharers_3 rfl hl (by decide) rfl (fun ls hl => ?_)
  have hp4_1 : ∀ (n9 : Nat) (j : Nat) (H : Heap) (locs : List Loc) (ls : Array Slot), (6 - j < n9) → (j ≤ 6) → zG D AA ss.heap [(h, .inr (1, [.ref r, .ref q, .int (iI (S.1))])), (r, .inl (k4 0, 6, .inl (fun i9 => iI (S.2.1 i9)))), (q, .inl (k4 0, 6, .inl (fun i9 => iI (S.2.2 i9))))] H locs → lv_has ls 3 [(0, .ref h), (1, .int (iI (cntN S.2.1 j))), (2, .int (iI (((j : Nat) : Int))))] → W pp l ee ({ frames := 1, cells := 0, slots := 0, locals := 21 } : Room) ss mm ([.ref h] : List Value).toArray bl me co H locs (0) (0) (MQ bl (zQ D [(h, .inr (1, [.ref r, .ref q, .int (iI (S.1))])), (r, .inl (k4 0, 6, .inl (fun i9 => iI (S.2.1 i9)))), (q, .inl (k4 0, 6, .inl (fun i9 => iI (S.2.2 i9))))] AA (q_c_X1_countSharers k4 h r q S)) ([.ref h] : List Value).toArray ss (0) (0) AA) (F0 mm 4 ls []) := by
    intro n9
    induction n9 with
    | zero => intro j H locs ls hn9 hj G hl; exact absurd hn9 (by omega)
    | succ n9 ih =>
      intro j H locs ls hn9 hj G hl
      have ih4_1 := @ih
      refine z_iload_n E hl 2 rfl dX1_countSharers_4 rfl ?_
      refine z_bipush E dX1_countSharers_5 (by decide) ?_
      refine z_icmp_ge (tgt := 30) E dX1_countSharers_7 (by decide) ⟨by omega, by omega⟩ (by decide) (fun c_7 => ?_) (fun c_7 => ?_)
      · skip
        obtain rfl : j = 6 := by omega
        refine z_iload_n E hl 1 rfl dX1_countSharers_30 rfl ?_
        exact z_iret (w' := [(h, .inr (1, [.ref r, .ref q, .int (iI (S.1))])), (r, .inl (k4 0, 6, .inl (fun i9 => iI (S.2.1 i9)))), (q, .inl (k4 0, 6, .inl (fun i9 => iI (S.2.2 i9))))]) (v := cntN S.2.1 6) E hr hlocks G dX1_countSharers_31 (by omega) (by omega) (zx0 rfl) ⟨rfl, rfl⟩
      · skip
        refine z_aload_n E hl 0 rfl dX1_countSharers_10 rfl ?_
        refine kg_X1_9 E G 0 rfl rfl dX1_countSharers_11 ?_
        refine z_iload_n E hl 2 rfl dX1_countSharers_14 rfl ?_
        refine z_callSN E G hl.1 (c_X4_at l D k4 r 6 S.2.1 j (by omega) (by decide)) kSN_X1_18 ⟨rfl, rfl, Nat.le_of_ble_eq_true rfl, Nat.le_of_ble_eq_true rfl⟩ [1] rfl (by decide) rfl rfl (Nat.le_of_ble_eq_true rfl) dX1_countSharers_15 ⟨by first | exact Nat.le_of_ble_eq_true rfl | omega, by first | exact Nat.le_of_ble_eq_true rfl | omega⟩ (fun v9 w9 H locs hq G => ?_)
        obtain ⟨rfl, rfl⟩ := hq
        refine W.eq (g2 := F0 mm 18 ls [.int (iI (S.2.1 j))]) rfl ?_
        have G : zG D AA ss.heap [(h, .inr (1, [.ref r, .ref q, .int (iI (S.1))])), (r, .inl (k4 0, 6, .inl (fun i9 => iI (S.2.1 i9)))), (q, .inl (k4 0, 6, .inl (fun i9 => iI (S.2.2 i9))))] H locs := G
        have b2 := hS.2 j (by omega)
        refine z_if_le (tgt := 24) E dX1_countSharers_18 (by decide) ⟨by omega, by omega⟩ (fun c_18 => ?_) (fun c_18 => ?_)
        · skip
          have e9 : cntN S.2.1 j = cntN S.2.1 (j + 1) := by show _ = (if 0 < S.2.1 j then _ else _); rw [if_neg (by omega)]
          rw [e9] at hl
          have hl : lv_has ls 3 [(0, .ref h), (1, .int (iI (cntN S.2.1 (j + 1)))), (2, .int (iI (((j : Nat) : Int))))] := hl
          refine z_iinc E [(2, .int (iI (((j : Nat) : Int) + 1))), (0, .ref h), (1, .int (iI (cntN S.2.1 (j + 1))))] dX1_countSharers_24 hl (k := 2) rfl (by decide) rfl (fun ls hl => ?_)
          refine z_goto (tgt := 4) E dX1_countSharers_27 (by decide) ?_
          exact ih4_1 (j + 1) _ _ _ (by omega) (by omega) G (lv_sub hl [1, 2, 0] rfl)
        · skip
          have e9 : cntN S.2.1 j + 1 = cntN S.2.1 (j + 1) := by show _ = (if 0 < S.2.1 j then _ else _); rw [if_pos (by omega)]
          refine z_iinc E [(1, .int (iI (cntN S.2.1 j + 1))), (0, .ref h), (2, .int (iI (((j : Nat) : Int))))] dX1_countSharers_21 hl (k := 1) rfl (by decide) rfl (fun ls hl => ?_)
          rw [e9] at hl
          refine z_iinc E [(2, .int (iI (((j : Nat) : Int) + 1))), (1, .int (iI (cntN S.2.1 (j + 1)))), (0, .ref h)] dX1_countSharers_24 hl (k := 2) rfl (by decide) rfl (fun ls hl => ?_)
          refine z_goto (tgt := 4) E dX1_countSharers_27 (by decide) ?_
          exact ih4_1 (j + 1) _ _ _ (by omega) (by omega) G (lv_sub hl [2, 1, 0] rfl)
  exact hp4_1 7 0 _ _ _ (by decide) (by decide) G (lv_sub hl [2, 1, 0] rfl)

def q_c_X1_sumOfShares (k4 : Nat → ClassId) (h r q : Nat) (S : sS) (rs : Nat) (sh : Nat → Int) : Option Value → va_W → Prop := (fun (v9 : Option Value) (w9 : va_W) => v9 = some (.int (iI (ssumN sh S.2.1 6))) ∧ w9 = [(h, .inr (1, [.ref r, .ref q, .int (iI (S.1))])), (r, .inl (k4 0, 6, .inl (fun i9 => iI (S.2.1 i9)))), (q, .inl (k4 0, 6, .inl (fun i9 => iI (S.2.2 i9)))), (rs, .inl (k4 0, 6, .inl (fun i9 => iI (sh i9))))])
set_option maxHeartbeats 4000000 in
set_option maxRecDepth 100000 in
theorem c_X1_sumOfShares (l : Launch) (D : va_G) (k4 : Nat → ClassId) (h r q : Nat) (S : sS) (rs : Nat) (sh : Nat → Int) (hS : sOK S) : zC l yX1_sumOfShares (zW yX1_sumOfShares cX1_sumOfShares 4 (some .int)) ({ frames := 1, cells := 0, slots := 0, locals := 21 } : Room) D k4 [.ref h, .ref rs] [(h, .inr (1, [.ref r, .ref q, .int (iI (S.1))])), (r, .inl (k4 0, 6, .inl (fun i9 => iI (S.2.1 i9)))), (q, .inl (k4 0, 6, .inl (fun i9 => iI (S.2.2 i9)))), (rs, .inl (k4 0, 6, .inl (fun i9 => iI (sh i9))))] (0) (0) (q_c_X1_sumOfShares k4 h r q S rs sh) := by
  refine zC_of (cc := cX1_sumOfShares) (by decide) (Nat.le_of_ble_eq_true rfl) (fun pp ee ss mm bl me co AA H locs ls E hr hlocks hin G hl => ?_)
  have hl : lv_has ls 4 [(0, .ref h), (1, .ref rs)] := hl
  refine z_iconst E dX1_sumOfShares_0 ?_
  refine z_istore_n E [(2, .int (iI (0))), (0, .ref h), (1, .ref rs)] dX1_sumOfShares_1 rfl hl (by decide) rfl (fun ls hl => ?_)
  refine z_iconst E dX1_sumOfShares_2 ?_
  refine z_istore_n E [(3, .int (iI (0))), (2, .int (iI (0))), (0, .ref h), (1, .ref rs)] dX1_sumOfShares_3 rfl hl (by decide) rfl (fun ls hl => ?_)
  have hp4_1 : ∀ (n9 : Nat) (j : Nat) (H : Heap) (locs : List Loc) (ls : Array Slot), (6 - j < n9) → (j ≤ 6) → zG D AA ss.heap [(h, .inr (1, [.ref r, .ref q, .int (iI (S.1))])), (r, .inl (k4 0, 6, .inl (fun i9 => iI (S.2.1 i9)))), (q, .inl (k4 0, 6, .inl (fun i9 => iI (S.2.2 i9)))), (rs, .inl (k4 0, 6, .inl (fun i9 => iI (sh i9))))] H locs → lv_has ls 4 [(0, .ref h), (1, .ref rs), (2, .int (iI (ssumN sh S.2.1 j))), (3, .int (iI (((j : Nat) : Int))))] → W pp l ee ({ frames := 1, cells := 0, slots := 0, locals := 21 } : Room) ss mm ([.ref h, .ref rs] : List Value).toArray bl me co H locs (0) (0) (MQ bl (zQ D [(h, .inr (1, [.ref r, .ref q, .int (iI (S.1))])), (r, .inl (k4 0, 6, .inl (fun i9 => iI (S.2.1 i9)))), (q, .inl (k4 0, 6, .inl (fun i9 => iI (S.2.2 i9)))), (rs, .inl (k4 0, 6, .inl (fun i9 => iI (sh i9))))] AA (q_c_X1_sumOfShares k4 h r q S rs sh)) ([.ref h, .ref rs] : List Value).toArray ss (0) (0) AA) (F0 mm 4 ls []) := by
    intro n9
    induction n9 with
    | zero => intro j H locs ls hn9 hj G hl; exact absurd hn9 (by omega)
    | succ n9 ih =>
      intro j H locs ls hn9 hj G hl
      have ih4_1 := @ih
      refine z_iload_n E hl 3 rfl dX1_sumOfShares_4 rfl ?_
      refine z_bipush E dX1_sumOfShares_5 (by decide) ?_
      refine z_icmp_ge (tgt := 35) E dX1_sumOfShares_7 (by decide) ⟨by omega, by omega⟩ (by decide) (fun c_7 => ?_) (fun c_7 => ?_)
      · skip
        obtain rfl : j = 6 := by omega
        refine z_iload_n E hl 2 rfl dX1_sumOfShares_35 rfl ?_
        exact z_iret (w' := [(h, .inr (1, [.ref r, .ref q, .int (iI (S.1))])), (r, .inl (k4 0, 6, .inl (fun i9 => iI (S.2.1 i9)))), (q, .inl (k4 0, 6, .inl (fun i9 => iI (S.2.2 i9)))), (rs, .inl (k4 0, 6, .inl (fun i9 => iI (sh i9))))]) (v := ssumN sh S.2.1 6) E hr hlocks G dX1_sumOfShares_36 (by omega) (by omega) (zx0 rfl) ⟨rfl, rfl⟩
      · skip
        refine z_aload_n E hl 0 rfl dX1_sumOfShares_10 rfl ?_
        refine kg_X1_9 E G 0 rfl rfl dX1_sumOfShares_11 ?_
        refine z_iload_n E hl 3 rfl dX1_sumOfShares_14 rfl ?_
        refine z_callSN E G hl.1 (c_X4_at l D k4 r 6 S.2.1 j (by omega) (by decide)) kSN_X1_18 ⟨rfl, rfl, Nat.le_of_ble_eq_true rfl, Nat.le_of_ble_eq_true rfl⟩ [1] rfl (by decide) rfl rfl (Nat.le_of_ble_eq_true rfl) dX1_sumOfShares_15 ⟨by first | exact Nat.le_of_ble_eq_true rfl | omega, by first | exact Nat.le_of_ble_eq_true rfl | omega⟩ (fun v9 w9 H locs hq G => ?_)
        obtain ⟨rfl, rfl⟩ := hq
        refine W.eq (g2 := F0 mm 18 ls [.int (iI (S.2.1 j))]) rfl ?_
        have G : zG D AA ss.heap [(h, .inr (1, [.ref r, .ref q, .int (iI (S.1))])), (r, .inl (k4 0, 6, .inl (fun i9 => iI (S.2.1 i9)))), (q, .inl (k4 0, 6, .inl (fun i9 => iI (S.2.2 i9)))), (rs, .inl (k4 0, 6, .inl (fun i9 => iI (sh i9))))] H locs := G
        have b2 := hS.2 j (by omega)
        refine z_if_le (tgt := 29) E dX1_sumOfShares_18 (by decide) ⟨by omega, by omega⟩ (fun c_18 => ?_) (fun c_18 => ?_)
        · skip
          have e9 : ssumN sh S.2.1 j = ssumN sh S.2.1 (j + 1) := by show _ = (if 0 < S.2.1 j then _ else _); rw [if_neg (by omega)]
          rw [e9] at hl
          have hl : lv_has ls 4 [(0, .ref h), (1, .ref rs), (2, .int (iI (ssumN sh S.2.1 (j + 1)))), (3, .int (iI (((j : Nat) : Int))))] := hl
          refine z_iinc E [(3, .int (iI (((j : Nat) : Int) + 1))), (0, .ref h), (1, .ref rs), (2, .int (iI (ssumN sh S.2.1 (j + 1))))] dX1_sumOfShares_29 hl (k := 3) rfl (by decide) rfl (fun ls hl => ?_)
          refine z_goto (tgt := 4) E dX1_sumOfShares_32 (by decide) ?_
          exact ih4_1 (j + 1) _ _ _ (by omega) (by omega) G (lv_sub hl [1, 2, 3, 0] rfl)
        · skip
          have e9 : ssumN sh S.2.1 j + sh j = ssumN sh S.2.1 (j + 1) := by show _ = (if 0 < S.2.1 j then _ else _); rw [if_pos (by omega)]
          refine z_iload_n E hl 2 rfl dX1_sumOfShares_21 rfl ?_
          refine z_aload_n E hl 1 rfl dX1_sumOfShares_22 rfl ?_
          refine z_iload_n E hl 3 rfl dX1_sumOfShares_23 rfl ?_
          refine z_callSN E G hl.1 (c_X4_at l D k4 rs 6 sh j (by omega) (by decide)) kSN_X1_18 ⟨rfl, rfl, Nat.le_of_ble_eq_true rfl, Nat.le_of_ble_eq_true rfl⟩ [3] rfl (by decide) rfl rfl (Nat.le_of_ble_eq_true rfl) dX1_sumOfShares_24 ⟨by first | exact Nat.le_of_ble_eq_true rfl | omega, by first | exact Nat.le_of_ble_eq_true rfl | omega⟩ (fun v9 w9 H locs hq G => ?_)
          obtain ⟨rfl, rfl⟩ := hq
          refine W.eq (g2 := F0 mm 27 ls [.int (iI (sh j)), .int (iI (ssumN sh S.2.1 j))]) rfl ?_
          have G : zG D AA ss.heap [(h, .inr (1, [.ref r, .ref q, .int (iI (S.1))])), (r, .inl (k4 0, 6, .inl (fun i9 => iI (S.2.1 i9)))), (q, .inl (k4 0, 6, .inl (fun i9 => iI (S.2.2 i9)))), (rs, .inl (k4 0, 6, .inl (fun i9 => iI (sh i9))))] H locs := G
          refine z_iadd E dX1_sumOfShares_27 ?_
          refine z_eq (y := ssumN sh S.2.1 (j + 1)) e9 ?_
          refine z_istore_n E [(2, .int (iI (ssumN sh S.2.1 (j + 1)))), (0, .ref h), (1, .ref rs), (3, .int (iI (((j : Nat) : Int))))] dX1_sumOfShares_28 rfl hl (by decide) rfl (fun ls hl => ?_)
          refine z_iinc E [(3, .int (iI (((j : Nat) : Int) + 1))), (2, .int (iI (ssumN sh S.2.1 (j + 1)))), (0, .ref h), (1, .ref rs)] dX1_sumOfShares_29 hl (k := 3) rfl (by decide) rfl (fun ls hl => ?_)
          refine z_goto (tgt := 4) E dX1_sumOfShares_32 (by decide) ?_
          exact ih4_1 (j + 1) _ _ _ (by omega) (by omega) G (lv_sub hl [2, 3, 1, 0] rfl)
  exact hp4_1 7 0 _ _ _ (by decide) (by decide) G (lv_sub hl [2, 3, 1, 0] rfl)

def q_c_X1_giveOneByShares (k4 : Nat → ClassId) (h r q : Nat) (S : sS) (rs : Nat) (sh : Nat → Int) : Option Value → va_W → Prop := (fun (v9 : Option Value) (w9 : va_W) => v9 = none ∧ w9 = [(h, .inr (1, [.ref r, .ref q, .int (iI ((giveOne sh 6 S).1))])), (r, .inl (k4 0, 6, .inl (fun i9 => iI ((giveOne sh 6 S).2.1 i9)))), (q, .inl (k4 0, 6, .inl (fun i9 => iI ((giveOne sh 6 S).2.2 i9)))), (rs, .inl (k4 0, 6, .inl (fun i9 => iI (sh i9))))])
set_option maxHeartbeats 4000000 in
set_option maxRecDepth 100000 in
theorem c_X1_giveOneByShares (l : Launch) (D : va_G) (k4 : Nat → ClassId) (h r q : Nat) (S : sS) (rs : Nat) (sh : Nat → Int) (hS : sOK S) (hs : ∀ k, k < 6 → 0 ≤ sh k ∧ sh k ≤ 100) : zC l yX1_giveOneByShares (zW yX1_giveOneByShares cX1_giveOneByShares 3 none) ({ frames := 2, cells := 0, slots := 0, locals := 37 } : Room) D k4 [.ref h, .ref rs] [(h, .inr (1, [.ref r, .ref q, .int (iI (S.1))])), (r, .inl (k4 0, 6, .inl (fun i9 => iI (S.2.1 i9)))), (q, .inl (k4 0, 6, .inl (fun i9 => iI (S.2.2 i9)))), (rs, .inl (k4 0, 6, .inl (fun i9 => iI (sh i9))))] (0) (0) (q_c_X1_giveOneByShares k4 h r q S rs sh) := by
  refine zC_of (cc := cX1_giveOneByShares) (by decide) (Nat.le_of_ble_eq_true rfl) (fun pp ee ss mm bl me co AA H locs ls E hr hlocks hin G hl => ?_)
  have hl : lv_has ls 3 [(0, .ref h), (1, .ref rs)] := hl
  refine z_iconst E dX1_giveOneByShares_0 ?_
  refine z_istore_n E [(2, .int (iI (0))), (0, .ref h), (1, .ref rs)] dX1_giveOneByShares_1 rfl hl (by decide) rfl (fun ls hl => ?_)
  have hp2_1 : ∀ (n9 : Nat) (j : Nat) (H : Heap) (locs : List Loc) (ls : Array Slot), (6 - j < n9) → (j ≤ 6) → zG D AA ss.heap [(h, .inr (1, [.ref r, .ref q, .int (iI ((giveOne sh j S).1))])), (r, .inl (k4 0, 6, .inl (fun i9 => iI ((giveOne sh j S).2.1 i9)))), (q, .inl (k4 0, 6, .inl (fun i9 => iI ((giveOne sh j S).2.2 i9)))), (rs, .inl (k4 0, 6, .inl (fun i9 => iI (sh i9))))] H locs → lv_has ls 3 [(0, .ref h), (1, .ref rs), (2, .int (iI (((j : Nat) : Int))))] → W pp l ee ({ frames := 2, cells := 0, slots := 0, locals := 37 } : Room) ss mm ([.ref h, .ref rs] : List Value).toArray bl me co H locs (0) (0) (MQ bl (zQ D [(h, .inr (1, [.ref r, .ref q, .int (iI (S.1))])), (r, .inl (k4 0, 6, .inl (fun i9 => iI (S.2.1 i9)))), (q, .inl (k4 0, 6, .inl (fun i9 => iI (S.2.2 i9)))), (rs, .inl (k4 0, 6, .inl (fun i9 => iI (sh i9))))] AA (q_c_X1_giveOneByShares k4 h r q S rs sh)) ([.ref h, .ref rs] : List Value).toArray ss (0) (0) AA) (F0 mm 2 ls []) := by
    intro n9
    induction n9 with
    | zero => intro j H locs ls hn9 hj G hl; exact absurd hn9 (by omega)
    | succ n9 ih =>
      intro j H locs ls hn9 hj G hl
      have ih2_1 := @ih
      refine z_iload_n E hl 2 rfl dX1_giveOneByShares_2 rfl ?_
      refine z_bipush E dX1_giveOneByShares_3 (by decide) ?_
      refine z_icmp_ge (tgt := 28) E dX1_giveOneByShares_5 (by decide) ⟨by omega, by omega⟩ (by decide) (fun c_5 => ?_) (fun c_5 => ?_)
      · skip
        obtain rfl : j = 6 := by omega
        exact z_vret (w' := [(h, .inr (1, [.ref r, .ref q, .int (iI ((giveOne sh 6 S).1))])), (r, .inl (k4 0, 6, .inl (fun i9 => iI ((giveOne sh 6 S).2.1 i9)))), (q, .inl (k4 0, 6, .inl (fun i9 => iI ((giveOne sh 6 S).2.2 i9)))), (rs, .inl (k4 0, 6, .inl (fun i9 => iI (sh i9))))]) E hr hlocks G dX1_giveOneByShares_28 (by omega) (by omega) (zx0 rfl) ⟨rfl, rfl⟩
      · skip
        refine z_aload_n E hl 1 rfl dX1_giveOneByShares_8 rfl ?_
        refine z_iload_n E hl 2 rfl dX1_giveOneByShares_9 rfl ?_
        refine z_callSN E G hl.1 (c_X4_at l D k4 rs 6 sh j (by omega) (by decide)) kSN_X1_18 ⟨rfl, rfl, Nat.le_of_ble_eq_true rfl, Nat.le_of_ble_eq_true rfl⟩ [3] rfl (by decide) rfl rfl (Nat.le_of_ble_eq_true rfl) dX1_giveOneByShares_10 ⟨by first | exact Nat.le_of_ble_eq_true rfl | omega, by first | exact Nat.le_of_ble_eq_true rfl | omega⟩ (fun v9 w9 H locs hq G => ?_)
        obtain ⟨rfl, rfl⟩ := hq
        refine W.eq (g2 := F0 mm 13 ls [.int (iI (sh j))]) rfl ?_
        have G : zG D AA ss.heap [(h, .inr (1, [.ref r, .ref q, .int (iI ((giveOne sh j S).1))])), (r, .inl (k4 0, 6, .inl (fun i9 => iI ((giveOne sh j S).2.1 i9)))), (q, .inl (k4 0, 6, .inl (fun i9 => iI ((giveOne sh j S).2.2 i9)))), (rs, .inl (k4 0, 6, .inl (fun i9 => iI (sh i9))))] H locs := G
        have b2 := hs j (by omega)
        refine z_if_le (tgt := 22) E dX1_giveOneByShares_13 (by decide) ⟨by omega, by omega⟩ (fun c_13 => ?_) (fun c_13 => ?_)
        · skip
          have e9 : giveOne sh j S = giveOne sh (j + 1) S := by show _ = (if 0 < sh j then _ else _); rw [if_neg (by omega)]
          rw [e9] at G
          have G : zG D AA ss.heap [(h, .inr (1, [.ref r, .ref q, .int (iI ((giveOne sh (j + 1) S).1))])), (r, .inl (k4 0, 6, .inl (fun i9 => iI ((giveOne sh (j + 1) S).2.1 i9)))), (q, .inl (k4 0, 6, .inl (fun i9 => iI ((giveOne sh (j + 1) S).2.2 i9)))), (rs, .inl (k4 0, 6, .inl (fun i9 => iI (sh i9))))] H locs := G
          refine z_iinc E [(2, .int (iI (((j : Nat) : Int) + 1))), (0, .ref h), (1, .ref rs)] dX1_giveOneByShares_22 hl (k := 2) rfl (by decide) rfl (fun ls hl => ?_)
          refine z_goto (tgt := 2) E dX1_giveOneByShares_25 (by decide) ?_
          exact ih2_1 (j + 1) _ _ _ (by omega) (by omega) G (lv_sub hl [1, 2, 0] rfl)
        · skip
          have e9 : giveS j 1 (giveOne sh j S) = giveOne sh (j + 1) S := by show _ = (if 0 < sh j then _ else _); rw [if_pos (by omega)]
          refine z_aload_n E hl 0 rfl dX1_giveOneByShares_16 rfl ?_
          refine z_iload_n E hl 2 rfl dX1_giveOneByShares_17 rfl ?_
          refine z_iconst E dX1_giveOneByShares_18 ?_
          have b1 : sOK (giveOne sh j S) := giveOne_ok hS j hj
          refine z_callV E G hl.1 (c_X1_give l D k4 h r q ((giveOne sh j S)) j 1 b1 (by omega) (by decide)) kV_X1_69 ⟨rfl, rfl, Nat.le_of_ble_eq_true rfl, Nat.le_of_ble_eq_true rfl⟩ [0, 1, 2] rfl (by decide) 0 1 rfl rfl rfl rfl rfl (Nat.le_of_ble_eq_true rfl) dX1_giveOneByShares_19 ⟨by first | exact Nat.le_of_ble_eq_true rfl | omega, by first | exact Nat.le_of_ble_eq_true rfl | omega⟩ (fun v9 w9 H locs hq G => ?_)
          obtain ⟨rfl, rfl⟩ := hq
          refine W.eq (g2 := F0 mm 22 ls []) rfl ?_
          have G : zG D AA ss.heap [(h, .inr (1, [.ref r, .ref q, .int (iI ((giveS j 1 (giveOne sh j S)).1))])), (r, .inl (k4 0, 6, .inl (fun i9 => iI ((giveS j 1 (giveOne sh j S)).2.1 i9)))), (q, .inl (k4 0, 6, .inl (fun i9 => iI ((giveS j 1 (giveOne sh j S)).2.2 i9)))), (rs, .inl (k4 0, 6, .inl (fun i9 => iI (sh i9))))] H locs := G
          rw [e9] at G
          refine z_iinc E [(2, .int (iI (((j : Nat) : Int) + 1))), (0, .ref h), (1, .ref rs)] dX1_giveOneByShares_22 hl (k := 2) rfl (by decide) rfl (fun ls hl => ?_)
          refine z_goto (tgt := 2) E dX1_giveOneByShares_25 (by decide) ?_
          exact ih2_1 (j + 1) _ _ _ (by omega) (by omega) G (lv_sub hl [1, 2, 0] rfl)
  exact hp2_1 7 0 _ _ _ (by decide) (by decide) G (lv_sub hl [1, 2, 0] rfl)

def q_c_X1_shareEqually (k4 : Nat → ClassId) (h r q : Nat) (S : sS) : Option Value → va_W → Prop := (fun (v9 : Option Value) (w9 : va_W) => v9 = none ∧ w9 = [(h, .inr (1, [.ref r, .ref q, .int (iI ((eqS S).1))])), (r, .inl (k4 0, 6, .inl (fun i9 => iI ((eqS S).2.1 i9)))), (q, .inl (k4 0, 6, .inl (fun i9 => iI ((eqS S).2.2 i9))))])
set_option maxHeartbeats 4000000 in
set_option maxRecDepth 100000 in
theorem c_X1_shareEqually (l : Launch) (D : va_G) (k4 : Nat → ClassId) (h r q : Nat) (S : sS) (hS : sOK S) : zC l yX1_shareEqually (zW yX1_shareEqually cX1_shareEqually 3 none) ({ frames := 3, cells := 0, slots := 0, locals := 59 } : Room) D k4 [.ref h] [(h, .inr (1, [.ref r, .ref q, .int (iI (S.1))])), (r, .inl (k4 0, 6, .inl (fun i9 => iI (S.2.1 i9)))), (q, .inl (k4 0, 6, .inl (fun i9 => iI (S.2.2 i9))))] (0) (0) (q_c_X1_shareEqually k4 h r q S) := by
  refine zC_of (cc := cX1_shareEqually) (by decide) (Nat.le_of_ble_eq_true rfl) (fun pp ee ss mm bl me co AA H locs ls E hr hlocks hin G hl => ?_)
  have hl : lv_has ls 3 [(0, .ref h)] := hl
  refine z_iconst E dX1_shareEqually_0 ?_
  refine z_istore_n E [(1, .int (iI (0))), (0, .ref h)] dX1_shareEqually_1 rfl hl (by decide) rfl (fun ls hl => ?_)
  have hp2_1 : ∀ (n9 : Nat) (r9 : Nat) (H : Heap) (locs : List Loc) (ls : Array Slot), (1000 - r9 < n9) → (r9 ≤ 1000) → zG D AA ss.heap [(h, .inr (1, [.ref r, .ref q, .int (iI ((iter eqStep r9 S).1))])), (r, .inl (k4 0, 6, .inl (fun i9 => iI ((iter eqStep r9 S).2.1 i9)))), (q, .inl (k4 0, 6, .inl (fun i9 => iI ((iter eqStep r9 S).2.2 i9))))] H locs → lv_has ls 3 [(0, .ref h), (1, .int (iI (((r9 : Nat) : Int))))] → W pp l ee ({ frames := 3, cells := 0, slots := 0, locals := 59 } : Room) ss mm ([.ref h] : List Value).toArray bl me co H locs (0) (0) (MQ bl (zQ D [(h, .inr (1, [.ref r, .ref q, .int (iI (S.1))])), (r, .inl (k4 0, 6, .inl (fun i9 => iI (S.2.1 i9)))), (q, .inl (k4 0, 6, .inl (fun i9 => iI (S.2.2 i9))))] AA (q_c_X1_shareEqually k4 h r q S)) ([.ref h] : List Value).toArray ss (0) (0) AA) (F0 mm 2 ls []) := by
    intro n9
    induction n9 with
    | zero => intro r9 H locs ls hn9 hr9 G hl; exact absurd hn9 (by omega)
    | succ n9 ih =>
      intro r9 H locs ls hn9 hr9 G hl
      have ih2_1 := @ih
      have b0 : sOK (iter eqStep r9 S) := iter_ok (fun _ h => eqStep_ok h) hS r9
      have b1 := b0.1
      refine z_aload_n E hl 0 rfl dX1_shareEqually_2 rfl ?_
      refine kg_X1_26 E G 0 rfl rfl dX1_shareEqually_3 ?_
      refine z_if_le (tgt := 46) E dX1_shareEqually_6 (by decide) ⟨by omega, by omega⟩ (fun c_6 => ?_) (fun c_6 => ?_)
      · skip
        have e9 : eqS S = iter eqStep r9 S := iter_end (by rw [NR_eq]; exact hr9) (eqStep_fix b0 (Or.inl (by omega)))
        rw [← e9] at G
        exact z_vret (w' := [(h, .inr (1, [.ref r, .ref q, .int (iI ((eqS S).1))])), (r, .inl (k4 0, 6, .inl (fun i9 => iI ((eqS S).2.1 i9)))), (q, .inl (k4 0, 6, .inl (fun i9 => iI ((eqS S).2.2 i9))))]) E hr hlocks G dX1_shareEqually_46 (by omega) (by omega) (zx0 rfl) ⟨rfl, rfl⟩
      · skip
        refine z_iload_n E hl 1 rfl dX1_shareEqually_9 rfl ?_
        refine z_sipush E dX1_shareEqually_10 (by decide) ?_
        refine z_icmp_ge (tgt := 46) E dX1_shareEqually_13 (by decide) ⟨by omega, by omega⟩ (by decide) (fun c_13 => ?_) (fun c_13 => ?_)
        · skip
          have e9 : eqS S = iter eqStep r9 S := by have h9 : r9 = NR := (by rw [NR_eq]; omega); rw [h9]; rfl
          rw [← e9] at G
          exact z_vret (w' := [(h, .inr (1, [.ref r, .ref q, .int (iI ((eqS S).1))])), (r, .inl (k4 0, 6, .inl (fun i9 => iI ((eqS S).2.1 i9)))), (q, .inl (k4 0, 6, .inl (fun i9 => iI ((eqS S).2.2 i9))))]) E hr hlocks G dX1_shareEqually_46 (by omega) (by omega) (zx0 rfl) ⟨rfl, rfl⟩
        · skip
          refine z_aload_n E hl 0 rfl dX1_shareEqually_16 rfl ?_
          refine z_callV E G hl.1 (c_X1_countSharers l D k4 h r q ((iter eqStep r9 S)) b0) kV_X1_51 ⟨rfl, rfl, Nat.le_of_ble_eq_true rfl, Nat.le_of_ble_eq_true rfl⟩ [0, 1, 2] rfl (by decide) 0 1 rfl rfl rfl rfl rfl (Nat.le_of_ble_eq_true rfl) dX1_shareEqually_17 ⟨by first | exact Nat.le_of_ble_eq_true rfl | omega, by first | exact Nat.le_of_ble_eq_true rfl | omega⟩ (fun v9 w9 H locs hq G => ?_)
          obtain ⟨rfl, rfl⟩ := hq
          refine W.eq (g2 := F0 mm 20 ls [.int (iI (cntN (iter eqStep r9 S).2.1 6))]) rfl ?_
          have G : zG D AA ss.heap [(h, .inr (1, [.ref r, .ref q, .int (iI ((iter eqStep r9 S).1))])), (r, .inl (k4 0, 6, .inl (fun i9 => iI ((iter eqStep r9 S).2.1 i9)))), (q, .inl (k4 0, 6, .inl (fun i9 => iI ((iter eqStep r9 S).2.2 i9))))] H locs := G
          refine z_istore_n E [(2, .int (iI (cntN (iter eqStep r9 S).2.1 6))), (0, .ref h), (1, .int (iI (((r9 : Nat) : Int))))] dX1_shareEqually_20 rfl hl (by decide) rfl (fun ls hl => ?_)
          refine z_iload_n E hl 0 rfl dX1_shareEqually_21 rfl ?_
          refine z_if_gt (tgt := 26) E dX1_shareEqually_22 (by decide) (by have := cntN_b (R := (iter eqStep r9 S).2.1) 6; exact ⟨by omega, by omega⟩) (fun c_22 => ?_) (fun c_22 => ?_)
          · skip
            refine z_aload_n E hl 1 rfl dX1_shareEqually_26 rfl ?_
            refine z_iconst E dX1_shareEqually_27 ?_
            refine z_aload_n E hl 1 rfl dX1_shareEqually_28 rfl ?_
            refine kg_X1_26 E G 0 rfl rfl dX1_shareEqually_29 ?_
            refine z_iload_n E hl 0 rfl dX1_shareEqually_32 rfl ?_
            have b3 := cntN_b (R := (iter eqStep r9 S).2.1) 6
            have b4 := divB (b := cntN (iter eqStep r9 S).2.1 6) b1.1 (by omega)
            refine z_idiv E dX1_shareEqually_33 ⟨b1.1, by omega⟩ ⟨by omega, by omega⟩ ?_
            refine z_max E hl.1 zw_226 zw_6 zw_227 zw_228 (Nat.le_of_ble_eq_true rfl) (Nat.le_of_ble_eq_true rfl) (by omega) (by omega) (by decide) ⟨by omega, by omega⟩ dX1_shareEqually_34 ?_
            refine z_callV E G hl.1 (c_X1_giveEach l D k4 h r q ((iter eqStep r9 S)) (max 1 ((iter eqStep r9 S).1 / cntN (iter eqStep r9 S).2.1 6)) b0 ⟨max1_nonneg _, by omega⟩) kV_X1_61 ⟨rfl, rfl, Nat.le_of_ble_eq_true rfl, Nat.le_of_ble_eq_true rfl⟩ [0, 1, 2] rfl (by decide) 0 1 rfl rfl rfl rfl rfl (Nat.le_of_ble_eq_true rfl) dX1_shareEqually_37 ⟨by first | exact Nat.le_of_ble_eq_true rfl | omega, by first | exact Nat.le_of_ble_eq_true rfl | omega⟩ (fun v9 w9 H locs hq G => ?_)
            obtain ⟨rfl, rfl⟩ := hq
            refine W.eq (g2 := F0 mm 40 ls []) rfl ?_
            have G : zG D AA ss.heap [(h, .inr (1, [.ref r, .ref q, .int (iI ((giveTo (fun _ => (max 1 ((iter eqStep r9 S).1 / cntN (iter eqStep r9 S).2.1 6))) 6 (iter eqStep r9 S)).1))])), (r, .inl (k4 0, 6, .inl (fun i9 => iI ((giveTo (fun _ => (max 1 ((iter eqStep r9 S).1 / cntN (iter eqStep r9 S).2.1 6))) 6 (iter eqStep r9 S)).2.1 i9)))), (q, .inl (k4 0, 6, .inl (fun i9 => iI ((giveTo (fun _ => (max 1 ((iter eqStep r9 S).1 / cntN (iter eqStep r9 S).2.1 6))) 6 (iter eqStep r9 S)).2.2 i9))))] H locs := G
            refine z_iinc E [(1, .int (iI (((r9 : Nat) : Int) + 1))), (2, .int (iI (cntN (iter eqStep r9 S).2.1 6))), (0, .ref h)] dX1_shareEqually_40 hl (k := 2) rfl (by decide) rfl (fun ls hl => ?_)
            refine z_goto (tgt := 2) E dX1_shareEqually_43 (by decide) ?_
            exact ih2_1 (r9 + 1) _ _ _ (by omega) (by omega) G (lv_sub hl [2, 0] rfl)
          · skip
            have e9 : eqS S = iter eqStep r9 S := iter_end (by rw [NR_eq]; exact hr9) (eqStep_fix b0 (Or.inr (by have := cntN_b (R := (iter eqStep r9 S).2.1) 6; omega)))
            rw [← e9] at G
            exact z_vret (w' := [(h, .inr (1, [.ref r, .ref q, .int (iI ((eqS S).1))])), (r, .inl (k4 0, 6, .inl (fun i9 => iI ((eqS S).2.1 i9)))), (q, .inl (k4 0, 6, .inl (fun i9 => iI ((eqS S).2.2 i9))))]) E hr hlocks G dX1_shareEqually_25 (by omega) (by omega) (zx0 rfl) ⟨rfl, rfl⟩
  exact hp2_1 1001 0 _ _ _ (by decide) (by decide) G (lv_sub hl [1, 0] rfl)

