def q_c_X1_shareByRoom (k4 : Nat → ClassId) (h r q : Nat) (S : sS) : Option Value → va_W → Prop := (fun (v9 : Option Value) (w9 : va_W) => v9 = none ∧ w9 = [(h, .inr (1, [.ref r, .ref q, .int (iI ((roomS S).1))])), (r, .inl (k4 0, 6, .inl (fun k => iI ((roomS S).2.1 k)))), (q, .inl (k4 0, 6, .inl (fun k => iI ((roomS S).2.2 k))))])
set_option maxHeartbeats 4000000 in
set_option maxRecDepth 100000 in
theorem c_X1_shareByRoom (l : Launch) (D : va_G) (k4 : Nat → ClassId) (h r q : Nat) (S : sS) (hS : sOK S) : zC l yX1_shareByRoom (zW yX1_shareByRoom cX1_shareByRoom 4 none) ({ frames := 3, cells := 0, slots := 0, locals := 59 } : Room) D k4 [.ref h] [(h, .inr (1, [.ref r, .ref q, .int (iI (S.1))])), (r, .inl (k4 0, 6, .inl (fun k => iI (S.2.1 k)))), (q, .inl (k4 0, 6, .inl (fun k => iI (S.2.2 k))))] (0) (0) (q_c_X1_shareByRoom k4 h r q S) := by
  refine zC_of (cc := cX1_shareByRoom) (by decide) (Nat.le_of_ble_eq_true rfl) (fun pp ee ss mm bl me co AA ls E hr hlocks hin G hl => ?_)
  have hl : lv_has ls 4 [(0, .ref h)] := hl
  have b1 := hS.1
  have b3 := sumN_b (F := S.2.1) (B := 30000) 6 hS.2
  refine z_aload_n E hl 0 rfl dX1_shareByRoom_0 rfl ?_
  refine kg_X1_26 E G 0 rfl rfl dX1_shareByRoom_1 ?_
  refine z_istore_n E [(1, .int (iI (S.1))), (0, .ref h)] dX1_shareByRoom_4 rfl hl (by decide) rfl (fun ls hl => ?_)
  refine z_aload_n E hl 1 rfl dX1_shareByRoom_5 rfl ?_
  refine z_callV E G hl.1 (c_X1_sumOfRooms l D k4 h r q S ) kV_X1_76 ⟨rfl, rfl, Nat.le_of_ble_eq_true rfl, Nat.le_of_ble_eq_true rfl⟩ [0, 1, 2] rfl (by decide) 0 1 rfl rfl rfl rfl rfl (Nat.le_of_ble_eq_true rfl) dX1_shareByRoom_6 ⟨by first | exact Nat.le_of_ble_eq_true rfl | omega, by first | exact Nat.le_of_ble_eq_true rfl | omega⟩ (fun v9 w9 H locs hq G => ?_)
  obtain ⟨rfl, rfl⟩ := hq
  refine W.eq (g2 := F0 mm 9 ls [.int (iI (sumN S.2.1 6))]) rfl ?_
  have G : zG D AA ss.heap [(h, .inr (1, [.ref r, .ref q, .int (iI (S.1))])), (r, .inl (k4 0, 6, .inl (fun k => iI (S.2.1 k)))), (q, .inl (k4 0, 6, .inl (fun k => iI (S.2.2 k))))] H locs := G
  refine z_istore_n E [(2, .int (iI (sumN S.2.1 6))), (1, .int (iI (S.1))), (0, .ref h)] dX1_shareByRoom_9 rfl hl (by decide) rfl (fun ls hl => ?_)
  refine z_iload_n E hl 0 rfl dX1_shareByRoom_10 rfl ?_
  refine z_if_gt (tgt := 15) E dX1_shareByRoom_11 (by decide) ⟨by omega, by omega⟩ (fun c_11 => ?_) (fun c_11 => ?_)
  · skip
    refine z_iconst E dX1_shareByRoom_15 ?_
    refine z_istore_n E [(3, .int (iI (0))), (2, .int (iI (sumN S.2.1 6))), (1, .int (iI (S.1))), (0, .ref h)] dX1_shareByRoom_16 rfl hl (by decide) rfl (fun ls hl => ?_)
    have hp17_1 : ∀ (n9 : Nat) (j : Nat) (H : Heap) (locs : List Loc) (ls : Array Slot), (6 - j < n9) → (j ≤ 6) → zG D AA ss.heap [(h, .inr (1, [.ref r, .ref q, .int (iI ((giveTo (fun m => S.1 * S.2.1 m / sumN S.2.1 6) j S).1))])), (r, .inl (k4 0, 6, .inl (fun k => iI ((giveTo (fun m => S.1 * S.2.1 m / sumN S.2.1 6) j S).2.1 k)))), (q, .inl (k4 0, 6, .inl (fun k => iI ((giveTo (fun m => S.1 * S.2.1 m / sumN S.2.1 6) j S).2.2 k))))] H locs → lv_has ls 4 [(0, .ref h), (1, .int (iI (S.1))), (2, .int (iI (sumN S.2.1 6))), (3, .int (iI (((j : Nat) : Int))))] → W pp l ee ({ frames := 3, cells := 0, slots := 0, locals := 59 } : Room) ss mm ([.ref h] : List Value).toArray bl me co H locs (0) (0) (MQ bl (zQ D [(h, .inr (1, [.ref r, .ref q, .int (iI (S.1))])), (r, .inl (k4 0, 6, .inl (fun k => iI (S.2.1 k)))), (q, .inl (k4 0, 6, .inl (fun k => iI (S.2.2 k))))] AA (q_c_X1_shareByRoom k4 h r q S)) ([.ref h] : List Value).toArray ss (0) (0) AA) (F0 mm 17 ls []) := by
      intro n9
      induction n9 with
      | zero => intro j H locs ls hn9 hj G hl; exact absurd hn9 (by omega)
      | succ n9 ih =>
        intro j H locs ls hn9 hj G hl
        have ih17_1 := @ih
        have f0 : ∀ k, k < 6 → 0 ≤ (fun m => S.1 * S.2.1 m / sumN S.2.1 6) k := fun k hk => divN (Int.mul_nonneg b1.1 (hS.2 k hk).1) (by omega)
        have b5 : sOK (giveTo (fun m => S.1 * S.2.1 m / sumN S.2.1 6) j S) := giveTo_ok hS j hj (fun k hk => f0 k (by omega))
        refine z_iload_n E hl 3 rfl dX1_shareByRoom_17 rfl ?_
        refine z_bipush E dX1_shareByRoom_18 (by decide) ?_
        refine z_icmp_ge (tgt := 46) E dX1_shareByRoom_20 (by decide) ⟨by omega, by omega⟩ (by decide) (fun c_20 => ?_) (fun c_20 => ?_)
        · skip
          obtain rfl : j = 6 := by omega
          refine z_aload_n E hl 0 rfl dX1_shareByRoom_46 rfl ?_
          refine z_iconst E dX1_shareByRoom_47 ?_
          refine z_callV E G hl.1 (c_X1_giveEach l D k4 h r q ((giveTo (fun m => S.1 * S.2.1 m / sumN S.2.1 6) 6 S)) 1 b5 (by decide)) kV_X1_61 ⟨rfl, rfl, Nat.le_of_ble_eq_true rfl, Nat.le_of_ble_eq_true rfl⟩ [0, 1, 2] rfl (by decide) 0 1 rfl rfl rfl rfl rfl (Nat.le_of_ble_eq_true rfl) dX1_shareByRoom_48 ⟨by first | exact Nat.le_of_ble_eq_true rfl | omega, by first | exact Nat.le_of_ble_eq_true rfl | omega⟩ (fun v9 w9 H locs hq G => ?_)
          obtain ⟨rfl, rfl⟩ := hq
          refine W.eq (g2 := F0 mm 51 ls []) rfl ?_
          have G : zG D AA ss.heap [(h, .inr (1, [.ref r, .ref q, .int (iI ((giveTo (fun _ => 1) 6 ((giveTo (fun m => S.1 * S.2.1 m / sumN S.2.1 6) 6 S))).1))])), (r, .inl (k4 0, 6, .inl (fun k => iI ((giveTo (fun _ => 1) 6 ((giveTo (fun m => S.1 * S.2.1 m / sumN S.2.1 6) 6 S))).2.1 k)))), (q, .inl (k4 0, 6, .inl (fun k => iI ((giveTo (fun _ => 1) 6 ((giveTo (fun m => S.1 * S.2.1 m / sumN S.2.1 6) 6 S))).2.2 k))))] H locs := G
          exact z_vret (w' := [(h, .inr (1, [.ref r, .ref q, .int (iI ((giveTo (fun _ => 1) 6 ((giveTo (fun m => S.1 * S.2.1 m / sumN S.2.1 6) 6 S))).1))])), (r, .inl (k4 0, 6, .inl (fun k => iI ((giveTo (fun _ => 1) 6 ((giveTo (fun m => S.1 * S.2.1 m / sumN S.2.1 6) 6 S))).2.1 k)))), (q, .inl (k4 0, 6, .inl (fun k => iI ((giveTo (fun _ => 1) 6 ((giveTo (fun m => S.1 * S.2.1 m / sumN S.2.1 6) 6 S))).2.2 k))))]) E hr hlocks G dX1_shareByRoom_51 (by omega) (by omega) (zx0 rfl) ⟨rfl, rfl⟩
        · skip
          refine z_aload_n E hl 0 rfl dX1_shareByRoom_23 rfl ?_
          refine z_iload_n E hl 3 rfl dX1_shareByRoom_24 rfl ?_
          refine z_iload_n E hl 1 rfl dX1_shareByRoom_25 rfl ?_
          refine z_aload_n E hl 0 rfl dX1_shareByRoom_26 rfl ?_
          refine kg_X1_9 E G 0 rfl rfl dX1_shareByRoom_27 ?_
          refine z_iload_n E hl 3 rfl dX1_shareByRoom_30 rfl ?_
          refine z_callSN E G hl.1 (c_X4_at l D k4 r 6 ((giveTo (fun m => S.1 * S.2.1 m / sumN S.2.1 6) j S).2.1) j (by omega) (by decide)) kSN_X1_18 ⟨rfl, rfl, Nat.le_of_ble_eq_true rfl, Nat.le_of_ble_eq_true rfl⟩ [1] rfl (by decide) rfl rfl (Nat.le_of_ble_eq_true rfl) dX1_shareByRoom_31 ⟨by first | exact Nat.le_of_ble_eq_true rfl | omega, by first | exact Nat.le_of_ble_eq_true rfl | omega⟩ (fun v9 w9 H locs hq G => ?_)
          obtain ⟨rfl, rfl⟩ := hq
          refine W.eq (g2 := F0 mm 34 ls [.int (iI (((giveTo (fun m => S.1 * S.2.1 m / sumN S.2.1 6) j S).2.1) j)), .int (iI (S.1)), .int (iI (((j : Nat) : Int))), .ref h]) rfl ?_
          have G : zG D AA ss.heap [(h, .inr (1, [.ref r, .ref q, .int (iI ((giveTo (fun m => S.1 * S.2.1 m / sumN S.2.1 6) j S).1))])), (r, .inl (k4 0, 6, .inl (fun k => iI (((giveTo (fun m => S.1 * S.2.1 m / sumN S.2.1 6) j S).2.1) k)))), (q, .inl (k4 0, 6, .inl (fun k => iI ((giveTo (fun m => S.1 * S.2.1 m / sumN S.2.1 6) j S).2.2 k))))] H locs := G
          refine z_eq (y := S.2.1 j) (giveTo_room j j (Nat.le_refl j)) ?_
          have b6 := hS.2 j (by omega)
          have b7 := mulB b1.1 b1.2 b6.1 b6.2
          refine z_imul E dX1_shareByRoom_34 ?_
          refine z_iload_n E hl 2 rfl dX1_shareByRoom_35 rfl ?_
          refine z_idiv E dX1_shareByRoom_36 ⟨b7.1, by omega⟩ ⟨by omega, by omega⟩ ?_
          have b8 := divB (a := S.1 * S.2.1 j) (b := sumN S.2.1 6) b7.1 (by omega)
          refine z_callV E G hl.1 (c_X1_give l D k4 h r q ((giveTo (fun m => S.1 * S.2.1 m / sumN S.2.1 6) j S)) j (S.1 * S.2.1 j / sumN S.2.1 6) b5 (by omega) ⟨b8.1, by omega⟩) kV_X1_69 ⟨rfl, rfl, Nat.le_of_ble_eq_true rfl, Nat.le_of_ble_eq_true rfl⟩ [0, 1, 2] rfl (by decide) 0 1 rfl rfl rfl rfl rfl (Nat.le_of_ble_eq_true rfl) dX1_shareByRoom_37 ⟨by first | exact Nat.le_of_ble_eq_true rfl | omega, by first | exact Nat.le_of_ble_eq_true rfl | omega⟩ (fun v9 w9 H locs hq G => ?_)
          obtain ⟨rfl, rfl⟩ := hq
          refine W.eq (g2 := F0 mm 40 ls []) rfl ?_
          have G : zG D AA ss.heap [(h, .inr (1, [.ref r, .ref q, .int (iI ((giveS j (S.1 * S.2.1 j / sumN S.2.1 6) ((giveTo (fun m => S.1 * S.2.1 m / sumN S.2.1 6) j S))).1))])), (r, .inl (k4 0, 6, .inl (fun k => iI ((giveS j (S.1 * S.2.1 j / sumN S.2.1 6) ((giveTo (fun m => S.1 * S.2.1 m / sumN S.2.1 6) j S))).2.1 k)))), (q, .inl (k4 0, 6, .inl (fun k => iI ((giveS j (S.1 * S.2.1 j / sumN S.2.1 6) ((giveTo (fun m => S.1 * S.2.1 m / sumN S.2.1 6) j S))).2.2 k))))] H locs := G
          refine z_iinc E [(3, .int (iI (((j : Nat) : Int) + 1))), (0, .ref h), (1, .int (iI (S.1))), (2, .int (iI (sumN S.2.1 6)))] dX1_shareByRoom_40 hl (k := 3) rfl (by decide) rfl (fun ls hl => ?_)
          refine z_goto (tgt := 17) E dX1_shareByRoom_43 (by decide) ?_
          exact ih17_1 (j + 1) _ _ _ (by omega) (by omega) G (lv_sub hl [1, 2, 3, 0] rfl)
    exact hp17_1 7 0 _ _ _ (by decide) (by decide) G (lv_sub hl [3, 2, 1, 0] rfl)
  · skip
    have e9 : roomS S = S := roomS_fix hS (by omega)
    exact z_vret (w' := [(h, .inr (1, [.ref r, .ref q, .int (iI ((roomS S).1))])), (r, .inl (k4 0, 6, .inl (fun k => iI ((roomS S).2.1 k)))), (q, .inl (k4 0, 6, .inl (fun k => iI ((roomS S).2.2 k))))]) E hr hlocks (by rw [e9]; exact G) dX1_shareByRoom_14 (by omega) (by omega) (zx0 rfl) ⟨rfl, rfl⟩
