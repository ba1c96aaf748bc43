def q_c_X3_init (k4 : Nat → ClassId) (h : Nat) : Option Value → va_W → Prop := (fun (v9 : Option Value) (w9 : va_W) => ∃ (rs rk : Nat), v9 = none ∧ w9 = [(h, .inr (3, [.ref rs, .ref rk, .int (iI (t00 0)), .int (iI (t00 1)), .int (iI (t00 2)), .int (iI (t00 3)), .int (iI (t00 4)), .int (iI (t00 5)), .int (iI (t00 6))])), (rs, .inl (k4 0, 6, .inl (fun i9 => iI ((fun i => t00 (7 + i)) i9)))), (rk, .inl (k4 0, 6, .inl (fun i9 => iI ((fun i => t00 (13 + i)) i9))))])
set_option maxHeartbeats 4000000 in
set_option maxRecDepth 100000 in
theorem c_X3_init (l : Launch) (D : va_G) (k4 : Nat → ClassId) (h : Nat)  : zC l yX3_init (zW yX3_init cX3_init 1 none) ({ frames := 1, cells := 2, slots := 12, locals := 12 } : Room) D k4 [.ref h] [(h, .inr (3, [.null, .null, .int (iI (0)), .int (iI (0)), .int (iI (0)), .int (iI (0)), .int (iI (0)), .int (iI (0)), .int (iI (0))]))] (2) (12) (q_c_X3_init k4 h) := by
  refine zC_of (cc := cX3_init) (by decide) (Nat.le_of_ble_eq_true rfl) (fun pp ee ss mm bl me co AA H locs ls E hr hlocks hin G hl => ?_)
  have hl : lv_has ls 1 [(0, .ref h)] := hl
  refine z_aload_n E hl 0 rfl dX3_init_0 rfl ?_
  refine W.objInit E.1 E.2.1 E.2.2.2.1 (E.w zw_32) (E.w zw_12) (E.w zw_13) rfl (hl.1.trans E.2.2.1.symm) rfl dX3_init_1 (Nat.le_of_ble_eq_true rfl) (Nat.le_of_ble_eq_true rfl) ?_
  refine W.eq (g2 := F0 mm 4 ls []) rfl ?_
  refine z_aload_n E hl 0 rfl dX3_init_4 rfl ?_
  refine z_bipush E dX3_init_5 (by decide) ?_
  refine z_newa_int E G (n := 6) rfl zw_3 (by first | exact Nat.le_of_ble_eq_true rfl | omega) (by first | exact Nat.le_of_ble_eq_true rfl | omega) (by decide) dX3_init_7 (fun q1 H G => ?_)
  have G : zG D AA ss.heap [(h, .inr (3, [.null, .null, .int (iI (0)), .int (iI (0)), .int (iI (0)), .int (iI (0)), .int (iI (0)), .int (iI (0)), .int (iI (0))])), (q1, .inl (k4 0, 6, .inl (fun i9 => iI ((fun _ => 0) i9))))] H locs := G
  refine kp_X3_9 E hin G 0 rfl (Nat.le_of_ble_eq_true rfl) dX3_init_9 (fun H locs G => ?_)
  have G : zG D AA ss.heap [(h, .inr (3, [.ref q1, .null, .int (iI (0)), .int (iI (0)), .int (iI (0)), .int (iI (0)), .int (iI (0)), .int (iI (0)), .int (iI (0))])), (q1, .inl (k4 0, 6, .inl (fun i9 => iI ((fun _ => 0) i9))))] H locs := G
  refine z_aload_n E hl 0 rfl dX3_init_12 rfl ?_
  refine z_bipush E dX3_init_13 (by decide) ?_
  refine z_newa_int E G (n := 6) rfl zw_3 (by first | exact Nat.le_of_ble_eq_true rfl | omega) (by first | exact Nat.le_of_ble_eq_true rfl | omega) (by decide) dX3_init_15 (fun q2 H G => ?_)
  have G : zG D AA ss.heap [(h, .inr (3, [.ref q1, .null, .int (iI (0)), .int (iI (0)), .int (iI (0)), .int (iI (0)), .int (iI (0)), .int (iI (0)), .int (iI (0))])), (q1, .inl (k4 0, 6, .inl (fun i9 => iI ((fun _ => 0) i9)))), (q2, .inl (k4 0, 6, .inl (fun i9 => iI ((fun _ => 0) i9))))] H locs := G
  refine kp_X3_15 E hin G 0 rfl (Nat.le_of_ble_eq_true rfl) dX3_init_17 (fun H locs G => ?_)
  have G : zG D AA ss.heap [(h, .inr (3, [.ref q1, .ref q2, .int (iI (0)), .int (iI (0)), .int (iI (0)), .int (iI (0)), .int (iI (0)), .int (iI (0)), .int (iI (0))])), (q1, .inl (k4 0, 6, .inl (fun i9 => iI ((fun _ => 0) i9)))), (q2, .inl (k4 0, 6, .inl (fun i9 => iI ((fun _ => 0) i9))))] H locs := G
  refine z_aload_n E hl 0 rfl dX3_init_20 rfl ?_
  refine z_iconst E dX3_init_21 ?_
  refine kp_X3_18 E G 0 rfl (Nat.le_of_ble_eq_true rfl) dX3_init_22 (fun H locs G => ?_)
  have G : zG D AA ss.heap [(h, .inr (3, [.ref q1, .ref q2, .int (iI (0)), .int (iI (0)), .int (iI (0)), .int (iI (0)), .int (iI (0)), .int (iI (0)), .int (iI (0))])), (q1, .inl (k4 0, 6, .inl (fun i9 => iI ((fun _ => 0) i9)))), (q2, .inl (k4 0, 6, .inl (fun i9 => iI ((fun _ => 0) i9))))] H locs := G
  refine z_aload_n E hl 0 rfl dX3_init_25 rfl ?_
  refine z_bipush E dX3_init_26 (by decide) ?_
  refine kp_X3_22 E G 0 rfl (Nat.le_of_ble_eq_true rfl) dX3_init_28 (fun H locs G => ?_)
  have G : zG D AA ss.heap [(h, .inr (3, [.ref q1, .ref q2, .int (iI (0)), .int (iI (30)), .int (iI (0)), .int (iI (0)), .int (iI (0)), .int (iI (0)), .int (iI (0))])), (q1, .inl (k4 0, 6, .inl (fun i9 => iI ((fun _ => 0) i9)))), (q2, .inl (k4 0, 6, .inl (fun i9 => iI ((fun _ => 0) i9))))] H locs := G
  refine z_aload_n E hl 0 rfl dX3_init_31 rfl ?_
  refine z_bipush E dX3_init_32 (by decide) ?_
  refine kp_X3_25 E G 0 rfl (Nat.le_of_ble_eq_true rfl) dX3_init_34 (fun H locs G => ?_)
  have G : zG D AA ss.heap [(h, .inr (3, [.ref q1, .ref q2, .int (iI (0)), .int (iI (30)), .int (iI (8)), .int (iI (0)), .int (iI (0)), .int (iI (0)), .int (iI (0))])), (q1, .inl (k4 0, 6, .inl (fun i9 => iI ((fun _ => 0) i9)))), (q2, .inl (k4 0, 6, .inl (fun i9 => iI ((fun _ => 0) i9))))] H locs := G
  refine z_aload_n E hl 0 rfl dX3_init_37 rfl ?_
  refine z_bipush E dX3_init_38 (by decide) ?_
  refine kp_X3_28 E G 0 rfl (Nat.le_of_ble_eq_true rfl) dX3_init_40 (fun H locs G => ?_)
  have G : zG D AA ss.heap [(h, .inr (3, [.ref q1, .ref q2, .int (iI (0)), .int (iI (30)), .int (iI (8)), .int (iI (18)), .int (iI (0)), .int (iI (0)), .int (iI (0))])), (q1, .inl (k4 0, 6, .inl (fun i9 => iI ((fun _ => 0) i9)))), (q2, .inl (k4 0, 6, .inl (fun i9 => iI ((fun _ => 0) i9))))] H locs := G
  refine z_aload_n E hl 0 rfl dX3_init_43 rfl ?_
  refine z_bipush E dX3_init_44 (by decide) ?_
  refine kp_X3_31 E G 0 rfl (Nat.le_of_ble_eq_true rfl) dX3_init_46 (fun H locs G => ?_)
  have G : zG D AA ss.heap [(h, .inr (3, [.ref q1, .ref q2, .int (iI (0)), .int (iI (30)), .int (iI (8)), .int (iI (18)), .int (iI (0)), .int (iI (0)), .int (iI (100))])), (q1, .inl (k4 0, 6, .inl (fun i9 => iI ((fun _ => 0) i9)))), (q2, .inl (k4 0, 6, .inl (fun i9 => iI ((fun _ => 0) i9))))] H locs := G
  have G := z_ext G 1 rfl (F' := fun i => t00 (7 + i)) (fun k hk => (t00_hi 7 k (by decide)).symm)
  have G := z_ext G 2 rfl (F' := fun i => t00 (13 + i)) (fun k hk => (t00_hi 13 k (by decide)).symm)
  exact z_vret (w' := [(h, .inr (3, [.ref q1, .ref q2, .int (iI (t00 0)), .int (iI (t00 1)), .int (iI (t00 2)), .int (iI (t00 3)), .int (iI (t00 4)), .int (iI (t00 5)), .int (iI (t00 6))])), (q1, .inl (k4 0, 6, .inl (fun i9 => iI ((fun i => t00 (7 + i)) i9)))), (q2, .inl (k4 0, 6, .inl (fun i9 => iI ((fun i => t00 (13 + i)) i9))))]) E hr hlocks G dX3_init_49 (by omega) (by omega) (⟨[q1, q2], rfl⟩) ⟨q1, q2, rfl, rfl⟩

def q_c_X1_init (k4 : Nat → ClassId) (h : Nat) : Option Value → va_W → Prop := (fun (v9 : Option Value) (w9 : va_W) => ∃ (r q : Nat), v9 = none ∧ w9 = [(h, .inr (1, [.ref r, .ref q, .int (iI (0))])), (r, .inl (k4 0, 6, .inl (fun i9 => iI ((fun _ => 0) i9)))), (q, .inl (k4 0, 6, .inl (fun i9 => iI ((fun _ => 0) i9))))])
set_option maxHeartbeats 4000000 in
set_option maxRecDepth 100000 in
theorem c_X1_init (l : Launch) (D : va_G) (k4 : Nat → ClassId) (h : Nat)  : zC l yX1_init (zW yX1_init cX1_init 1 none) ({ frames := 1, cells := 2, slots := 12, locals := 12 } : Room) D k4 [.ref h] [(h, .inr (1, [.null, .null, .int (iI (0))]))] (2) (12) (q_c_X1_init k4 h) := by
  refine zC_of (cc := cX1_init) (by decide) (Nat.le_of_ble_eq_true rfl) (fun pp ee ss mm bl me co AA H locs ls E hr hlocks hin G hl => ?_)
  have hl : lv_has ls 1 [(0, .ref h)] := hl
  refine z_aload_n E hl 0 rfl dX1_init_0 rfl ?_
  refine W.objInit E.1 E.2.1 E.2.2.2.1 (E.w zw_58) (E.w zw_12) (E.w zw_13) rfl (hl.1.trans E.2.2.1.symm) rfl dX1_init_1 (Nat.le_of_ble_eq_true rfl) (Nat.le_of_ble_eq_true rfl) ?_
  refine W.eq (g2 := F0 mm 4 ls []) rfl ?_
  refine z_aload_n E hl 0 rfl dX1_init_4 rfl ?_
  refine z_bipush E dX1_init_5 (by decide) ?_
  refine z_newa_int E G (n := 6) rfl zw_3 (by first | exact Nat.le_of_ble_eq_true rfl | omega) (by first | exact Nat.le_of_ble_eq_true rfl | omega) (by decide) dX1_init_7 (fun q1 H G => ?_)
  have G : zG D AA ss.heap [(h, .inr (1, [.null, .null, .int (iI (0))])), (q1, .inl (k4 0, 6, .inl (fun i9 => iI ((fun _ => 0) i9))))] H locs := G
  refine kp_X1_9 E hin G 0 rfl (Nat.le_of_ble_eq_true rfl) dX1_init_9 (fun H locs G => ?_)
  have G : zG D AA ss.heap [(h, .inr (1, [.ref q1, .null, .int (iI (0))])), (q1, .inl (k4 0, 6, .inl (fun i9 => iI ((fun _ => 0) i9))))] H locs := G
  refine z_aload_n E hl 0 rfl dX1_init_12 rfl ?_
  refine z_bipush E dX1_init_13 (by decide) ?_
  refine z_newa_int E G (n := 6) rfl zw_3 (by first | exact Nat.le_of_ble_eq_true rfl | omega) (by first | exact Nat.le_of_ble_eq_true rfl | omega) (by decide) dX1_init_15 (fun q2 H G => ?_)
  have G : zG D AA ss.heap [(h, .inr (1, [.ref q1, .null, .int (iI (0))])), (q1, .inl (k4 0, 6, .inl (fun i9 => iI ((fun _ => 0) i9)))), (q2, .inl (k4 0, 6, .inl (fun i9 => iI ((fun _ => 0) i9))))] H locs := G
  refine kp_X1_15 E hin G 0 rfl (Nat.le_of_ble_eq_true rfl) dX1_init_17 (fun H locs G => ?_)
  have G : zG D AA ss.heap [(h, .inr (1, [.ref q1, .ref q2, .int (iI (0))])), (q1, .inl (k4 0, 6, .inl (fun i9 => iI ((fun _ => 0) i9)))), (q2, .inl (k4 0, 6, .inl (fun i9 => iI ((fun _ => 0) i9))))] H locs := G
  exact z_vret (w' := [(h, .inr (1, [.ref q1, .ref q2, .int (iI (0))])), (q1, .inl (k4 0, 6, .inl (fun i9 => iI ((fun _ => 0) i9)))), (q2, .inl (k4 0, 6, .inl (fun i9 => iI ((fun _ => 0) i9))))]) E hr hlocks G dX1_init_20 (by omega) (by omega) (⟨[q1, q2], rfl⟩) ⟨q1, q2, rfl, rfl⟩

def q_c_X2_init (k4 : Nat → ClassId) (o : Nat) : Option Value → va_W → Prop := (fun (v9 : Option Value) (w9 : va_W) => ∃ (ot osh ork og ou of : Nat), v9 = none ∧ w9 = [(o, .inr (2, [.ref ot, .ref og, .ref ou, .ref of, .int (iI (0)), .int (iI (0))])), (ot, .inr (3, [.ref osh, .ref ork, .int (iI (t00 0)), .int (iI (t00 1)), .int (iI (t00 2)), .int (iI (t00 3)), .int (iI (t00 4)), .int (iI (t00 5)), .int (iI (t00 6))])), (osh, .inl (k4 0, 6, .inl (fun i9 => iI ((fun i => t00 (7 + i)) i9)))), (ork, .inl (k4 0, 6, .inl (fun i9 => iI ((fun i => t00 (13 + i)) i9)))), (og, .inl (k4 0, 6, .inl (fun i9 => iI ((fun _ => 0) i9)))), (ou, .inl (k4 0, 6, .inl (fun i9 => iI ((fun _ => 0) i9)))), (of, .inl (k4 0, 48, .inl (fun i9 => iI ((fun _ => 0) i9))))])
set_option maxHeartbeats 4000000 in
set_option maxRecDepth 100000 in
theorem c_X2_init (l : Launch) (D : va_G) (k4 : Nat → ClassId) (o : Nat)  : zC l yX2_init (zW yX2_init cX2_init 1 none) ({ frames := 2, cells := 6, slots := 81, locals := 32 } : Room) D k4 [.ref o] [(o, .inr (2, [.null, .null, .null, .null, .int (iI (0)), .int (iI (0))]))] (6) (81) (q_c_X2_init k4 o) := by
  refine zC_of (cc := cX2_init) (by decide) (Nat.le_of_ble_eq_true rfl) (fun pp ee ss mm bl me co AA H locs ls E hr hlocks hin G hl => ?_)
  have hl : lv_has ls 1 [(0, .ref o)] := hl
  refine z_aload_n E hl 0 rfl dX2_init_0 rfl ?_
  refine W.objInit E.1 E.2.1 E.2.2.2.1 (E.w zw_42) (E.w zw_12) (E.w zw_13) rfl (hl.1.trans E.2.2.1.symm) rfl dX2_init_1 (Nat.le_of_ble_eq_true rfl) (Nat.le_of_ble_eq_true rfl) ?_
  refine W.eq (g2 := F0 mm 4 ls []) rfl ?_
  refine z_aload_n E hl 0 rfl dX2_init_4 rfl ?_
  refine va_new (ci := 3) (fs := [.null, .null, .int (iI (0)), .int (iI (0)), .int (iI (0)), .int (iI (0)), .int (iI (0)), .int (iI (0)), .int (iI (0))]) (C := RX3) (T := TX3) (N := 9) E.1 E.2.1 E.2.2.2.2.1 zT_3 tyX3 tyX3_ok E.2.2.2.1 (E.w zw_43) (E.w zw_15) (E.w zw_16) E.2.2.2.2.2.1 G.1 G.2.1 G.2.2.1 G.2.2.2 rfl (fun j hj => by rcases (show j = 0 ∨ j = 1 ∨ j = 2 ∨ j = 3 ∨ j = 4 ∨ j = 5 ∨ j = 6 ∨ j = 7 ∨ j = 8 by omega) with rfl | rfl | rfl | rfl | rfl | rfl | rfl | rfl | rfl <;> rfl) (by first | exact Nat.le_of_ble_eq_true rfl | omega) (by first | exact Nat.le_of_ble_eq_true rfl | omega) dX2_init_5 (fun q1 H hP hD hS => ?_)
  have G : zG D AA ss.heap [(o, .inr (2, [.null, .null, .null, .null, .int (iI (0)), .int (iI (0))])), (q1, .inr (3, [.null, .null, .int (iI (0)), .int (iI (0)), .int (iI (0)), .int (iI (0)), .int (iI (0)), .int (iI (0)), .int (iI (0))]))] H locs := ⟨hP, hD, hS, G.2.2.2⟩
  refine z_dup E dX2_init_8 rfl ?_
  refine z_callIN E G hl.1 (c_X3_init l D k4 q1 ) kIN_X2_11 ⟨rfl, rfl, Nat.le_of_ble_eq_true rfl, Nat.le_of_ble_eq_true rfl⟩ [1] rfl (by decide) rfl rfl (Nat.le_of_ble_eq_true rfl) dX2_init_9 ⟨by first | exact Nat.le_of_ble_eq_true rfl | omega, by first | exact Nat.le_of_ble_eq_true rfl | omega⟩ (fun v9 w9 H locs hq G => ?_)
  obtain ⟨q2, q3, rfl, rfl⟩ := hq
  refine W.eq (g2 := F0 mm 12 ls [.ref q1, .ref o]) rfl ?_
  have G : zG D AA ss.heap [(o, .inr (2, [.null, .null, .null, .null, .int (iI (0)), .int (iI (0))])), (q1, .inr (3, [.ref q2, .ref q3, .int (iI (t00 0)), .int (iI (t00 1)), .int (iI (t00 2)), .int (iI (t00 3)), .int (iI (t00 4)), .int (iI (t00 5)), .int (iI (t00 6))])), (q2, .inl (k4 0, 6, .inl (fun i9 => iI ((fun i => t00 (7 + i)) i9)))), (q3, .inl (k4 0, 6, .inl (fun i9 => iI ((fun i => t00 (13 + i)) i9))))] H locs := G
  refine kp_X2_12 E hin G 0 rfl (Nat.le_of_ble_eq_true rfl) dX2_init_12 (fun H locs G => ?_)
  have G : zG D AA ss.heap [(o, .inr (2, [.ref q1, .null, .null, .null, .int (iI (0)), .int (iI (0))])), (q1, .inr (3, [.ref q2, .ref q3, .int (iI (t00 0)), .int (iI (t00 1)), .int (iI (t00 2)), .int (iI (t00 3)), .int (iI (t00 4)), .int (iI (t00 5)), .int (iI (t00 6))])), (q2, .inl (k4 0, 6, .inl (fun i9 => iI ((fun i => t00 (7 + i)) i9)))), (q3, .inl (k4 0, 6, .inl (fun i9 => iI ((fun i => t00 (13 + i)) i9))))] H locs := G
  refine z_aload_n E hl 0 rfl dX2_init_15 rfl ?_
  refine z_bipush E dX2_init_16 (by decide) ?_
  refine z_newa_int E G (n := 6) rfl zw_3 (by first | exact Nat.le_of_ble_eq_true rfl | omega) (by first | exact Nat.le_of_ble_eq_true rfl | omega) (by decide) dX2_init_18 (fun q4 H G => ?_)
  have G : zG D AA ss.heap [(o, .inr (2, [.ref q1, .null, .null, .null, .int (iI (0)), .int (iI (0))])), (q1, .inr (3, [.ref q2, .ref q3, .int (iI (t00 0)), .int (iI (t00 1)), .int (iI (t00 2)), .int (iI (t00 3)), .int (iI (t00 4)), .int (iI (t00 5)), .int (iI (t00 6))])), (q2, .inl (k4 0, 6, .inl (fun i9 => iI ((fun i => t00 (7 + i)) i9)))), (q3, .inl (k4 0, 6, .inl (fun i9 => iI ((fun i => t00 (13 + i)) i9)))), (q4, .inl (k4 0, 6, .inl (fun i9 => iI ((fun _ => 0) i9))))] H locs := G
  refine kp_X2_18 E hin G 0 rfl (Nat.le_of_ble_eq_true rfl) dX2_init_20 (fun H locs G => ?_)
  have G : zG D AA ss.heap [(o, .inr (2, [.ref q1, .ref q4, .null, .null, .int (iI (0)), .int (iI (0))])), (q1, .inr (3, [.ref q2, .ref q3, .int (iI (t00 0)), .int (iI (t00 1)), .int (iI (t00 2)), .int (iI (t00 3)), .int (iI (t00 4)), .int (iI (t00 5)), .int (iI (t00 6))])), (q2, .inl (k4 0, 6, .inl (fun i9 => iI ((fun i => t00 (7 + i)) i9)))), (q3, .inl (k4 0, 6, .inl (fun i9 => iI ((fun i => t00 (13 + i)) i9)))), (q4, .inl (k4 0, 6, .inl (fun i9 => iI ((fun _ => 0) i9))))] H locs := G
  refine z_aload_n E hl 0 rfl dX2_init_23 rfl ?_
  refine z_bipush E dX2_init_24 (by decide) ?_
  refine z_newa_int E G (n := 6) rfl zw_3 (by first | exact Nat.le_of_ble_eq_true rfl | omega) (by first | exact Nat.le_of_ble_eq_true rfl | omega) (by decide) dX2_init_26 (fun q5 H G => ?_)
  have G : zG D AA ss.heap [(o, .inr (2, [.ref q1, .ref q4, .null, .null, .int (iI (0)), .int (iI (0))])), (q1, .inr (3, [.ref q2, .ref q3, .int (iI (t00 0)), .int (iI (t00 1)), .int (iI (t00 2)), .int (iI (t00 3)), .int (iI (t00 4)), .int (iI (t00 5)), .int (iI (t00 6))])), (q2, .inl (k4 0, 6, .inl (fun i9 => iI ((fun i => t00 (7 + i)) i9)))), (q3, .inl (k4 0, 6, .inl (fun i9 => iI ((fun i => t00 (13 + i)) i9)))), (q4, .inl (k4 0, 6, .inl (fun i9 => iI ((fun _ => 0) i9)))), (q5, .inl (k4 0, 6, .inl (fun i9 => iI ((fun _ => 0) i9))))] H locs := G
  refine kp_X2_22 E hin G 0 rfl (Nat.le_of_ble_eq_true rfl) dX2_init_28 (fun H locs G => ?_)
  have G : zG D AA ss.heap [(o, .inr (2, [.ref q1, .ref q4, .ref q5, .null, .int (iI (0)), .int (iI (0))])), (q1, .inr (3, [.ref q2, .ref q3, .int (iI (t00 0)), .int (iI (t00 1)), .int (iI (t00 2)), .int (iI (t00 3)), .int (iI (t00 4)), .int (iI (t00 5)), .int (iI (t00 6))])), (q2, .inl (k4 0, 6, .inl (fun i9 => iI ((fun i => t00 (7 + i)) i9)))), (q3, .inl (k4 0, 6, .inl (fun i9 => iI ((fun i => t00 (13 + i)) i9)))), (q4, .inl (k4 0, 6, .inl (fun i9 => iI ((fun _ => 0) i9)))), (q5, .inl (k4 0, 6, .inl (fun i9 => iI ((fun _ => 0) i9))))] H locs := G
  refine z_aload_n E hl 0 rfl dX2_init_31 rfl ?_
  refine z_bipush E dX2_init_32 (by decide) ?_
  refine z_newa_int E G (n := 48) rfl zw_3 (by first | exact Nat.le_of_ble_eq_true rfl | omega) (by first | exact Nat.le_of_ble_eq_true rfl | omega) (by decide) dX2_init_34 (fun q6 H G => ?_)
  have G : zG D AA ss.heap [(o, .inr (2, [.ref q1, .ref q4, .ref q5, .null, .int (iI (0)), .int (iI (0))])), (q1, .inr (3, [.ref q2, .ref q3, .int (iI (t00 0)), .int (iI (t00 1)), .int (iI (t00 2)), .int (iI (t00 3)), .int (iI (t00 4)), .int (iI (t00 5)), .int (iI (t00 6))])), (q2, .inl (k4 0, 6, .inl (fun i9 => iI ((fun i => t00 (7 + i)) i9)))), (q3, .inl (k4 0, 6, .inl (fun i9 => iI ((fun i => t00 (13 + i)) i9)))), (q4, .inl (k4 0, 6, .inl (fun i9 => iI ((fun _ => 0) i9)))), (q5, .inl (k4 0, 6, .inl (fun i9 => iI ((fun _ => 0) i9)))), (q6, .inl (k4 0, 48, .inl (fun i9 => iI ((fun _ => 0) i9))))] H locs := G
  refine kp_X2_25 E hin G 0 rfl (Nat.le_of_ble_eq_true rfl) dX2_init_36 (fun H locs G => ?_)
  have G : zG D AA ss.heap [(o, .inr (2, [.ref q1, .ref q4, .ref q5, .ref q6, .int (iI (0)), .int (iI (0))])), (q1, .inr (3, [.ref q2, .ref q3, .int (iI (t00 0)), .int (iI (t00 1)), .int (iI (t00 2)), .int (iI (t00 3)), .int (iI (t00 4)), .int (iI (t00 5)), .int (iI (t00 6))])), (q2, .inl (k4 0, 6, .inl (fun i9 => iI ((fun i => t00 (7 + i)) i9)))), (q3, .inl (k4 0, 6, .inl (fun i9 => iI ((fun i => t00 (13 + i)) i9)))), (q4, .inl (k4 0, 6, .inl (fun i9 => iI ((fun _ => 0) i9)))), (q5, .inl (k4 0, 6, .inl (fun i9 => iI ((fun _ => 0) i9)))), (q6, .inl (k4 0, 48, .inl (fun i9 => iI ((fun _ => 0) i9))))] H locs := G
  exact z_vret (w' := [(o, .inr (2, [.ref q1, .ref q4, .ref q5, .ref q6, .int (iI (0)), .int (iI (0))])), (q1, .inr (3, [.ref q2, .ref q3, .int (iI (t00 0)), .int (iI (t00 1)), .int (iI (t00 2)), .int (iI (t00 3)), .int (iI (t00 4)), .int (iI (t00 5)), .int (iI (t00 6))])), (q2, .inl (k4 0, 6, .inl (fun i9 => iI ((fun i => t00 (7 + i)) i9)))), (q3, .inl (k4 0, 6, .inl (fun i9 => iI ((fun i => t00 (13 + i)) i9)))), (q4, .inl (k4 0, 6, .inl (fun i9 => iI ((fun _ => 0) i9)))), (q5, .inl (k4 0, 6, .inl (fun i9 => iI ((fun _ => 0) i9)))), (q6, .inl (k4 0, 48, .inl (fun i9 => iI ((fun _ => 0) i9))))]) E hr hlocks G dX2_init_39 (by omega) (by omega) (⟨[q1, q2, q3, q4, q5, q6], rfl⟩) ⟨q1, q2, q3, q4, q5, q6, rfl, rfl⟩

def q_c_X0_init (k4 : Nat → ClassId) (h : Nat) : Option Value → va_W → Prop := (fun (v9 : Option Value) (w9 : va_W) => ∃ (h1 r1 p1 h2 r2 p2 : Nat), v9 = none ∧ w9 = [(h, .inr (0, [.ref h1, .ref h2])), (h1, .inr (1, [.ref r1, .ref p1, .int (iI (0))])), (r1, .inl (k4 0, 6, .inl (fun i9 => iI ((fun _ => 0) i9)))), (p1, .inl (k4 0, 6, .inl (fun i9 => iI ((fun _ => 0) i9)))), (h2, .inr (1, [.ref r2, .ref p2, .int (iI (0))])), (r2, .inl (k4 0, 6, .inl (fun i9 => iI ((fun _ => 0) i9)))), (p2, .inl (k4 0, 6, .inl (fun i9 => iI ((fun _ => 0) i9))))])
set_option maxHeartbeats 4000000 in
set_option maxRecDepth 100000 in
theorem c_X0_init (l : Launch) (D : va_G) (k4 : Nat → ClassId) (h : Nat)  : zC l yX0_init (zW yX0_init cX0_init 1 none) ({ frames := 2, cells := 6, slots := 30, locals := 32 } : Room) D k4 [.ref h] [(h, .inr (0, [.null, .null]))] (6) (30) (q_c_X0_init k4 h) := by
  refine zC_of (cc := cX0_init) (by decide) (Nat.le_of_ble_eq_true rfl) (fun pp ee ss mm bl me co AA H locs ls E hr hlocks hin G hl => ?_)
  have hl : lv_has ls 1 [(0, .ref h)] := hl
  refine z_aload_n E hl 0 rfl dX0_init_0 rfl ?_
  refine W.objInit E.1 E.2.1 E.2.2.2.1 (E.w zw_50) (E.w zw_12) (E.w zw_13) rfl (hl.1.trans E.2.2.1.symm) rfl dX0_init_1 (Nat.le_of_ble_eq_true rfl) (Nat.le_of_ble_eq_true rfl) ?_
  refine W.eq (g2 := F0 mm 4 ls []) rfl ?_
  refine z_aload_n E hl 0 rfl dX0_init_4 rfl ?_
  refine va_new (ci := 1) (fs := [.null, .null, .int (iI (0))]) (C := RX1) (T := TX1) (N := 3) E.1 E.2.1 E.2.2.2.2.1 zT_1 tyX1 tyX1_ok E.2.2.2.1 (E.w zw_51) (E.w zw_52) (E.w zw_53) E.2.2.2.2.2.1 G.1 G.2.1 G.2.2.1 G.2.2.2 rfl (fun j hj => by rcases (show j = 0 ∨ j = 1 ∨ j = 2 by omega) with rfl | rfl | rfl <;> rfl) (by first | exact Nat.le_of_ble_eq_true rfl | omega) (by first | exact Nat.le_of_ble_eq_true rfl | omega) dX0_init_5 (fun q1 H hP hD hS => ?_)
  have G : zG D AA ss.heap [(h, .inr (0, [.null, .null])), (q1, .inr (1, [.null, .null, .int (iI (0))]))] H locs := ⟨hP, hD, hS, G.2.2.2⟩
  refine z_dup E dX0_init_8 rfl ?_
  refine z_callIN E G hl.1 (c_X1_init l D k4 q1 ) kIN_X0_11 ⟨rfl, rfl, Nat.le_of_ble_eq_true rfl, Nat.le_of_ble_eq_true rfl⟩ [1] rfl (by decide) rfl rfl (Nat.le_of_ble_eq_true rfl) dX0_init_9 ⟨by first | exact Nat.le_of_ble_eq_true rfl | omega, by first | exact Nat.le_of_ble_eq_true rfl | omega⟩ (fun v9 w9 H locs hq G => ?_)
  obtain ⟨q2, q3, rfl, rfl⟩ := hq
  refine W.eq (g2 := F0 mm 12 ls [.ref q1, .ref h]) rfl ?_
  have G : zG D AA ss.heap [(h, .inr (0, [.null, .null])), (q1, .inr (1, [.ref q2, .ref q3, .int (iI (0))])), (q2, .inl (k4 0, 6, .inl (fun i9 => iI ((fun _ => 0) i9)))), (q3, .inl (k4 0, 6, .inl (fun i9 => iI ((fun _ => 0) i9))))] H locs := G
  refine kp_X0_12 E hin G 0 rfl (Nat.le_of_ble_eq_true rfl) dX0_init_12 (fun H locs G => ?_)
  have G : zG D AA ss.heap [(h, .inr (0, [.ref q1, .null])), (q1, .inr (1, [.ref q2, .ref q3, .int (iI (0))])), (q2, .inl (k4 0, 6, .inl (fun i9 => iI ((fun _ => 0) i9)))), (q3, .inl (k4 0, 6, .inl (fun i9 => iI ((fun _ => 0) i9))))] H locs := G
  refine z_aload_n E hl 0 rfl dX0_init_15 rfl ?_
  refine va_new (ci := 1) (fs := [.null, .null, .int (iI (0))]) (C := RX1) (T := TX1) (N := 3) E.1 E.2.1 E.2.2.2.2.1 zT_1 tyX1 tyX1_ok E.2.2.2.1 (E.w zw_51) (E.w zw_52) (E.w zw_53) E.2.2.2.2.2.1 G.1 G.2.1 G.2.2.1 G.2.2.2 rfl (fun j hj => by rcases (show j = 0 ∨ j = 1 ∨ j = 2 by omega) with rfl | rfl | rfl <;> rfl) (by first | exact Nat.le_of_ble_eq_true rfl | omega) (by first | exact Nat.le_of_ble_eq_true rfl | omega) dX0_init_16 (fun q4 H hP hD hS => ?_)
  have G : zG D AA ss.heap [(h, .inr (0, [.ref q1, .null])), (q1, .inr (1, [.ref q2, .ref q3, .int (iI (0))])), (q2, .inl (k4 0, 6, .inl (fun i9 => iI ((fun _ => 0) i9)))), (q3, .inl (k4 0, 6, .inl (fun i9 => iI ((fun _ => 0) i9)))), (q4, .inr (1, [.null, .null, .int (iI (0))]))] H locs := ⟨hP, hD, hS, G.2.2.2⟩
  refine z_dup E dX0_init_19 rfl ?_
  refine z_callIN E G hl.1 (c_X1_init l D k4 q4 ) kIN_X0_11 ⟨rfl, rfl, Nat.le_of_ble_eq_true rfl, Nat.le_of_ble_eq_true rfl⟩ [4] rfl (by decide) rfl rfl (Nat.le_of_ble_eq_true rfl) dX0_init_20 ⟨by first | exact Nat.le_of_ble_eq_true rfl | omega, by first | exact Nat.le_of_ble_eq_true rfl | omega⟩ (fun v9 w9 H locs hq G => ?_)
  obtain ⟨q5, q6, rfl, rfl⟩ := hq
  refine W.eq (g2 := F0 mm 23 ls [.ref q4, .ref h]) rfl ?_
  have G : zG D AA ss.heap [(h, .inr (0, [.ref q1, .null])), (q1, .inr (1, [.ref q2, .ref q3, .int (iI (0))])), (q2, .inl (k4 0, 6, .inl (fun i9 => iI ((fun _ => 0) i9)))), (q3, .inl (k4 0, 6, .inl (fun i9 => iI ((fun _ => 0) i9)))), (q4, .inr (1, [.ref q5, .ref q6, .int (iI (0))])), (q5, .inl (k4 0, 6, .inl (fun i9 => iI ((fun _ => 0) i9)))), (q6, .inl (k4 0, 6, .inl (fun i9 => iI ((fun _ => 0) i9))))] H locs := G
  refine kp_X0_18 E hin G 0 rfl (Nat.le_of_ble_eq_true rfl) dX0_init_23 (fun H locs G => ?_)
  have G : zG D AA ss.heap [(h, .inr (0, [.ref q1, .ref q4])), (q1, .inr (1, [.ref q2, .ref q3, .int (iI (0))])), (q2, .inl (k4 0, 6, .inl (fun i9 => iI ((fun _ => 0) i9)))), (q3, .inl (k4 0, 6, .inl (fun i9 => iI ((fun _ => 0) i9)))), (q4, .inr (1, [.ref q5, .ref q6, .int (iI (0))])), (q5, .inl (k4 0, 6, .inl (fun i9 => iI ((fun _ => 0) i9)))), (q6, .inl (k4 0, 6, .inl (fun i9 => iI ((fun _ => 0) i9))))] H locs := G
  exact z_vret (w' := [(h, .inr (0, [.ref q1, .ref q4])), (q1, .inr (1, [.ref q2, .ref q3, .int (iI (0))])), (q2, .inl (k4 0, 6, .inl (fun i9 => iI ((fun _ => 0) i9)))), (q3, .inl (k4 0, 6, .inl (fun i9 => iI ((fun _ => 0) i9)))), (q4, .inr (1, [.ref q5, .ref q6, .int (iI (0))])), (q5, .inl (k4 0, 6, .inl (fun i9 => iI ((fun _ => 0) i9)))), (q6, .inl (k4 0, 6, .inl (fun i9 => iI ((fun _ => 0) i9))))]) E hr hlocks G dX0_init_26 (by omega) (by omega) (⟨[q1, q2, q3, q4, q5, q6], rfl⟩) ⟨q1, q2, q3, q4, q5, q6, rfl, rfl⟩

def q_c_X3_copy (k4 : Nat → ClassId) (ot osh ork pt psh prk : Nat) (t t2 : Nat → Int) : Option Value → va_W → Prop := (fun (v9 : Option Value) (w9 : va_W) => v9 = none ∧ w9 = [(ot, .inr (3, [.ref osh, .ref ork, .int (iI (t2 0)), .int (iI (t2 1)), .int (iI (t2 2)), .int (iI (t2 3)), .int (iI (t2 4)), .int (iI (t2 5)), .int (iI (t2 6))])), (osh, .inl (k4 0, 6, .inl (fun i9 => iI ((fun i => t2 (7 + i)) i9)))), (ork, .inl (k4 0, 6, .inl (fun i9 => iI ((fun i => t2 (13 + i)) i9)))), (pt, .inr (3, [.ref psh, .ref prk, .int (iI (t2 0)), .int (iI (t2 1)), .int (iI (t2 2)), .int (iI (t2 3)), .int (iI (t2 4)), .int (iI (t2 5)), .int (iI (t2 6))])), (psh, .inl (k4 0, 6, .inl (fun i9 => iI ((fun i => t2 (7 + i)) i9)))), (prk, .inl (k4 0, 6, .inl (fun i9 => iI ((fun i => t2 (13 + i)) i9))))])
set_option maxHeartbeats 4000000 in
set_option maxRecDepth 100000 in
theorem c_X3_copy (l : Launch) (D : va_G) (k4 : Nat → ClassId) (ot osh ork pt psh prk : Nat) (t t2 : Nat → Int)  : zC l yX3_copy (zW yX3_copy cX3_copy 3 none) ({ frames := 1, cells := 0, slots := 0, locals := 22 } : Room) D k4 [.ref ot, .ref pt] [(ot, .inr (3, [.ref osh, .ref ork, .int (iI (t 0)), .int (iI (t 1)), .int (iI (t 2)), .int (iI (t 3)), .int (iI (t 4)), .int (iI (t 5)), .int (iI (t 6))])), (osh, .inl (k4 0, 6, .inl (fun i9 => iI ((fun i => t (7 + i)) i9)))), (ork, .inl (k4 0, 6, .inl (fun i9 => iI ((fun i => t (13 + i)) i9)))), (pt, .inr (3, [.ref psh, .ref prk, .int (iI (t2 0)), .int (iI (t2 1)), .int (iI (t2 2)), .int (iI (t2 3)), .int (iI (t2 4)), .int (iI (t2 5)), .int (iI (t2 6))])), (psh, .inl (k4 0, 6, .inl (fun i9 => iI ((fun i => t2 (7 + i)) i9)))), (prk, .inl (k4 0, 6, .inl (fun i9 => iI ((fun i => t2 (13 + i)) i9))))] (0) (0) (q_c_X3_copy k4 ot osh ork pt psh prk t t2) := by
  refine zC_of (cc := cX3_copy) (by decide) (Nat.le_of_ble_eq_true rfl) (fun pp ee ss mm bl me co AA H locs ls E hr hlocks hin G hl => ?_)
  have hl : lv_has ls 3 [(0, .ref ot), (1, .ref pt)] := hl
  refine z_iconst E dX3_copy_0 ?_
  refine z_istore_n E [(2, .int (iI (0))), (0, .ref ot), (1, .ref pt)] dX3_copy_1 rfl hl (by decide) rfl (fun ls hl => ?_)
  have hp2_1 : ∀ (n9 : Nat) (j : Nat) (H : Heap) (locs : List Loc) (ls : Array Slot), (6 - j < n9) → (j ≤ 6) → zG D AA ss.heap [(ot, .inr (3, [.ref osh, .ref ork, .int (iI (t 0)), .int (iI (t 1)), .int (iI (t 2)), .int (iI (t 3)), .int (iI (t 4)), .int (iI (t 5)), .int (iI (t 6))])), (osh, .inl (k4 0, 6, .inl (fun i9 => iI ((cp (fun i => t2 (7 + i)) (fun i => t (7 + i)) j) i9)))), (ork, .inl (k4 0, 6, .inl (fun i9 => iI ((cp (fun i => t2 (13 + i)) (fun i => t (13 + i)) j) i9)))), (pt, .inr (3, [.ref psh, .ref prk, .int (iI (t2 0)), .int (iI (t2 1)), .int (iI (t2 2)), .int (iI (t2 3)), .int (iI (t2 4)), .int (iI (t2 5)), .int (iI (t2 6))])), (psh, .inl (k4 0, 6, .inl (fun i9 => iI ((fun i => t2 (7 + i)) i9)))), (prk, .inl (k4 0, 6, .inl (fun i9 => iI ((fun i => t2 (13 + i)) i9))))] H locs → lv_has ls 3 [(0, .ref ot), (1, .ref pt), (2, .int (iI (((j : Nat) : Int))))] → W pp l ee ({ frames := 1, cells := 0, slots := 0, locals := 22 } : Room) ss mm ([.ref ot, .ref pt] : List Value).toArray bl me co H locs (0) (0) (MQ bl (zQ D [(ot, .inr (3, [.ref osh, .ref ork, .int (iI (t 0)), .int (iI (t 1)), .int (iI (t 2)), .int (iI (t 3)), .int (iI (t 4)), .int (iI (t 5)), .int (iI (t 6))])), (osh, .inl (k4 0, 6, .inl (fun i9 => iI ((fun i => t (7 + i)) i9)))), (ork, .inl (k4 0, 6, .inl (fun i9 => iI ((fun i => t (13 + i)) i9)))), (pt, .inr (3, [.ref psh, .ref prk, .int (iI (t2 0)), .int (iI (t2 1)), .int (iI (t2 2)), .int (iI (t2 3)), .int (iI (t2 4)), .int (iI (t2 5)), .int (iI (t2 6))])), (psh, .inl (k4 0, 6, .inl (fun i9 => iI ((fun i => t2 (7 + i)) i9)))), (prk, .inl (k4 0, 6, .inl (fun i9 => iI ((fun i => t2 (13 + i)) i9))))] AA (q_c_X3_copy k4 ot osh ork pt psh prk t t2)) ([.ref ot, .ref pt] : List Value).toArray ss (0) (0) AA) (F0 mm 2 ls []) := by
    intro n9
    induction n9 with
    | zero => intro j H locs ls hn9 hj G hl; exact absurd hn9 (by omega)
    | succ n9 ih =>
      intro j H locs ls hn9 hj G hl
      have ih2_1 := @ih
      refine z_iload_n E hl 2 rfl dX3_copy_2 rfl ?_
      refine z_bipush E dX3_copy_3 (by decide) ?_
      refine z_icmp_ge (tgt := 46) E dX3_copy_5 (by decide) ⟨by omega, by omega⟩ (by decide) (fun c_5 => ?_) (fun c_5 => ?_)
      · skip
        obtain rfl : j = 6 := by omega
        have G := z_ext G 1 rfl (F' := (fun i => t2 (7 + i))) (fun k hk => cp_in hk)
        have G := z_ext G 2 rfl (F' := (fun i => t2 (13 + i))) (fun k hk => cp_in hk)
        have G : zG D AA ss.heap [(ot, .inr (3, [.ref osh, .ref ork, .int (iI (t 0)), .int (iI (t 1)), .int (iI (t 2)), .int (iI (t 3)), .int (iI (t 4)), .int (iI (t 5)), .int (iI (t 6))])), (osh, .inl (k4 0, 6, .inl (fun i9 => iI ((fun i => t2 (7 + i)) i9)))), (ork, .inl (k4 0, 6, .inl (fun i9 => iI ((fun i => t2 (13 + i)) i9)))), (pt, .inr (3, [.ref psh, .ref prk, .int (iI (t2 0)), .int (iI (t2 1)), .int (iI (t2 2)), .int (iI (t2 3)), .int (iI (t2 4)), .int (iI (t2 5)), .int (iI (t2 6))])), (psh, .inl (k4 0, 6, .inl (fun i9 => iI ((fun i => t2 (7 + i)) i9)))), (prk, .inl (k4 0, 6, .inl (fun i9 => iI ((fun i => t2 (13 + i)) i9))))] H locs := G
        refine z_aload_n E hl 0 rfl dX3_copy_46 rfl ?_
        refine z_aload_n E hl 1 rfl dX3_copy_47 rfl ?_
        refine kg_X3_18 E G 3 rfl rfl dX3_copy_48 ?_
        refine kp_X3_18 E G 0 rfl (Nat.le_of_ble_eq_true rfl) dX3_copy_51 (fun H locs G => ?_)
        have G : zG D AA ss.heap [(ot, .inr (3, [.ref osh, .ref ork, .int (iI (t2 0)), .int (iI (t 1)), .int (iI (t 2)), .int (iI (t 3)), .int (iI (t 4)), .int (iI (t 5)), .int (iI (t 6))])), (osh, .inl (k4 0, 6, .inl (fun i9 => iI ((fun i => t2 (7 + i)) i9)))), (ork, .inl (k4 0, 6, .inl (fun i9 => iI ((fun i => t2 (13 + i)) i9)))), (pt, .inr (3, [.ref psh, .ref prk, .int (iI (t2 0)), .int (iI (t2 1)), .int (iI (t2 2)), .int (iI (t2 3)), .int (iI (t2 4)), .int (iI (t2 5)), .int (iI (t2 6))])), (psh, .inl (k4 0, 6, .inl (fun i9 => iI ((fun i => t2 (7 + i)) i9)))), (prk, .inl (k4 0, 6, .inl (fun i9 => iI ((fun i => t2 (13 + i)) i9))))] H locs := G
        refine z_aload_n E hl 0 rfl dX3_copy_54 rfl ?_
        refine z_aload_n E hl 1 rfl dX3_copy_55 rfl ?_
        refine kg_X3_22 E G 3 rfl rfl dX3_copy_56 ?_
        refine kp_X3_22 E G 0 rfl (Nat.le_of_ble_eq_true rfl) dX3_copy_59 (fun H locs G => ?_)
        have G : zG D AA ss.heap [(ot, .inr (3, [.ref osh, .ref ork, .int (iI (t2 0)), .int (iI (t2 1)), .int (iI (t 2)), .int (iI (t 3)), .int (iI (t 4)), .int (iI (t 5)), .int (iI (t 6))])), (osh, .inl (k4 0, 6, .inl (fun i9 => iI ((fun i => t2 (7 + i)) i9)))), (ork, .inl (k4 0, 6, .inl (fun i9 => iI ((fun i => t2 (13 + i)) i9)))), (pt, .inr (3, [.ref psh, .ref prk, .int (iI (t2 0)), .int (iI (t2 1)), .int (iI (t2 2)), .int (iI (t2 3)), .int (iI (t2 4)), .int (iI (t2 5)), .int (iI (t2 6))])), (psh, .inl (k4 0, 6, .inl (fun i9 => iI ((fun i => t2 (7 + i)) i9)))), (prk, .inl (k4 0, 6, .inl (fun i9 => iI ((fun i => t2 (13 + i)) i9))))] H locs := G
        refine z_aload_n E hl 0 rfl dX3_copy_62 rfl ?_
        refine z_aload_n E hl 1 rfl dX3_copy_63 rfl ?_
        refine kg_X3_25 E G 3 rfl rfl dX3_copy_64 ?_
        refine kp_X3_25 E G 0 rfl (Nat.le_of_ble_eq_true rfl) dX3_copy_67 (fun H locs G => ?_)
        have G : zG D AA ss.heap [(ot, .inr (3, [.ref osh, .ref ork, .int (iI (t2 0)), .int (iI (t2 1)), .int (iI (t2 2)), .int (iI (t 3)), .int (iI (t 4)), .int (iI (t 5)), .int (iI (t 6))])), (osh, .inl (k4 0, 6, .inl (fun i9 => iI ((fun i => t2 (7 + i)) i9)))), (ork, .inl (k4 0, 6, .inl (fun i9 => iI ((fun i => t2 (13 + i)) i9)))), (pt, .inr (3, [.ref psh, .ref prk, .int (iI (t2 0)), .int (iI (t2 1)), .int (iI (t2 2)), .int (iI (t2 3)), .int (iI (t2 4)), .int (iI (t2 5)), .int (iI (t2 6))])), (psh, .inl (k4 0, 6, .inl (fun i9 => iI ((fun i => t2 (7 + i)) i9)))), (prk, .inl (k4 0, 6, .inl (fun i9 => iI ((fun i => t2 (13 + i)) i9))))] H locs := G
        refine z_aload_n E hl 0 rfl dX3_copy_70 rfl ?_
        refine z_aload_n E hl 1 rfl dX3_copy_71 rfl ?_
        refine kg_X3_28 E G 3 rfl rfl dX3_copy_72 ?_
        refine kp_X3_28 E G 0 rfl (Nat.le_of_ble_eq_true rfl) dX3_copy_75 (fun H locs G => ?_)
        have G : zG D AA ss.heap [(ot, .inr (3, [.ref osh, .ref ork, .int (iI (t2 0)), .int (iI (t2 1)), .int (iI (t2 2)), .int (iI (t2 3)), .int (iI (t 4)), .int (iI (t 5)), .int (iI (t 6))])), (osh, .inl (k4 0, 6, .inl (fun i9 => iI ((fun i => t2 (7 + i)) i9)))), (ork, .inl (k4 0, 6, .inl (fun i9 => iI ((fun i => t2 (13 + i)) i9)))), (pt, .inr (3, [.ref psh, .ref prk, .int (iI (t2 0)), .int (iI (t2 1)), .int (iI (t2 2)), .int (iI (t2 3)), .int (iI (t2 4)), .int (iI (t2 5)), .int (iI (t2 6))])), (psh, .inl (k4 0, 6, .inl (fun i9 => iI ((fun i => t2 (7 + i)) i9)))), (prk, .inl (k4 0, 6, .inl (fun i9 => iI ((fun i => t2 (13 + i)) i9))))] H locs := G
        refine z_aload_n E hl 0 rfl dX3_copy_78 rfl ?_
        refine z_aload_n E hl 1 rfl dX3_copy_79 rfl ?_
        refine kg_X3_42 E G 3 rfl rfl dX3_copy_80 ?_
        refine kp_X3_42 E G 0 rfl (Nat.le_of_ble_eq_true rfl) dX3_copy_83 (fun H locs G => ?_)
        have G : zG D AA ss.heap [(ot, .inr (3, [.ref osh, .ref ork, .int (iI (t2 0)), .int (iI (t2 1)), .int (iI (t2 2)), .int (iI (t2 3)), .int (iI (t2 4)), .int (iI (t 5)), .int (iI (t 6))])), (osh, .inl (k4 0, 6, .inl (fun i9 => iI ((fun i => t2 (7 + i)) i9)))), (ork, .inl (k4 0, 6, .inl (fun i9 => iI ((fun i => t2 (13 + i)) i9)))), (pt, .inr (3, [.ref psh, .ref prk, .int (iI (t2 0)), .int (iI (t2 1)), .int (iI (t2 2)), .int (iI (t2 3)), .int (iI (t2 4)), .int (iI (t2 5)), .int (iI (t2 6))])), (psh, .inl (k4 0, 6, .inl (fun i9 => iI ((fun i => t2 (7 + i)) i9)))), (prk, .inl (k4 0, 6, .inl (fun i9 => iI ((fun i => t2 (13 + i)) i9))))] H locs := G
        refine z_aload_n E hl 0 rfl dX3_copy_86 rfl ?_
        refine z_aload_n E hl 1 rfl dX3_copy_87 rfl ?_
        refine kg_X3_45 E G 3 rfl rfl dX3_copy_88 ?_
        refine kp_X3_45 E G 0 rfl (Nat.le_of_ble_eq_true rfl) dX3_copy_91 (fun H locs G => ?_)
        have G : zG D AA ss.heap [(ot, .inr (3, [.ref osh, .ref ork, .int (iI (t2 0)), .int (iI (t2 1)), .int (iI (t2 2)), .int (iI (t2 3)), .int (iI (t2 4)), .int (iI (t2 5)), .int (iI (t 6))])), (osh, .inl (k4 0, 6, .inl (fun i9 => iI ((fun i => t2 (7 + i)) i9)))), (ork, .inl (k4 0, 6, .inl (fun i9 => iI ((fun i => t2 (13 + i)) i9)))), (pt, .inr (3, [.ref psh, .ref prk, .int (iI (t2 0)), .int (iI (t2 1)), .int (iI (t2 2)), .int (iI (t2 3)), .int (iI (t2 4)), .int (iI (t2 5)), .int (iI (t2 6))])), (psh, .inl (k4 0, 6, .inl (fun i9 => iI ((fun i => t2 (7 + i)) i9)))), (prk, .inl (k4 0, 6, .inl (fun i9 => iI ((fun i => t2 (13 + i)) i9))))] H locs := G
        refine z_aload_n E hl 0 rfl dX3_copy_94 rfl ?_
        refine z_aload_n E hl 1 rfl dX3_copy_95 rfl ?_
        refine kg_X3_31 E G 3 rfl rfl dX3_copy_96 ?_
        refine kp_X3_31 E G 0 rfl (Nat.le_of_ble_eq_true rfl) dX3_copy_99 (fun H locs G => ?_)
        have G : zG D AA ss.heap [(ot, .inr (3, [.ref osh, .ref ork, .int (iI (t2 0)), .int (iI (t2 1)), .int (iI (t2 2)), .int (iI (t2 3)), .int (iI (t2 4)), .int (iI (t2 5)), .int (iI (t2 6))])), (osh, .inl (k4 0, 6, .inl (fun i9 => iI ((fun i => t2 (7 + i)) i9)))), (ork, .inl (k4 0, 6, .inl (fun i9 => iI ((fun i => t2 (13 + i)) i9)))), (pt, .inr (3, [.ref psh, .ref prk, .int (iI (t2 0)), .int (iI (t2 1)), .int (iI (t2 2)), .int (iI (t2 3)), .int (iI (t2 4)), .int (iI (t2 5)), .int (iI (t2 6))])), (psh, .inl (k4 0, 6, .inl (fun i9 => iI ((fun i => t2 (7 + i)) i9)))), (prk, .inl (k4 0, 6, .inl (fun i9 => iI ((fun i => t2 (13 + i)) i9))))] H locs := G
        exact z_vret (w' := [(ot, .inr (3, [.ref osh, .ref ork, .int (iI (t2 0)), .int (iI (t2 1)), .int (iI (t2 2)), .int (iI (t2 3)), .int (iI (t2 4)), .int (iI (t2 5)), .int (iI (t2 6))])), (osh, .inl (k4 0, 6, .inl (fun i9 => iI ((fun i => t2 (7 + i)) i9)))), (ork, .inl (k4 0, 6, .inl (fun i9 => iI ((fun i => t2 (13 + i)) i9)))), (pt, .inr (3, [.ref psh, .ref prk, .int (iI (t2 0)), .int (iI (t2 1)), .int (iI (t2 2)), .int (iI (t2 3)), .int (iI (t2 4)), .int (iI (t2 5)), .int (iI (t2 6))])), (psh, .inl (k4 0, 6, .inl (fun i9 => iI ((fun i => t2 (7 + i)) i9)))), (prk, .inl (k4 0, 6, .inl (fun i9 => iI ((fun i => t2 (13 + i)) i9))))]) E hr hlocks G dX3_copy_102 (by omega) (by omega) (zx0 rfl) ⟨rfl, rfl⟩
      · skip
        refine z_aload_n E hl 0 rfl dX3_copy_8 rfl ?_
        refine kg_X3_9 E G 0 rfl rfl dX3_copy_9 ?_
        refine z_iload_n E hl 2 rfl dX3_copy_12 rfl ?_
        refine z_aload_n E hl 1 rfl dX3_copy_13 rfl ?_
        refine kg_X3_9 E G 3 rfl rfl dX3_copy_14 ?_
        refine z_iload_n E hl 2 rfl dX3_copy_17 rfl ?_
        refine z_callSN E G hl.1 (c_X4_at l D k4 psh 6 ((fun i => t2 (7 + i))) j (by omega) (by decide)) kSN_X3_34 ⟨rfl, rfl, Nat.le_of_ble_eq_true rfl, Nat.le_of_ble_eq_true rfl⟩ [4] rfl (by decide) rfl rfl (Nat.le_of_ble_eq_true rfl) dX3_copy_18 ⟨by first | exact Nat.le_of_ble_eq_true rfl | omega, by first | exact Nat.le_of_ble_eq_true rfl | omega⟩ (fun v9 w9 H locs hq G => ?_)
        obtain ⟨rfl, rfl⟩ := hq
        refine W.eq (g2 := F0 mm 21 ls [.int (iI ((fun i => t2 (7 + i)) j)), .int (iI (((j : Nat) : Int))), .ref osh]) rfl ?_
        have G : zG D AA ss.heap [(ot, .inr (3, [.ref osh, .ref ork, .int (iI (t 0)), .int (iI (t 1)), .int (iI (t 2)), .int (iI (t 3)), .int (iI (t 4)), .int (iI (t 5)), .int (iI (t 6))])), (osh, .inl (k4 0, 6, .inl (fun i9 => iI ((cp (fun i => t2 (7 + i)) (fun i => t (7 + i)) j) i9)))), (ork, .inl (k4 0, 6, .inl (fun i9 => iI ((cp (fun i => t2 (13 + i)) (fun i => t (13 + i)) j) i9)))), (pt, .inr (3, [.ref psh, .ref prk, .int (iI (t2 0)), .int (iI (t2 1)), .int (iI (t2 2)), .int (iI (t2 3)), .int (iI (t2 4)), .int (iI (t2 5)), .int (iI (t2 6))])), (psh, .inl (k4 0, 6, .inl (fun i9 => iI ((fun i => t2 (7 + i)) i9)))), (prk, .inl (k4 0, 6, .inl (fun i9 => iI ((fun i => t2 (13 + i)) i9))))] H locs := G
        refine z_eq (y := t2 (7 + j)) rfl ?_
        refine z_callSN E G hl.1 (c_X4_put l D k4 osh 6 ((cp (fun i => t2 (7 + i)) (fun i => t (7 + i)) j)) j (t2 (7 + j)) (by omega) (by decide)) kSN_X3_38 ⟨rfl, rfl, Nat.le_of_ble_eq_true rfl, Nat.le_of_ble_eq_true rfl⟩ [1] rfl (by decide) rfl rfl (Nat.le_of_ble_eq_true rfl) dX3_copy_21 ⟨by first | exact Nat.le_of_ble_eq_true rfl | omega, by first | exact Nat.le_of_ble_eq_true rfl | omega⟩ (fun v9 w9 H locs hq G => ?_)
        obtain ⟨rfl, rfl⟩ := hq
        refine W.eq (g2 := F0 mm 24 ls []) rfl ?_
        have G : zG D AA ss.heap [(ot, .inr (3, [.ref osh, .ref ork, .int (iI (t 0)), .int (iI (t 1)), .int (iI (t 2)), .int (iI (t 3)), .int (iI (t 4)), .int (iI (t 5)), .int (iI (t 6))])), (osh, .inl (k4 0, 6, .inl (fun i9 => iI ((up (cp (fun i => t2 (7 + i)) (fun i => t (7 + i)) j) j (t2 (7 + j))) i9)))), (ork, .inl (k4 0, 6, .inl (fun i9 => iI ((cp (fun i => t2 (13 + i)) (fun i => t (13 + i)) j) i9)))), (pt, .inr (3, [.ref psh, .ref prk, .int (iI (t2 0)), .int (iI (t2 1)), .int (iI (t2 2)), .int (iI (t2 3)), .int (iI (t2 4)), .int (iI (t2 5)), .int (iI (t2 6))])), (psh, .inl (k4 0, 6, .inl (fun i9 => iI ((fun i => t2 (7 + i)) i9)))), (prk, .inl (k4 0, 6, .inl (fun i9 => iI ((fun i => t2 (13 + i)) i9))))] H locs := G
        rw [show up (cp (fun i => t2 (7 + i)) (fun i => t (7 + i)) j) j (t2 (7 + j)) = cp (fun i => t2 (7 + i)) (fun i => t (7 + i)) (j + 1) from cp_s (fun i => t2 (7 + i)) (fun i => t (7 + i)) j] at G
        refine z_aload_n E hl 0 rfl dX3_copy_24 rfl ?_
        refine kg_X3_15 E G 0 rfl rfl dX3_copy_25 ?_
        refine z_iload_n E hl 2 rfl dX3_copy_28 rfl ?_
        refine z_aload_n E hl 1 rfl dX3_copy_29 rfl ?_
        refine kg_X3_15 E G 3 rfl rfl dX3_copy_30 ?_
        refine z_iload_n E hl 2 rfl dX3_copy_33 rfl ?_
        refine z_callSN E G hl.1 (c_X4_at l D k4 prk 6 ((fun i => t2 (13 + i))) j (by omega) (by decide)) kSN_X3_34 ⟨rfl, rfl, Nat.le_of_ble_eq_true rfl, Nat.le_of_ble_eq_true rfl⟩ [5] rfl (by decide) rfl rfl (Nat.le_of_ble_eq_true rfl) dX3_copy_34 ⟨by first | exact Nat.le_of_ble_eq_true rfl | omega, by first | exact Nat.le_of_ble_eq_true rfl | omega⟩ (fun v9 w9 H locs hq G => ?_)
        obtain ⟨rfl, rfl⟩ := hq
        refine W.eq (g2 := F0 mm 37 ls [.int (iI ((fun i => t2 (13 + i)) j)), .int (iI (((j : Nat) : Int))), .ref ork]) rfl ?_
        have G : zG D AA ss.heap [(ot, .inr (3, [.ref osh, .ref ork, .int (iI (t 0)), .int (iI (t 1)), .int (iI (t 2)), .int (iI (t 3)), .int (iI (t 4)), .int (iI (t 5)), .int (iI (t 6))])), (osh, .inl (k4 0, 6, .inl (fun i9 => iI ((cp (fun i => t2 (7 + i)) (fun i => t (7 + i)) (j + 1)) i9)))), (ork, .inl (k4 0, 6, .inl (fun i9 => iI ((cp (fun i => t2 (13 + i)) (fun i => t (13 + i)) j) i9)))), (pt, .inr (3, [.ref psh, .ref prk, .int (iI (t2 0)), .int (iI (t2 1)), .int (iI (t2 2)), .int (iI (t2 3)), .int (iI (t2 4)), .int (iI (t2 5)), .int (iI (t2 6))])), (psh, .inl (k4 0, 6, .inl (fun i9 => iI ((fun i => t2 (7 + i)) i9)))), (prk, .inl (k4 0, 6, .inl (fun i9 => iI ((fun i => t2 (13 + i)) i9))))] H locs := G
        refine z_eq (y := t2 (13 + j)) rfl ?_
        refine z_callSN E G hl.1 (c_X4_put l D k4 ork 6 ((cp (fun i => t2 (13 + i)) (fun i => t (13 + i)) j)) j (t2 (13 + j)) (by omega) (by decide)) kSN_X3_38 ⟨rfl, rfl, Nat.le_of_ble_eq_true rfl, Nat.le_of_ble_eq_true rfl⟩ [2] rfl (by decide) rfl rfl (Nat.le_of_ble_eq_true rfl) dX3_copy_37 ⟨by first | exact Nat.le_of_ble_eq_true rfl | omega, by first | exact Nat.le_of_ble_eq_true rfl | omega⟩ (fun v9 w9 H locs hq G => ?_)
        obtain ⟨rfl, rfl⟩ := hq
        refine W.eq (g2 := F0 mm 40 ls []) rfl ?_
        have G : zG D AA ss.heap [(ot, .inr (3, [.ref osh, .ref ork, .int (iI (t 0)), .int (iI (t 1)), .int (iI (t 2)), .int (iI (t 3)), .int (iI (t 4)), .int (iI (t 5)), .int (iI (t 6))])), (osh, .inl (k4 0, 6, .inl (fun i9 => iI ((cp (fun i => t2 (7 + i)) (fun i => t (7 + i)) (j + 1)) i9)))), (ork, .inl (k4 0, 6, .inl (fun i9 => iI ((up (cp (fun i => t2 (13 + i)) (fun i => t (13 + i)) j) j (t2 (13 + j))) i9)))), (pt, .inr (3, [.ref psh, .ref prk, .int (iI (t2 0)), .int (iI (t2 1)), .int (iI (t2 2)), .int (iI (t2 3)), .int (iI (t2 4)), .int (iI (t2 5)), .int (iI (t2 6))])), (psh, .inl (k4 0, 6, .inl (fun i9 => iI ((fun i => t2 (7 + i)) i9)))), (prk, .inl (k4 0, 6, .inl (fun i9 => iI ((fun i => t2 (13 + i)) i9))))] H locs := G
        rw [show up (cp (fun i => t2 (13 + i)) (fun i => t (13 + i)) j) j (t2 (13 + j)) = cp (fun i => t2 (13 + i)) (fun i => t (13 + i)) (j + 1) from cp_s (fun i => t2 (13 + i)) (fun i => t (13 + i)) j] at G
        refine z_iinc E [(2, .int (iI (((j : Nat) : Int) + 1))), (0, .ref ot), (1, .ref pt)] dX3_copy_40 hl (k := 2) rfl (by decide) rfl (fun ls hl => ?_)
        refine z_goto (tgt := 2) E dX3_copy_43 (by decide) ?_
        exact ih2_1 (j + 1) _ _ _ (by omega) (by omega) G (lv_sub hl [1, 2, 0] rfl)
  exact hp2_1 7 0 _ _ _ (by decide) (by decide) G (lv_sub hl [1, 2, 0] rfl)

def q_c_X2_amount (k4 : Nat → ClassId) (o ot og ou of : Nat) (cb ca : Int) (f : Nat → Int) (m w : Nat) : Option Value → va_W → Prop := (fun (v9 : Option Value) (w9 : va_W) => v9 = some (.int (iI (f (m * 8 + w)))) ∧ w9 = [(o, .inr (2, [.ref ot, .ref og, .ref ou, .ref of, .int (iI (cb)), .int (iI (ca))])), (of, .inl (k4 0, 48, .inl (fun i9 => iI (f i9))))])
set_option maxHeartbeats 4000000 in
set_option maxRecDepth 100000 in
theorem c_X2_amount (l : Launch) (D : va_G) (k4 : Nat → ClassId) (o ot og ou of : Nat) (cb ca : Int) (f : Nat → Int) (m w : Nat) (hm : m < 6) (hw : w < 8) : zC l yX2_amount (zW yX2_amount cX2_amount 3 (some .int)) ({ frames := 1, cells := 0, slots := 0, locals := 21 } : Room) D k4 [.ref o, .int (iI (((m : Nat) : Int))), .int (iI (((w : Nat) : Int)))] [(o, .inr (2, [.ref ot, .ref og, .ref ou, .ref of, .int (iI (cb)), .int (iI (ca))])), (of, .inl (k4 0, 48, .inl (fun i9 => iI (f i9))))] (0) (0) (q_c_X2_amount k4 o ot og ou of cb ca f m w) := by
  refine zC_of (cc := cX2_amount) (by decide) (Nat.le_of_ble_eq_true rfl) (fun pp ee ss mm bl me co AA H locs ls E hr hlocks hin G hl => ?_)
  have hl : lv_has ls 3 [(0, .ref o), (1, .int (iI (((m : Nat) : Int)))), (2, .int (iI (((w : Nat) : Int))))] := hl
  refine z_aload_n E hl 0 rfl dX2_amount_0 rfl ?_
  refine kg_X2_25 E G 0 rfl rfl dX2_amount_1 ?_
  refine z_iload_n E hl 1 rfl dX2_amount_4 rfl ?_
  refine z_bipush E dX2_amount_5 (by decide) ?_
  refine z_imul E dX2_amount_7 ?_
  refine z_iload_n E hl 2 rfl dX2_amount_8 rfl ?_
  refine z_iadd E dX2_amount_9 ?_
  refine z_eq (y := (((m * 8 + w : Nat)) : Int)) (by omega) ?_
  refine z_callSN E G hl.1 (c_X4_at l D k4 of 48 f (m * 8 + w) (by omega) (by decide)) kSN_X2_28 ⟨rfl, rfl, Nat.le_of_ble_eq_true rfl, Nat.le_of_ble_eq_true rfl⟩ [1] rfl (by decide) rfl rfl (Nat.le_of_ble_eq_true rfl) dX2_amount_10 ⟨by first | exact Nat.le_of_ble_eq_true rfl | omega, by first | exact Nat.le_of_ble_eq_true rfl | omega⟩ (fun v9 w9 H locs hq G => ?_)
  obtain ⟨rfl, rfl⟩ := hq
  refine W.eq (g2 := F0 mm 13 ls [.int (iI (f (m * 8 + w)))]) rfl ?_
  have G : zG D AA ss.heap [(o, .inr (2, [.ref ot, .ref og, .ref ou, .ref of, .int (iI (cb)), .int (iI (ca))])), (of, .inl (k4 0, 48, .inl (fun i9 => iI (f i9))))] H locs := G
  exact z_iret (w' := [(o, .inr (2, [.ref ot, .ref og, .ref ou, .ref of, .int (iI (cb)), .int (iI (ca))])), (of, .inl (k4 0, 48, .inl (fun i9 => iI (f i9))))]) (v := f (m * 8 + w)) E hr hlocks G dX2_amount_13 (by omega) (by omega) (zx0 rfl) ⟨rfl, rfl⟩

def q_c_X2_setAmount (k4 : Nat → ClassId) (o ot og ou of : Nat) (cb ca : Int) (f : Nat → Int) (m w : Nat) (x : Int) : Option Value → va_W → Prop := (fun (v9 : Option Value) (w9 : va_W) => v9 = none ∧ w9 = [(o, .inr (2, [.ref ot, .ref og, .ref ou, .ref of, .int (iI (cb)), .int (iI (ca))])), (of, .inl (k4 0, 48, .inl (fun i9 => iI ((up f (m * 8 + w) x) i9))))])
set_option maxHeartbeats 4000000 in
set_option maxRecDepth 100000 in
theorem c_X2_setAmount (l : Launch) (D : va_G) (k4 : Nat → ClassId) (o ot og ou of : Nat) (cb ca : Int) (f : Nat → Int) (m w : Nat) (x : Int) (hm : m < 6) (hw : w < 8) : zC l yX2_setAmount (zW yX2_setAmount cX2_setAmount 4 none) ({ frames := 1, cells := 0, slots := 0, locals := 22 } : Room) D k4 [.ref o, .int (iI (((m : Nat) : Int))), .int (iI (((w : Nat) : Int))), .int (iI (x))] [(o, .inr (2, [.ref ot, .ref og, .ref ou, .ref of, .int (iI (cb)), .int (iI (ca))])), (of, .inl (k4 0, 48, .inl (fun i9 => iI (f i9))))] (0) (0) (q_c_X2_setAmount k4 o ot og ou of cb ca f m w x) := by
  refine zC_of (cc := cX2_setAmount) (by decide) (Nat.le_of_ble_eq_true rfl) (fun pp ee ss mm bl me co AA H locs ls E hr hlocks hin G hl => ?_)
  have hl : lv_has ls 4 [(0, .ref o), (1, .int (iI (((m : Nat) : Int)))), (2, .int (iI (((w : Nat) : Int)))), (3, .int (iI (x)))] := hl
  refine z_aload_n E hl 0 rfl dX2_setAmount_0 rfl ?_
  refine kg_X2_25 E G 0 rfl rfl dX2_setAmount_1 ?_
  refine z_iload_n E hl 1 rfl dX2_setAmount_4 rfl ?_
  refine z_bipush E dX2_setAmount_5 (by decide) ?_
  refine z_imul E dX2_setAmount_7 ?_
  refine z_iload_n E hl 2 rfl dX2_setAmount_8 rfl ?_
  refine z_iadd E dX2_setAmount_9 ?_
  refine z_eq (y := (((m * 8 + w : Nat)) : Int)) (by omega) ?_
  refine z_iload_n E hl 3 rfl dX2_setAmount_10 rfl ?_
  refine z_callSN E G hl.1 (c_X4_put l D k4 of 48 f (m * 8 + w) x (by omega) (by decide)) kSN_X2_32 ⟨rfl, rfl, Nat.le_of_ble_eq_true rfl, Nat.le_of_ble_eq_true rfl⟩ [1] rfl (by decide) rfl rfl (Nat.le_of_ble_eq_true rfl) dX2_setAmount_11 ⟨by first | exact Nat.le_of_ble_eq_true rfl | omega, by first | exact Nat.le_of_ble_eq_true rfl | omega⟩ (fun v9 w9 H locs hq G => ?_)
  obtain ⟨rfl, rfl⟩ := hq
  refine W.eq (g2 := F0 mm 14 ls []) rfl ?_
  have G : zG D AA ss.heap [(o, .inr (2, [.ref ot, .ref og, .ref ou, .ref of, .int (iI (cb)), .int (iI (ca))])), (of, .inl (k4 0, 48, .inl (fun i9 => iI ((up f (m * 8 + w) x) i9))))] H locs := G
  exact z_vret (w' := [(o, .inr (2, [.ref ot, .ref og, .ref ou, .ref of, .int (iI (cb)), .int (iI (ca))])), (of, .inl (k4 0, 48, .inl (fun i9 => iI ((up f (m * 8 + w) x) i9))))]) E hr hlocks G dX2_setAmount_14 (by omega) (by omega) (zx0 rfl) ⟨rfl, rfl⟩

def q_c_X2_setReading (k4 : Nat → ClassId) (o ot og ou of : Nat) (cb ca : Int) (g u : Nat → Int) (m : Nat) (x y : Int) : Option Value → va_W → Prop := (fun (v9 : Option Value) (w9 : va_W) => v9 = some (.int (iI (if g m ≠ x ∨ u m ≠ y then 1 else 0))) ∧ w9 = [(o, .inr (2, [.ref ot, .ref og, .ref ou, .ref of, .int (iI (cb)), .int (iI (ca))])), (og, .inl (k4 0, 6, .inl (fun i9 => iI ((up g m x) i9)))), (ou, .inl (k4 0, 6, .inl (fun i9 => iI ((up u m y) i9))))])
set_option maxHeartbeats 4000000 in
set_option maxRecDepth 100000 in
theorem c_X2_setReading (l : Launch) (D : va_G) (k4 : Nat → ClassId) (o ot og ou of : Nat) (cb ca : Int) (g u : Nat → Int) (m : Nat) (x y : Int) (hg : rdOK g) (hu : rdOK u) (hm : m < 6) (hx : 0 ≤ x ∧ x ≤ 5000) (hy : 0 ≤ y ∧ y ≤ 5000) : zC l yX2_setReading (zW yX2_setReading cX2_setReading 5 (some .boolean)) ({ frames := 1, cells := 0, slots := 0, locals := 22 } : Room) D k4 [.ref o, .int (iI (((m : Nat) : Int))), .int (iI (x)), .int (iI (y))] [(o, .inr (2, [.ref ot, .ref og, .ref ou, .ref of, .int (iI (cb)), .int (iI (ca))])), (og, .inl (k4 0, 6, .inl (fun i9 => iI (g i9)))), (ou, .inl (k4 0, 6, .inl (fun i9 => iI (u i9))))] (0) (0) (q_c_X2_setReading k4 o ot og ou of cb ca g u m x y) := by
  refine zC_of (cc := cX2_setReading) (by decide) (Nat.le_of_ble_eq_true rfl) (fun pp ee ss mm bl me co AA H locs ls E hr hlocks hin G hl => ?_)
  have hl : lv_has ls 5 [(0, .ref o), (1, .int (iI (((m : Nat) : Int)))), (2, .int (iI (x))), (3, .int (iI (y)))] := hl
  have b1 := hg m hm
  have b2 := hu m hm
  refine z_aload_n E hl 0 rfl dX2_setReading_0 rfl ?_
  refine kg_X2_18 E G 0 rfl rfl dX2_setReading_1 ?_
  refine z_iload_n E hl 1 rfl dX2_setReading_4 rfl ?_
  refine z_callSN E G hl.1 (c_X4_at l D k4 og 6 g m (by omega) (by decide)) kSN_X2_28 ⟨rfl, rfl, Nat.le_of_ble_eq_true rfl, Nat.le_of_ble_eq_true rfl⟩ [1] rfl (by decide) rfl rfl (Nat.le_of_ble_eq_true rfl) dX2_setReading_5 ⟨by first | exact Nat.le_of_ble_eq_true rfl | omega, by first | exact Nat.le_of_ble_eq_true rfl | omega⟩ (fun v9 w9 H locs hq G => ?_)
  obtain ⟨rfl, rfl⟩ := hq
  refine W.eq (g2 := F0 mm 8 ls [.int (iI (g m))]) rfl ?_
  have G : zG D AA ss.heap [(o, .inr (2, [.ref ot, .ref og, .ref ou, .ref of, .int (iI (cb)), .int (iI (ca))])), (og, .inl (k4 0, 6, .inl (fun i9 => iI (g i9)))), (ou, .inl (k4 0, 6, .inl (fun i9 => iI (u i9))))] H locs := G
  refine z_iload_n E hl 2 rfl dX2_setReading_8 rfl ?_
  refine z_icmp_ne (tgt := 24) E dX2_setReading_9 (by decide) ⟨by omega, by omega⟩ ⟨by omega, by omega⟩ (fun c_9 => ?_) (fun c_9 => ?_)
  · skip
    refine z_iconst E dX2_setReading_24 ?_
    refine z_goto (tgt := 29) E dX2_setReading_25 (by decide) ?_
    refine z_istore E [(4, .int (iI (1))), (0, .ref o), (1, .int (iI (((m : Nat) : Int)))), (2, .int (iI (x))), (3, .int (iI (y)))] dX2_setReading_29 hl (by decide) rfl (fun ls hl => ?_)
    refine z_aload_n E hl 1 rfl dX2_setReading_31 rfl ?_
    refine kg_X2_18 E G 0 rfl rfl dX2_setReading_32 ?_
    refine z_iload_n E hl 2 rfl dX2_setReading_35 rfl ?_
    refine z_iload_n E hl 3 rfl dX2_setReading_36 rfl ?_
    refine z_callSN E G hl.1 (c_X4_put l D k4 og 6 g m x (by omega) (by decide)) kSN_X2_32 ⟨rfl, rfl, Nat.le_of_ble_eq_true rfl, Nat.le_of_ble_eq_true rfl⟩ [1] rfl (by decide) rfl rfl (Nat.le_of_ble_eq_true rfl) dX2_setReading_37 ⟨by first | exact Nat.le_of_ble_eq_true rfl | omega, by first | exact Nat.le_of_ble_eq_true rfl | omega⟩ (fun v9 w9 H locs hq G => ?_)
    obtain ⟨rfl, rfl⟩ := hq
    refine W.eq (g2 := F0 mm 40 ls []) rfl ?_
    have G : zG D AA ss.heap [(o, .inr (2, [.ref ot, .ref og, .ref ou, .ref of, .int (iI (cb)), .int (iI (ca))])), (og, .inl (k4 0, 6, .inl (fun i9 => iI ((up g m x) i9)))), (ou, .inl (k4 0, 6, .inl (fun i9 => iI (u i9))))] H locs := G
    refine z_aload_n E hl 1 rfl dX2_setReading_40 rfl ?_
    refine kg_X2_22 E G 0 rfl rfl dX2_setReading_41 ?_
    refine z_iload_n E hl 2 rfl dX2_setReading_44 rfl ?_
    refine z_iload_n E hl 4 rfl dX2_setReading_45 rfl ?_
    refine z_callSN E G hl.1 (c_X4_put l D k4 ou 6 u m y (by omega) (by decide)) kSN_X2_32 ⟨rfl, rfl, Nat.le_of_ble_eq_true rfl, Nat.le_of_ble_eq_true rfl⟩ [2] rfl (by decide) rfl rfl (Nat.le_of_ble_eq_true rfl) dX2_setReading_46 ⟨by first | exact Nat.le_of_ble_eq_true rfl | omega, by first | exact Nat.le_of_ble_eq_true rfl | omega⟩ (fun v9 w9 H locs hq G => ?_)
    obtain ⟨rfl, rfl⟩ := hq
    refine W.eq (g2 := F0 mm 49 ls []) rfl ?_
    have G : zG D AA ss.heap [(o, .inr (2, [.ref ot, .ref og, .ref ou, .ref of, .int (iI (cb)), .int (iI (ca))])), (og, .inl (k4 0, 6, .inl (fun i9 => iI ((up g m x) i9)))), (ou, .inl (k4 0, 6, .inl (fun i9 => iI ((up u m y) i9))))] H locs := G
    refine z_iload E hl 0 rfl dX2_setReading_49 ?_
    refine z_eq (y := (if g m ≠ x ∨ u m ≠ y then (1 : Int) else 0)) (if_pos (Or.inl c_9)).symm ?_
    exact z_zret (w' := [(o, .inr (2, [.ref ot, .ref og, .ref ou, .ref of, .int (iI (cb)), .int (iI (ca))])), (og, .inl (k4 0, 6, .inl (fun i9 => iI ((up g m x) i9)))), (ou, .inl (k4 0, 6, .inl (fun i9 => iI ((up u m y) i9))))]) (v := (if g m ≠ x ∨ u m ≠ y then (1 : Int) else 0)) E hr hlocks G dX2_setReading_51 (by omega) (by omega) (by split <;> simp) (zx0 rfl) ⟨rfl, rfl⟩
  · skip
    refine z_aload_n E hl 0 rfl dX2_setReading_12 rfl ?_
    refine kg_X2_22 E G 0 rfl rfl dX2_setReading_13 ?_
    refine z_iload_n E hl 1 rfl dX2_setReading_16 rfl ?_
    refine z_callSN E G hl.1 (c_X4_at l D k4 ou 6 u m (by omega) (by decide)) kSN_X2_28 ⟨rfl, rfl, Nat.le_of_ble_eq_true rfl, Nat.le_of_ble_eq_true rfl⟩ [2] rfl (by decide) rfl rfl (Nat.le_of_ble_eq_true rfl) dX2_setReading_17 ⟨by first | exact Nat.le_of_ble_eq_true rfl | omega, by first | exact Nat.le_of_ble_eq_true rfl | omega⟩ (fun v9 w9 H locs hq G => ?_)
    obtain ⟨rfl, rfl⟩ := hq
    refine W.eq (g2 := F0 mm 20 ls [.int (iI (u m))]) rfl ?_
    have G : zG D AA ss.heap [(o, .inr (2, [.ref ot, .ref og, .ref ou, .ref of, .int (iI (cb)), .int (iI (ca))])), (og, .inl (k4 0, 6, .inl (fun i9 => iI (g i9)))), (ou, .inl (k4 0, 6, .inl (fun i9 => iI (u i9))))] H locs := G
    refine z_iload_n E hl 3 rfl dX2_setReading_20 rfl ?_
    refine z_icmp_eq (tgt := 28) E dX2_setReading_21 (by decide) ⟨by omega, by omega⟩ ⟨by omega, by omega⟩ (fun c_21 => ?_) (fun c_21 => ?_)
    · skip
      refine z_iconst E dX2_setReading_28 ?_
      refine z_istore E [(4, .int (iI (0))), (0, .ref o), (1, .int (iI (((m : Nat) : Int)))), (2, .int (iI (x))), (3, .int (iI (y)))] dX2_setReading_29 hl (by decide) rfl (fun ls hl => ?_)
      refine z_aload_n E hl 1 rfl dX2_setReading_31 rfl ?_
      refine kg_X2_18 E G 0 rfl rfl dX2_setReading_32 ?_
      refine z_iload_n E hl 2 rfl dX2_setReading_35 rfl ?_
      refine z_iload_n E hl 3 rfl dX2_setReading_36 rfl ?_
      refine z_callSN E G hl.1 (c_X4_put l D k4 og 6 g m x (by omega) (by decide)) kSN_X2_32 ⟨rfl, rfl, Nat.le_of_ble_eq_true rfl, Nat.le_of_ble_eq_true rfl⟩ [1] rfl (by decide) rfl rfl (Nat.le_of_ble_eq_true rfl) dX2_setReading_37 ⟨by first | exact Nat.le_of_ble_eq_true rfl | omega, by first | exact Nat.le_of_ble_eq_true rfl | omega⟩ (fun v9 w9 H locs hq G => ?_)
      obtain ⟨rfl, rfl⟩ := hq
      refine W.eq (g2 := F0 mm 40 ls []) rfl ?_
      have G : zG D AA ss.heap [(o, .inr (2, [.ref ot, .ref og, .ref ou, .ref of, .int (iI (cb)), .int (iI (ca))])), (og, .inl (k4 0, 6, .inl (fun i9 => iI ((up g m x) i9)))), (ou, .inl (k4 0, 6, .inl (fun i9 => iI (u i9))))] H locs := G
      refine z_aload_n E hl 1 rfl dX2_setReading_40 rfl ?_
      refine kg_X2_22 E G 0 rfl rfl dX2_setReading_41 ?_
      refine z_iload_n E hl 2 rfl dX2_setReading_44 rfl ?_
      refine z_iload_n E hl 4 rfl dX2_setReading_45 rfl ?_
      refine z_callSN E G hl.1 (c_X4_put l D k4 ou 6 u m y (by omega) (by decide)) kSN_X2_32 ⟨rfl, rfl, Nat.le_of_ble_eq_true rfl, Nat.le_of_ble_eq_true rfl⟩ [2] rfl (by decide) rfl rfl (Nat.le_of_ble_eq_true rfl) dX2_setReading_46 ⟨by first | exact Nat.le_of_ble_eq_true rfl | omega, by first | exact Nat.le_of_ble_eq_true rfl | omega⟩ (fun v9 w9 H locs hq G => ?_)
      obtain ⟨rfl, rfl⟩ := hq
      refine W.eq (g2 := F0 mm 49 ls []) rfl ?_
      have G : zG D AA ss.heap [(o, .inr (2, [.ref ot, .ref og, .ref ou, .ref of, .int (iI (cb)), .int (iI (ca))])), (og, .inl (k4 0, 6, .inl (fun i9 => iI ((up g m x) i9)))), (ou, .inl (k4 0, 6, .inl (fun i9 => iI ((up u m y) i9))))] H locs := G
      refine z_iload E hl 0 rfl dX2_setReading_49 ?_
      refine z_eq (y := (if g m ≠ x ∨ u m ≠ y then (1 : Int) else 0)) (if_neg (fun z => z.elim (fun z => z c_9) (fun z => z c_21))).symm ?_
      exact z_zret (w' := [(o, .inr (2, [.ref ot, .ref og, .ref ou, .ref of, .int (iI (cb)), .int (iI (ca))])), (og, .inl (k4 0, 6, .inl (fun i9 => iI ((up g m x) i9)))), (ou, .inl (k4 0, 6, .inl (fun i9 => iI ((up u m y) i9))))]) (v := (if g m ≠ x ∨ u m ≠ y then (1 : Int) else 0)) E hr hlocks G dX2_setReading_51 (by omega) (by omega) (by split <;> simp) (zx0 rfl) ⟨rfl, rfl⟩
    · skip
      refine z_iconst E dX2_setReading_24 ?_
      refine z_goto (tgt := 29) E dX2_setReading_25 (by decide) ?_
      refine z_istore E [(4, .int (iI (1))), (0, .ref o), (1, .int (iI (((m : Nat) : Int)))), (2, .int (iI (x))), (3, .int (iI (y)))] dX2_setReading_29 hl (by decide) rfl (fun ls hl => ?_)
      refine z_aload_n E hl 1 rfl dX2_setReading_31 rfl ?_
      refine kg_X2_18 E G 0 rfl rfl dX2_setReading_32 ?_
      refine z_iload_n E hl 2 rfl dX2_setReading_35 rfl ?_
      refine z_iload_n E hl 3 rfl dX2_setReading_36 rfl ?_
      refine z_callSN E G hl.1 (c_X4_put l D k4 og 6 g m x (by omega) (by decide)) kSN_X2_32 ⟨rfl, rfl, Nat.le_of_ble_eq_true rfl, Nat.le_of_ble_eq_true rfl⟩ [1] rfl (by decide) rfl rfl (Nat.le_of_ble_eq_true rfl) dX2_setReading_37 ⟨by first | exact Nat.le_of_ble_eq_true rfl | omega, by first | exact Nat.le_of_ble_eq_true rfl | omega⟩ (fun v9 w9 H locs hq G => ?_)
      obtain ⟨rfl, rfl⟩ := hq
      refine W.eq (g2 := F0 mm 40 ls []) rfl ?_
      have G : zG D AA ss.heap [(o, .inr (2, [.ref ot, .ref og, .ref ou, .ref of, .int (iI (cb)), .int (iI (ca))])), (og, .inl (k4 0, 6, .inl (fun i9 => iI ((up g m x) i9)))), (ou, .inl (k4 0, 6, .inl (fun i9 => iI (u i9))))] H locs := G
      refine z_aload_n E hl 1 rfl dX2_setReading_40 rfl ?_
      refine kg_X2_22 E G 0 rfl rfl dX2_setReading_41 ?_
      refine z_iload_n E hl 2 rfl dX2_setReading_44 rfl ?_
      refine z_iload_n E hl 4 rfl dX2_setReading_45 rfl ?_
      refine z_callSN E G hl.1 (c_X4_put l D k4 ou 6 u m y (by omega) (by decide)) kSN_X2_32 ⟨rfl, rfl, Nat.le_of_ble_eq_true rfl, Nat.le_of_ble_eq_true rfl⟩ [2] rfl (by decide) rfl rfl (Nat.le_of_ble_eq_true rfl) dX2_setReading_46 ⟨by first | exact Nat.le_of_ble_eq_true rfl | omega, by first | exact Nat.le_of_ble_eq_true rfl | omega⟩ (fun v9 w9 H locs hq G => ?_)
      obtain ⟨rfl, rfl⟩ := hq
      refine W.eq (g2 := F0 mm 49 ls []) rfl ?_
      have G : zG D AA ss.heap [(o, .inr (2, [.ref ot, .ref og, .ref ou, .ref of, .int (iI (cb)), .int (iI (ca))])), (og, .inl (k4 0, 6, .inl (fun i9 => iI ((up g m x) i9)))), (ou, .inl (k4 0, 6, .inl (fun i9 => iI ((up u m y) i9))))] H locs := G
      refine z_iload E hl 0 rfl dX2_setReading_49 ?_
      refine z_eq (y := (if g m ≠ x ∨ u m ≠ y then (1 : Int) else 0)) (if_pos (Or.inr c_21)).symm ?_
      exact z_zret (w' := [(o, .inr (2, [.ref ot, .ref og, .ref ou, .ref of, .int (iI (cb)), .int (iI (ca))])), (og, .inl (k4 0, 6, .inl (fun i9 => iI ((up g m x) i9)))), (ou, .inl (k4 0, 6, .inl (fun i9 => iI ((up u m y) i9))))]) (v := (if g m ≠ x ∨ u m ≠ y then (1 : Int) else 0)) E hr hlocks G dX2_setReading_51 (by omega) (by omega) (by split <;> simp) (zx0 rfl) ⟨rfl, rfl⟩

def q_c_X2_sum (k4 : Nat → ClassId) (o ot og ou of : Nat) (cb ca : Int) (f : Nat → Int) (w : Nat) : Option Value → va_W → Prop := (fun (v9 : Option Value) (w9 : va_W) => v9 = some (.int (iI (sumN (fun m => f (m * 8 + w)) 6))) ∧ w9 = [(o, .inr (2, [.ref ot, .ref og, .ref ou, .ref of, .int (iI (cb)), .int (iI (ca))])), (of, .inl (k4 0, 48, .inl (fun i9 => iI (f i9))))])
set_option maxHeartbeats 4000000 in
set_option maxRecDepth 100000 in
theorem c_X2_sum (l : Launch) (D : va_G) (k4 : Nat → ClassId) (o ot og ou of : Nat) (cb ca : Int) (f : Nat → Int) (w : Nat) (hw : w < 8) : zC l yX2_sum (zW yX2_sum cX2_sum 4 (some .int)) ({ frames := 2, cells := 0, slots := 0, locals := 43 } : Room) D k4 [.ref o, .int (iI (((w : Nat) : Int)))] [(o, .inr (2, [.ref ot, .ref og, .ref ou, .ref of, .int (iI (cb)), .int (iI (ca))])), (of, .inl (k4 0, 48, .inl (fun i9 => iI (f i9))))] (0) (0) (q_c_X2_sum k4 o ot og ou of cb ca f w) := by
  refine zC_of (cc := cX2_sum) (by decide) (Nat.le_of_ble_eq_true rfl) (fun pp ee ss mm bl me co AA H locs ls E hr hlocks hin G hl => ?_)
  have hl : lv_has ls 4 [(0, .ref o), (1, .int (iI (((w : Nat) : Int))))] := hl
  refine z_iconst E dX2_sum_0 ?_
  refine z_istore_n E [(2, .int (iI (0))), (0, .ref o), (1, .int (iI (((w : Nat) : Int))))] dX2_sum_1 rfl hl (by decide) rfl (fun ls hl => ?_)
  refine z_iconst E dX2_sum_2 ?_
  refine z_istore_n E [(3, .int (iI (0))), (2, .int (iI (0))), (0, .ref o), (1, .int (iI (((w : Nat) : Int))))] dX2_sum_3 rfl hl (by decide) rfl (fun ls hl => ?_)
  have hp4_1 : ∀ (n9 : Nat) (j : Nat) (H : Heap) (locs : List Loc) (ls : Array Slot), (6 - j < n9) → (j ≤ 6) → zG D AA ss.heap [(o, .inr (2, [.ref ot, .ref og, .ref ou, .ref of, .int (iI (cb)), .int (iI (ca))])), (of, .inl (k4 0, 48, .inl (fun i9 => iI (f i9))))] H locs → lv_has ls 4 [(0, .ref o), (1, .int (iI (((w : Nat) : Int)))), (2, .int (iI (sumN (fun m => f (m * 8 + w)) j))), (3, .int (iI (((j : Nat) : Int))))] → W pp l ee ({ frames := 2, cells := 0, slots := 0, locals := 43 } : Room) ss mm ([.ref o, .int (iI (((w : Nat) : Int)))] : List Value).toArray bl me co H locs (0) (0) (MQ bl (zQ D [(o, .inr (2, [.ref ot, .ref og, .ref ou, .ref of, .int (iI (cb)), .int (iI (ca))])), (of, .inl (k4 0, 48, .inl (fun i9 => iI (f i9))))] AA (q_c_X2_sum k4 o ot og ou of cb ca f w)) ([.ref o, .int (iI (((w : Nat) : Int)))] : List Value).toArray ss (0) (0) AA) (F0 mm 4 ls []) := by
    intro n9
    induction n9 with
    | zero => intro j H locs ls hn9 hj G hl; exact absurd hn9 (by omega)
    | succ n9 ih =>
      intro j H locs ls hn9 hj G hl
      have ih4_1 := @ih
      refine z_iload_n E hl 3 rfl dX2_sum_4 rfl ?_
      refine z_bipush E dX2_sum_5 (by decide) ?_
      refine z_icmp_ge (tgt := 25) E dX2_sum_7 (by decide) ⟨by omega, by omega⟩ (by decide) (fun c_7 => ?_) (fun c_7 => ?_)
      · skip
        obtain rfl : j = 6 := by omega
        refine z_iload_n E hl 2 rfl dX2_sum_25 rfl ?_
        exact z_iret (w' := [(o, .inr (2, [.ref ot, .ref og, .ref ou, .ref of, .int (iI (cb)), .int (iI (ca))])), (of, .inl (k4 0, 48, .inl (fun i9 => iI (f i9))))]) (v := sumN (fun m => f (m * 8 + w)) 6) E hr hlocks G dX2_sum_26 (by omega) (by omega) (zx0 rfl) ⟨rfl, rfl⟩
      · skip
        refine z_iload_n E hl 2 rfl dX2_sum_10 rfl ?_
        refine z_aload_n E hl 0 rfl dX2_sum_11 rfl ?_
        refine z_iload_n E hl 3 rfl dX2_sum_12 rfl ?_
        refine z_iload_n E hl 1 rfl dX2_sum_13 rfl ?_
        refine z_callV E G hl.1 (c_X2_amount l D k4 o ot og ou of cb ca f j w (by omega) hw) kV_X2_40 ⟨rfl, rfl, Nat.le_of_ble_eq_true rfl, Nat.le_of_ble_eq_true rfl⟩ [0, 1] rfl (by decide) 0 2 rfl rfl rfl rfl rfl (Nat.le_of_ble_eq_true rfl) dX2_sum_14 ⟨by first | exact Nat.le_of_ble_eq_true rfl | omega, by first | exact Nat.le_of_ble_eq_true rfl | omega⟩ (fun v9 w9 H locs hq G => ?_)
        obtain ⟨rfl, rfl⟩ := hq
        refine W.eq (g2 := F0 mm 17 ls [.int (iI (f (j * 8 + w))), .int (iI (sumN (fun m => f (m * 8 + w)) j))]) rfl ?_
        have G : zG D AA ss.heap [(o, .inr (2, [.ref ot, .ref og, .ref ou, .ref of, .int (iI (cb)), .int (iI (ca))])), (of, .inl (k4 0, 48, .inl (fun i9 => iI (f i9))))] H locs := G
        refine z_iadd E dX2_sum_17 ?_
        refine z_istore_n E [(2, .int (iI ((sumN (fun m => f (m * 8 + w)) j) + (f (j * 8 + w))))), (0, .ref o), (1, .int (iI (((w : Nat) : Int)))), (3, .int (iI (((j : Nat) : Int))))] dX2_sum_18 rfl hl (by decide) rfl (fun ls hl => ?_)
        refine z_iinc E [(3, .int (iI (((j : Nat) : Int) + 1))), (2, .int (iI ((sumN (fun m => f (m * 8 + w)) j) + (f (j * 8 + w))))), (0, .ref o), (1, .int (iI (((w : Nat) : Int))))] dX2_sum_19 hl (k := 3) rfl (by decide) rfl (fun ls hl => ?_)
        refine z_goto (tgt := 4) E dX2_sum_22 (by decide) ?_
        exact ih4_1 (j + 1) _ _ _ (by omega) (by omega) G (lv_sub hl [2, 3, 1, 0] rfl)
  exact hp4_1 7 0 _ _ _ (by decide) (by decide) G (lv_sub hl [2, 3, 1, 0] rfl)

def q_c_X2_sumUsed (k4 : Nat → ClassId) (o ot og ou of : Nat) (cb ca : Int) (u : Nat → Int) : Option Value → va_W → Prop := (fun (v9 : Option Value) (w9 : va_W) => v9 = some (.int (iI (sumN u 6))) ∧ w9 = [(o, .inr (2, [.ref ot, .ref og, .ref ou, .ref of, .int (iI (cb)), .int (iI (ca))])), (ou, .inl (k4 0, 6, .inl (fun i9 => iI (u i9))))])
set_option maxHeartbeats 4000000 in
set_option maxRecDepth 100000 in
theorem c_X2_sumUsed (l : Launch) (D : va_G) (k4 : Nat → ClassId) (o ot og ou of : Nat) (cb ca : Int) (u : Nat → Int)  : zC l yX2_sumUsed (zW yX2_sumUsed cX2_sumUsed 3 (some .int)) ({ frames := 1, cells := 0, slots := 0, locals := 21 } : Room) D k4 [.ref o] [(o, .inr (2, [.ref ot, .ref og, .ref ou, .ref of, .int (iI (cb)), .int (iI (ca))])), (ou, .inl (k4 0, 6, .inl (fun i9 => iI (u i9))))] (0) (0) (q_c_X2_sumUsed k4 o ot og ou of cb ca u) := by
  refine zC_of (cc := cX2_sumUsed) (by decide) (Nat.le_of_ble_eq_true rfl) (fun pp ee ss mm bl me co AA H locs ls E hr hlocks hin G hl => ?_)
  have hl : lv_has ls 3 [(0, .ref o)] := hl
  refine z_iconst E dX2_sumUsed_0 ?_
  refine z_istore_n E [(1, .int (iI (0))), (0, .ref o)] dX2_sumUsed_1 rfl hl (by decide) rfl (fun ls hl => ?_)
  refine z_iconst E dX2_sumUsed_2 ?_
  refine z_istore_n E [(2, .int (iI (0))), (1, .int (iI (0))), (0, .ref o)] dX2_sumUsed_3 rfl hl (by decide) rfl (fun ls hl => ?_)
  have hp4_1 : ∀ (n9 : Nat) (j : Nat) (H : Heap) (locs : List Loc) (ls : Array Slot), (6 - j < n9) → (j ≤ 6) → zG D AA ss.heap [(o, .inr (2, [.ref ot, .ref og, .ref ou, .ref of, .int (iI (cb)), .int (iI (ca))])), (ou, .inl (k4 0, 6, .inl (fun i9 => iI (u i9))))] H locs → lv_has ls 3 [(0, .ref o), (1, .int (iI (sumN u j))), (2, .int (iI (((j : Nat) : Int))))] → W pp l ee ({ frames := 1, cells := 0, slots := 0, locals := 21 } : Room) ss mm ([.ref o] : List Value).toArray bl me co H locs (0) (0) (MQ bl (zQ D [(o, .inr (2, [.ref ot, .ref og, .ref ou, .ref of, .int (iI (cb)), .int (iI (ca))])), (ou, .inl (k4 0, 6, .inl (fun i9 => iI (u i9))))] AA (q_c_X2_sumUsed k4 o ot og ou of cb ca u)) ([.ref o] : List Value).toArray ss (0) (0) AA) (F0 mm 4 ls []) := by
    intro n9
    induction n9 with
    | zero => intro j H locs ls hn9 hj G hl; exact absurd hn9 (by omega)
    | succ n9 ih =>
      intro j H locs ls hn9 hj G hl
      have ih4_1 := @ih
      refine z_iload_n E hl 2 rfl dX2_sumUsed_4 rfl ?_
      refine z_bipush E dX2_sumUsed_5 (by decide) ?_
      refine z_icmp_ge (tgt := 27) E dX2_sumUsed_7 (by decide) ⟨by omega, by omega⟩ (by decide) (fun c_7 => ?_) (fun c_7 => ?_)
      · skip
        obtain rfl : j = 6 := by omega
        refine z_iload_n E hl 1 rfl dX2_sumUsed_27 rfl ?_
        exact z_iret (w' := [(o, .inr (2, [.ref ot, .ref og, .ref ou, .ref of, .int (iI (cb)), .int (iI (ca))])), (ou, .inl (k4 0, 6, .inl (fun i9 => iI (u i9))))]) (v := sumN u 6) E hr hlocks G dX2_sumUsed_28 (by omega) (by omega) (zx0 rfl) ⟨rfl, rfl⟩
      · skip
        refine z_iload_n E hl 1 rfl dX2_sumUsed_10 rfl ?_
        refine z_aload_n E hl 0 rfl dX2_sumUsed_11 rfl ?_
        refine kg_X2_22 E G 0 rfl rfl dX2_sumUsed_12 ?_
        refine z_iload_n E hl 2 rfl dX2_sumUsed_15 rfl ?_
        refine z_callSN E G hl.1 (c_X4_at l D k4 ou 6 u j (by omega) (by decide)) kSN_X2_28 ⟨rfl, rfl, Nat.le_of_ble_eq_true rfl, Nat.le_of_ble_eq_true rfl⟩ [1] rfl (by decide) rfl rfl (Nat.le_of_ble_eq_true rfl) dX2_sumUsed_16 ⟨by first | exact Nat.le_of_ble_eq_true rfl | omega, by first | exact Nat.le_of_ble_eq_true rfl | omega⟩ (fun v9 w9 H locs hq G => ?_)
        obtain ⟨rfl, rfl⟩ := hq
        refine W.eq (g2 := F0 mm 19 ls [.int (iI (u j)), .int (iI (sumN u j))]) rfl ?_
        have G : zG D AA ss.heap [(o, .inr (2, [.ref ot, .ref og, .ref ou, .ref of, .int (iI (cb)), .int (iI (ca))])), (ou, .inl (k4 0, 6, .inl (fun i9 => iI (u i9))))] H locs := G
        refine z_iadd E dX2_sumUsed_19 ?_
        refine z_istore_n E [(1, .int (iI ((sumN u j) + (u j)))), (0, .ref o), (2, .int (iI (((j : Nat) : Int))))] dX2_sumUsed_20 rfl hl (by decide) rfl (fun ls hl => ?_)
        refine z_iinc E [(2, .int (iI (((j : Nat) : Int) + 1))), (1, .int (iI ((sumN u j) + (u j)))), (0, .ref o)] dX2_sumUsed_21 hl (k := 2) rfl (by decide) rfl (fun ls hl => ?_)
        refine z_goto (tgt := 4) E dX2_sumUsed_24 (by decide) ?_
        exact ih4_1 (j + 1) _ _ _ (by omega) (by omega) G (lv_sub hl [2, 1, 0] rfl)
  exact hp4_1 7 0 _ _ _ (by decide) (by decide) G (lv_sub hl [2, 1, 0] rfl)

def q_c_X2_moneyOf (k4 : Nat → ClassId) (o ot og ou of osh ork : Nat) (cb ca : Int) (t f : Nat → Int) (m : Nat) : Option Value → va_W → Prop := (fun (v9 : Option Value) (w9 : va_W) => v9 = some (.int (iI (mon t f m))) ∧ w9 = [(o, .inr (2, [.ref ot, .ref og, .ref ou, .ref of, .int (iI (cb)), .int (iI (ca))])), (ot, .inr (3, [.ref osh, .ref ork, .int (iI (t 0)), .int (iI (t 1)), .int (iI (t 2)), .int (iI (t 3)), .int (iI (t 4)), .int (iI (t 5)), .int (iI (t 6))])), (of, .inl (k4 0, 48, .inl (fun i9 => iI (f i9))))])
set_option maxHeartbeats 4000000 in
set_option maxRecDepth 100000 in
theorem c_X2_moneyOf (l : Launch) (D : va_G) (k4 : Nat → ClassId) (o ot og ou of osh ork : Nat) (cb ca : Int) (t f : Nat → Int) (m : Nat) (hm : m < 6) : zC l yX2_moneyOf (zW yX2_moneyOf cX2_moneyOf 4 (some .int)) ({ frames := 2, cells := 0, slots := 0, locals := 43 } : Room) D k4 [.ref o, .int (iI (((m : Nat) : Int)))] [(o, .inr (2, [.ref ot, .ref og, .ref ou, .ref of, .int (iI (cb)), .int (iI (ca))])), (ot, .inr (3, [.ref osh, .ref ork, .int (iI (t 0)), .int (iI (t 1)), .int (iI (t 2)), .int (iI (t 3)), .int (iI (t 4)), .int (iI (t 5)), .int (iI (t 6))])), (of, .inl (k4 0, 48, .inl (fun i9 => iI (f i9))))] (0) (0) (q_c_X2_moneyOf k4 o ot og ou of osh ork cb ca t f m) := by
  refine zC_of (cc := cX2_moneyOf) (by decide) (Nat.le_of_ble_eq_true rfl) (fun pp ee ss mm bl me co AA H locs ls E hr hlocks hin G hl => ?_)
  have hl : lv_has ls 4 [(0, .ref o), (1, .int (iI (((m : Nat) : Int))))] := hl
  refine z_aload_n E hl 0 rfl dX2_moneyOf_0 rfl ?_
  refine z_iload_n E hl 1 rfl dX2_moneyOf_1 rfl ?_
  refine z_iconst E dX2_moneyOf_2 ?_
  refine z_callV E G hl.1 (c_X2_amount l D k4 o ot og ou of cb ca f m 4 hm (by decide)) kV_X2_40 ⟨rfl, rfl, Nat.le_of_ble_eq_true rfl, Nat.le_of_ble_eq_true rfl⟩ [0, 2] rfl (by decide) 0 2 rfl rfl rfl rfl rfl (Nat.le_of_ble_eq_true rfl) dX2_moneyOf_3 ⟨by first | exact Nat.le_of_ble_eq_true rfl | omega, by first | exact Nat.le_of_ble_eq_true rfl | omega⟩ (fun v9 w9 H locs hq G => ?_)
  obtain ⟨rfl, rfl⟩ := hq
  refine W.eq (g2 := F0 mm 6 ls [.int (iI (f (m * 8 + 4)))]) rfl ?_
  have G : zG D AA ss.heap [(o, .inr (2, [.ref ot, .ref og, .ref ou, .ref of, .int (iI (cb)), .int (iI (ca))])), (ot, .inr (3, [.ref osh, .ref ork, .int (iI (t 0)), .int (iI (t 1)), .int (iI (t 2)), .int (iI (t 3)), .int (iI (t 4)), .int (iI (t 5)), .int (iI (t 6))])), (of, .inl (k4 0, 48, .inl (fun i9 => iI (f i9))))] H locs := G
  refine z_aload_n E hl 0 rfl dX2_moneyOf_6 rfl ?_
  refine z_iload_n E hl 1 rfl dX2_moneyOf_7 rfl ?_
  refine z_iconst E dX2_moneyOf_8 ?_
  refine z_callV E G hl.1 (c_X2_amount l D k4 o ot og ou of cb ca f m 5 hm (by decide)) kV_X2_40 ⟨rfl, rfl, Nat.le_of_ble_eq_true rfl, Nat.le_of_ble_eq_true rfl⟩ [0, 2] rfl (by decide) 0 2 rfl rfl rfl rfl rfl (Nat.le_of_ble_eq_true rfl) dX2_moneyOf_9 ⟨by first | exact Nat.le_of_ble_eq_true rfl | omega, by first | exact Nat.le_of_ble_eq_true rfl | omega⟩ (fun v9 w9 H locs hq G => ?_)
  obtain ⟨rfl, rfl⟩ := hq
  refine W.eq (g2 := F0 mm 12 ls [.int (iI (f (m * 8 + 5))), .int (iI (f (m * 8 + 4)))]) rfl ?_
  have G : zG D AA ss.heap [(o, .inr (2, [.ref ot, .ref og, .ref ou, .ref of, .int (iI (cb)), .int (iI (ca))])), (ot, .inr (3, [.ref osh, .ref ork, .int (iI (t 0)), .int (iI (t 1)), .int (iI (t 2)), .int (iI (t 3)), .int (iI (t 4)), .int (iI (t 5)), .int (iI (t 6))])), (of, .inl (k4 0, 48, .inl (fun i9 => iI (f i9))))] H locs := G
  refine z_iadd E dX2_moneyOf_12 ?_
  refine z_istore_n E [(2, .int (iI ((f (m * 8 + 4)) + (f (m * 8 + 5))))), (0, .ref o), (1, .int (iI (((m : Nat) : Int))))] dX2_moneyOf_13 rfl hl (by decide) rfl (fun ls hl => ?_)
  refine z_aload_n E hl 1 rfl dX2_moneyOf_14 rfl ?_
  refine z_iload_n E hl 2 rfl dX2_moneyOf_15 rfl ?_
  refine z_iconst E dX2_moneyOf_16 ?_
  refine z_callV E G hl.1 (c_X2_amount l D k4 o ot og ou of cb ca f m 1 hm (by decide)) kV_X2_40 ⟨rfl, rfl, Nat.le_of_ble_eq_true rfl, Nat.le_of_ble_eq_true rfl⟩ [0, 2] rfl (by decide) 0 2 rfl rfl rfl rfl rfl (Nat.le_of_ble_eq_true rfl) dX2_moneyOf_17 ⟨by first | exact Nat.le_of_ble_eq_true rfl | omega, by first | exact Nat.le_of_ble_eq_true rfl | omega⟩ (fun v9 w9 H locs hq G => ?_)
  obtain ⟨rfl, rfl⟩ := hq
  refine W.eq (g2 := F0 mm 20 ls [.int (iI (f (m * 8 + 1)))]) rfl ?_
  have G : zG D AA ss.heap [(o, .inr (2, [.ref ot, .ref og, .ref ou, .ref of, .int (iI (cb)), .int (iI (ca))])), (ot, .inr (3, [.ref osh, .ref ork, .int (iI (t 0)), .int (iI (t 1)), .int (iI (t 2)), .int (iI (t 3)), .int (iI (t 4)), .int (iI (t 5)), .int (iI (t 6))])), (of, .inl (k4 0, 48, .inl (fun i9 => iI (f i9))))] H locs := G
  refine z_aload_n E hl 1 rfl dX2_moneyOf_20 rfl ?_
  refine z_iload_n E hl 2 rfl dX2_moneyOf_21 rfl ?_
  refine z_iconst E dX2_moneyOf_22 ?_
  refine z_callV E G hl.1 (c_X2_amount l D k4 o ot og ou of cb ca f m 2 hm (by decide)) kV_X2_40 ⟨rfl, rfl, Nat.le_of_ble_eq_true rfl, Nat.le_of_ble_eq_true rfl⟩ [0, 2] rfl (by decide) 0 2 rfl rfl rfl rfl rfl (Nat.le_of_ble_eq_true rfl) dX2_moneyOf_23 ⟨by first | exact Nat.le_of_ble_eq_true rfl | omega, by first | exact Nat.le_of_ble_eq_true rfl | omega⟩ (fun v9 w9 H locs hq G => ?_)
  obtain ⟨rfl, rfl⟩ := hq
  refine W.eq (g2 := F0 mm 26 ls [.int (iI (f (m * 8 + 2))), .int (iI (f (m * 8 + 1)))]) rfl ?_
  have G : zG D AA ss.heap [(o, .inr (2, [.ref ot, .ref og, .ref ou, .ref of, .int (iI (cb)), .int (iI (ca))])), (ot, .inr (3, [.ref osh, .ref ork, .int (iI (t 0)), .int (iI (t 1)), .int (iI (t 2)), .int (iI (t 3)), .int (iI (t 4)), .int (iI (t 5)), .int (iI (t 6))])), (of, .inl (k4 0, 48, .inl (fun i9 => iI (f i9))))] H locs := G
  refine z_iadd E dX2_moneyOf_26 ?_
  refine z_istore_n E [(3, .int (iI ((f (m * 8 + 1)) + (f (m * 8 + 2))))), (2, .int (iI ((f (m * 8 + 4)) + (f (m * 8 + 5))))), (0, .ref o), (1, .int (iI (((m : Nat) : Int))))] dX2_moneyOf_27 rfl hl (by decide) rfl (fun ls hl => ?_)
  refine z_aload_n E hl 2 rfl dX2_moneyOf_28 rfl ?_
  refine kg_X2_12 E G 0 rfl rfl dX2_moneyOf_29 ?_
  refine kg_X2_44 E G 1 rfl rfl dX2_moneyOf_32 ?_
  refine z_iload_n E hl 1 rfl dX2_moneyOf_35 rfl ?_
  refine z_iload_n E hl 0 rfl dX2_moneyOf_36 rfl ?_
  refine z_isub E dX2_moneyOf_37 ?_
  refine z_imul E dX2_moneyOf_38 ?_
  refine z_aload_n E hl 2 rfl dX2_moneyOf_39 rfl ?_
  refine kg_X2_12 E G 0 rfl rfl dX2_moneyOf_40 ?_
  refine kg_X2_48 E G 1 rfl rfl dX2_moneyOf_43 ?_
  refine z_aload_n E hl 2 rfl dX2_moneyOf_46 rfl ?_
  refine z_iload_n E hl 3 rfl dX2_moneyOf_47 rfl ?_
  refine z_bipush E dX2_moneyOf_48 (by decide) ?_
  refine z_callV E G hl.1 (c_X2_amount l D k4 o ot og ou of cb ca f m 6 hm (by decide)) kV_X2_40 ⟨rfl, rfl, Nat.le_of_ble_eq_true rfl, Nat.le_of_ble_eq_true rfl⟩ [0, 2] rfl (by decide) 0 2 rfl rfl rfl rfl rfl (Nat.le_of_ble_eq_true rfl) dX2_moneyOf_50 ⟨by first | exact Nat.le_of_ble_eq_true rfl | omega, by first | exact Nat.le_of_ble_eq_true rfl | omega⟩ (fun v9 w9 H locs hq G => ?_)
  obtain ⟨rfl, rfl⟩ := hq
  refine W.eq (g2 := F0 mm 53 ls [.int (iI (f (m * 8 + 6))), .int (iI (t 2)), .int (iI ((t 3) * (((f (m * 8 + 4)) + (f (m * 8 + 5))) - ((f (m * 8 + 1)) + (f (m * 8 + 2))))))]) rfl ?_
  have G : zG D AA ss.heap [(o, .inr (2, [.ref ot, .ref og, .ref ou, .ref of, .int (iI (cb)), .int (iI (ca))])), (ot, .inr (3, [.ref osh, .ref ork, .int (iI (t 0)), .int (iI (t 1)), .int (iI (t 2)), .int (iI (t 3)), .int (iI (t 4)), .int (iI (t 5)), .int (iI (t 6))])), (of, .inl (k4 0, 48, .inl (fun i9 => iI (f i9))))] H locs := G
  refine z_imul E dX2_moneyOf_53 ?_
  refine z_iadd E dX2_moneyOf_54 ?_
  refine z_aload_n E hl 2 rfl dX2_moneyOf_55 rfl ?_
  refine kg_X2_12 E G 0 rfl rfl dX2_moneyOf_56 ?_
  refine kg_X2_51 E G 1 rfl rfl dX2_moneyOf_59 ?_
  refine z_aload_n E hl 2 rfl dX2_moneyOf_62 rfl ?_
  refine z_iload_n E hl 3 rfl dX2_moneyOf_63 rfl ?_
  refine z_iconst E dX2_moneyOf_64 ?_
  refine z_callV E G hl.1 (c_X2_amount l D k4 o ot og ou of cb ca f m 3 hm (by decide)) kV_X2_40 ⟨rfl, rfl, Nat.le_of_ble_eq_true rfl, Nat.le_of_ble_eq_true rfl⟩ [0, 2] rfl (by decide) 0 2 rfl rfl rfl rfl rfl (Nat.le_of_ble_eq_true rfl) dX2_moneyOf_65 ⟨by first | exact Nat.le_of_ble_eq_true rfl | omega, by first | exact Nat.le_of_ble_eq_true rfl | omega⟩ (fun v9 w9 H locs hq G => ?_)
  obtain ⟨rfl, rfl⟩ := hq
  refine W.eq (g2 := F0 mm 68 ls [.int (iI (f (m * 8 + 3))), .int (iI (t 1)), .int (iI (((t 3) * (((f (m * 8 + 4)) + (f (m * 8 + 5))) - ((f (m * 8 + 1)) + (f (m * 8 + 2))))) + ((t 2) * (f (m * 8 + 6)))))]) rfl ?_
  have G : zG D AA ss.heap [(o, .inr (2, [.ref ot, .ref og, .ref ou, .ref of, .int (iI (cb)), .int (iI (ca))])), (ot, .inr (3, [.ref osh, .ref ork, .int (iI (t 0)), .int (iI (t 1)), .int (iI (t 2)), .int (iI (t 3)), .int (iI (t 4)), .int (iI (t 5)), .int (iI (t 6))])), (of, .inl (k4 0, 48, .inl (fun i9 => iI (f i9))))] H locs := G
  refine z_imul E dX2_moneyOf_68 ?_
  refine z_isub E dX2_moneyOf_69 ?_
  refine z_eq (y := mon t f m) rfl ?_
  exact z_iret (w' := [(o, .inr (2, [.ref ot, .ref og, .ref ou, .ref of, .int (iI (cb)), .int (iI (ca))])), (ot, .inr (3, [.ref osh, .ref ork, .int (iI (t 0)), .int (iI (t 1)), .int (iI (t 2)), .int (iI (t 3)), .int (iI (t 4)), .int (iI (t 5)), .int (iI (t 6))])), (of, .inl (k4 0, 48, .inl (fun i9 => iI (f i9))))]) (v := mon t f m) E hr hlocks G dX2_moneyOf_70 (by omega) (by omega) (zx0 rfl) ⟨rfl, rfl⟩

