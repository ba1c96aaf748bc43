def q_c_X1_share (k4 : Nat → ClassId) (h r q : Nat) (S : sS) (ht rs rk9 : Nat) (t : Nat → Int) (am ru : Int) : Option Value → va_W → Prop := (fun (v9 : Option Value) (w9 : va_W) => v9 = none ∧ w9 = [(h, .inr (1, [.ref r, .ref q, .int (iI ((shareS ru (fun i => t (7 + i)) (fun i => t (13 + i)) (am, S.2.1, fun _ => 0)).1))])), (r, .inl (k4 0, 6, .inl (fun k => iI ((shareS ru (fun i => t (7 + i)) (fun i => t (13 + i)) (am, S.2.1, fun _ => 0)).2.1 k)))), (q, .inl (k4 0, 6, .inl (fun k => iI ((shareS ru (fun i => t (7 + i)) (fun i => t (13 + i)) (am, S.2.1, fun _ => 0)).2.2 k)))), (ht, .inr (3, [.ref rs, .ref rk9, .int (iI (t 0)), .int (iI (t 1)), .int (iI (t 2)), .int (iI (t 3)), .int (iI (t 4)), .int (iI (t 5)), .int (iI (t 6))])), (rs, .inl (k4 0, 6, .inl (fun k => iI ((fun i => t (7 + i)) k)))), (rk9, .inl (k4 0, 6, .inl (fun k => iI ((fun i => t (13 + i)) k))))])
set_option maxHeartbeats 4000000 in
set_option maxRecDepth 100000 in
theorem c_X1_share (l : Launch) (D : va_G) (k4 : Nat → ClassId) (h r q : Nat) (S : sS) (ht rs rk9 : Nat) (t : Nat → Int) (am ru : Int) (hS : sOK S) (htm : tOK t) (ham : 0 ≤ am ∧ am ≤ 30000) (hru : 0 ≤ ru ∧ ru ≤ 3) : zC l yX1_share (zW yX1_share cX1_share 5 none) ({ frames := 4, cells := 0, slots := 0, locals := 84 } : Room) D k4 [.ref h, .int (iI (am)), .int (iI (ru)), .ref ht] [(h, .inr (1, [.ref r, .ref q, .int (iI (S.1))])), (r, .inl (k4 0, 6, .inl (fun k => iI (S.2.1 k)))), (q, .inl (k4 0, 6, .inl (fun k => iI (S.2.2 k)))), (ht, .inr (3, [.ref rs, .ref rk9, .int (iI (t 0)), .int (iI (t 1)), .int (iI (t 2)), .int (iI (t 3)), .int (iI (t 4)), .int (iI (t 5)), .int (iI (t 6))])), (rs, .inl (k4 0, 6, .inl (fun k => iI ((fun i => t (7 + i)) k)))), (rk9, .inl (k4 0, 6, .inl (fun k => iI ((fun i => t (13 + i)) k))))] (0) (0) (q_c_X1_share k4 h r q S ht rs rk9 t am ru) := by
  refine zC_of (cc := cX1_share) (by decide) (Nat.le_of_ble_eq_true rfl) (fun pp ee ss mm bl me co AA ls E hr hlocks hin G hl => ?_)
  have hl : lv_has ls 5 [(0, .ref h), (1, .int (iI (am))), (2, .int (iI (ru))), (3, .ref ht)] := hl
  refine z_iconst E dX1_share_0 ?_
  refine z_istore E [(4, .int (iI (0))), (0, .ref h), (1, .int (iI (am))), (2, .int (iI (ru))), (3, .ref ht)] dX1_share_1 hl (by decide) rfl (fun ls hl => ?_)
  have hp3_1 : ∀ (n9 : Nat) (j : Nat) (H : Heap) (locs : List Loc) (ls : Array Slot), (6 - j < n9) → (j ≤ 6) → zG D AA ss.heap [(h, .inr (1, [.ref r, .ref q, .int (iI (S.1))])), (r, .inl (k4 0, 6, .inl (fun k => iI (S.2.1 k)))), (q, .inl (k4 0, 6, .inl (fun k => iI ((zer S.2.2 j) k)))), (ht, .inr (3, [.ref rs, .ref rk9, .int (iI (t 0)), .int (iI (t 1)), .int (iI (t 2)), .int (iI (t 3)), .int (iI (t 4)), .int (iI (t 5)), .int (iI (t 6))])), (rs, .inl (k4 0, 6, .inl (fun k => iI ((fun i => t (7 + i)) k)))), (rk9, .inl (k4 0, 6, .inl (fun k => iI ((fun i => t (13 + i)) k))))] H locs → lv_has ls 5 [(0, .ref h), (1, .int (iI (am))), (2, .int (iI (ru))), (3, .ref ht), (4, .int (iI (((j : Nat) : Int))))] → W pp l ee ({ frames := 4, cells := 0, slots := 0, locals := 84 } : Room) ss mm ([.ref h, .int (iI (am)), .int (iI (ru)), .ref ht] : List Value).toArray bl me co H locs (0) (0) (MQ bl (zQ D [(h, .inr (1, [.ref r, .ref q, .int (iI (S.1))])), (r, .inl (k4 0, 6, .inl (fun k => iI (S.2.1 k)))), (q, .inl (k4 0, 6, .inl (fun k => iI (S.2.2 k)))), (ht, .inr (3, [.ref rs, .ref rk9, .int (iI (t 0)), .int (iI (t 1)), .int (iI (t 2)), .int (iI (t 3)), .int (iI (t 4)), .int (iI (t 5)), .int (iI (t 6))])), (rs, .inl (k4 0, 6, .inl (fun k => iI ((fun i => t (7 + i)) k)))), (rk9, .inl (k4 0, 6, .inl (fun k => iI ((fun i => t (13 + i)) k))))] AA (q_c_X1_share k4 h r q S ht rs rk9 t am ru)) ([.ref h, .int (iI (am)), .int (iI (ru)), .ref ht] : List Value).toArray ss (0) (0) AA) (F0 mm 3 ls []) := by
    intro n9
    induction n9 with
    | zero => intro j H locs ls hn9 hj G hl; exact absurd hn9 (by omega)
    | succ n9 ih =>
      intro j H locs ls hn9 hj G hl
      have ih3_1 := @ih
      refine z_iload E hl 4 rfl dX1_share_3 ?_
      refine z_bipush E dX1_share_5 (by decide) ?_
      refine z_icmp_ge (tgt := 26) E dX1_share_7 (by decide) ⟨by omega, by omega⟩ (by decide) (fun c_7 => ?_) (fun c_7 => ?_)
      · skip
        obtain rfl : j = 6 := by omega
        have G := z_ext G 2 rfl (F' := fun _ => 0) (fun k hk => if_pos hk)
        have G : zG D AA ss.heap [(h, .inr (1, [.ref r, .ref q, .int (iI (S.1))])), (r, .inl (k4 0, 6, .inl (fun k => iI (S.2.1 k)))), (q, .inl (k4 0, 6, .inl (fun k => iI ((fun _ => 0) k)))), (ht, .inr (3, [.ref rs, .ref rk9, .int (iI (t 0)), .int (iI (t 1)), .int (iI (t 2)), .int (iI (t 3)), .int (iI (t 4)), .int (iI (t 5)), .int (iI (t 6))])), (rs, .inl (k4 0, 6, .inl (fun k => iI ((fun i => t (7 + i)) k)))), (rk9, .inl (k4 0, 6, .inl (fun k => iI ((fun i => t (13 + i)) k))))] H locs := G
        refine z_aload_n E hl 0 rfl dX1_share_26 rfl ?_
        refine z_iload_n E hl 1 rfl dX1_share_27 rfl ?_
        refine kp_X1_26 E G 0 rfl (Nat.le_of_ble_eq_true rfl) dX1_share_28 (fun H locs G => ?_)
        have G : zG D AA ss.heap [(h, .inr (1, [.ref r, .ref q, .int (iI (am))])), (r, .inl (k4 0, 6, .inl (fun k => iI (S.2.1 k)))), (q, .inl (k4 0, 6, .inl (fun k => iI ((fun _ => 0) k)))), (ht, .inr (3, [.ref rs, .ref rk9, .int (iI (t 0)), .int (iI (t 1)), .int (iI (t 2)), .int (iI (t 3)), .int (iI (t 4)), .int (iI (t 5)), .int (iI (t 6))])), (rs, .inl (k4 0, 6, .inl (fun k => iI ((fun i => t (7 + i)) k)))), (rk9, .inl (k4 0, 6, .inl (fun k => iI ((fun i => t (13 + i)) k))))] H locs := G
        have b0 : sOK (am, S.2.1, fun _ => 0) := ⟨ham, hS.2⟩
        rcases (show ru = 0 ∨ ru = 1 ∨ ru = 2 ∨ ru = 3 by omega) with g9 | g9 | g9 | g9
        · skip
          refine z_iload_n E hl 2 rfl dX1_share_31 rfl ?_
          refine z_tableOut (tgt := 93) E dX1_share_32 ⟨by omega, by omega⟩ (by omega) (by decide) ?_
          refine z_aload_n E hl 0 rfl dX1_share_93 rfl ?_
          refine z_callV E G hl.1 (c_X1_shareEqually l D k4 h r q ((am, S.2.1, fun _ => 0)) b0) kV_X1_39 ⟨rfl, rfl, Nat.le_of_ble_eq_true rfl, Nat.le_of_ble_eq_true rfl⟩ [0, 1, 2] rfl (by decide) 0 1 rfl rfl rfl rfl rfl (Nat.le_of_ble_eq_true rfl) dX1_share_94 ⟨by first | exact Nat.le_of_ble_eq_true rfl | omega, by first | exact Nat.le_of_ble_eq_true rfl | omega⟩ (fun v9 w9 H locs hq G => ?_)
          obtain ⟨rfl, rfl⟩ := hq
          refine W.eq (g2 := F0 mm 97 ls []) rfl ?_
          have G : zG D AA ss.heap [(h, .inr (1, [.ref r, .ref q, .int (iI ((eqS ((am, S.2.1, fun _ => 0))).1))])), (r, .inl (k4 0, 6, .inl (fun k => iI ((eqS ((am, S.2.1, fun _ => 0))).2.1 k)))), (q, .inl (k4 0, 6, .inl (fun k => iI ((eqS ((am, S.2.1, fun _ => 0))).2.2 k)))), (ht, .inr (3, [.ref rs, .ref rk9, .int (iI (t 0)), .int (iI (t 1)), .int (iI (t 2)), .int (iI (t 3)), .int (iI (t 4)), .int (iI (t 5)), .int (iI (t 6))])), (rs, .inl (k4 0, 6, .inl (fun k => iI ((fun i => t (7 + i)) k)))), (rk9, .inl (k4 0, 6, .inl (fun k => iI ((fun i => t (13 + i)) k))))] H locs := G
          have e9 : shareS ru (fun i => t (7 + i)) (fun i => t (13 + i)) (am, S.2.1, fun _ => 0) = eqS (am, S.2.1, fun _ => 0) := by unfold shareS; rw [if_neg (by omega), if_neg (by omega), if_neg (by omega)]
          rw [← e9] at G
          exact z_vret (w' := [(h, .inr (1, [.ref r, .ref q, .int (iI ((shareS ru (fun i => t (7 + i)) (fun i => t (13 + i)) (am, S.2.1, fun _ => 0)).1))])), (r, .inl (k4 0, 6, .inl (fun k => iI ((shareS ru (fun i => t (7 + i)) (fun i => t (13 + i)) (am, S.2.1, fun _ => 0)).2.1 k)))), (q, .inl (k4 0, 6, .inl (fun k => iI ((shareS ru (fun i => t (7 + i)) (fun i => t (13 + i)) (am, S.2.1, fun _ => 0)).2.2 k)))), (ht, .inr (3, [.ref rs, .ref rk9, .int (iI (t 0)), .int (iI (t 1)), .int (iI (t 2)), .int (iI (t 3)), .int (iI (t 4)), .int (iI (t 5)), .int (iI (t 6))])), (rs, .inl (k4 0, 6, .inl (fun k => iI ((fun i => t (7 + i)) k)))), (rk9, .inl (k4 0, 6, .inl (fun k => iI ((fun i => t (13 + i)) k))))]) E hr hlocks G dX1_share_97 (by omega) (by omega) (zx0 rfl) ⟨rfl, rfl⟩
        · skip
          refine z_iload_n E hl 2 rfl dX1_share_31 rfl ?_
          refine z_tableIn (tgt := 60) E 0 dX1_share_32 ⟨by omega, by omega⟩ (by omega) (by decide) rfl (by decide) ?_
          refine z_aload_n E hl 0 rfl dX1_share_60 rfl ?_
          refine z_aload_n E hl 3 rfl dX1_share_61 rfl ?_
          refine kg_X1_30 E G 3 rfl rfl dX1_share_62 ?_
          refine z_callV E G hl.1 (c_X1_shareByShares l D k4 h r q ((am, S.2.1, fun _ => 0)) rs ((fun i => t (7 + i))) b0 (tOK_sh htm)) kV_X1_35 ⟨rfl, rfl, Nat.le_of_ble_eq_true rfl, Nat.le_of_ble_eq_true rfl⟩ [0, 1, 2, 4] rfl (by decide) 0 1 rfl rfl rfl rfl rfl (Nat.le_of_ble_eq_true rfl) dX1_share_65 ⟨by first | exact Nat.le_of_ble_eq_true rfl | omega, by first | exact Nat.le_of_ble_eq_true rfl | omega⟩ (fun v9 w9 H locs hq G => ?_)
          obtain ⟨rfl, rfl⟩ := hq
          refine W.eq (g2 := F0 mm 68 ls []) rfl ?_
          have G : zG D AA ss.heap [(h, .inr (1, [.ref r, .ref q, .int (iI ((shS ((fun i => t (7 + i))) ((am, S.2.1, fun _ => 0))).1))])), (r, .inl (k4 0, 6, .inl (fun k => iI ((shS ((fun i => t (7 + i))) ((am, S.2.1, fun _ => 0))).2.1 k)))), (q, .inl (k4 0, 6, .inl (fun k => iI ((shS ((fun i => t (7 + i))) ((am, S.2.1, fun _ => 0))).2.2 k)))), (ht, .inr (3, [.ref rs, .ref rk9, .int (iI (t 0)), .int (iI (t 1)), .int (iI (t 2)), .int (iI (t 3)), .int (iI (t 4)), .int (iI (t 5)), .int (iI (t 6))])), (rs, .inl (k4 0, 6, .inl (fun k => iI (((fun i => t (7 + i))) k)))), (rk9, .inl (k4 0, 6, .inl (fun k => iI ((fun i => t (13 + i)) k))))] H locs := G
          refine z_aload_n E hl 0 rfl dX1_share_68 rfl ?_
          refine z_callV E G hl.1 (c_X1_shareEqually l D k4 h r q ((shS (fun i => t (7 + i)) (am, S.2.1, fun _ => 0))) (iter_ok (fun _ h => shStep_ok (tOK_sh htm) h) b0 1000)) kV_X1_39 ⟨rfl, rfl, Nat.le_of_ble_eq_true rfl, Nat.le_of_ble_eq_true rfl⟩ [0, 1, 2] rfl (by decide) 0 1 rfl rfl rfl rfl rfl (Nat.le_of_ble_eq_true rfl) dX1_share_69 ⟨by first | exact Nat.le_of_ble_eq_true rfl | omega, by first | exact Nat.le_of_ble_eq_true rfl | omega⟩ (fun v9 w9 H locs hq G => ?_)
          obtain ⟨rfl, rfl⟩ := hq
          refine W.eq (g2 := F0 mm 72 ls []) rfl ?_
          have G : zG D AA ss.heap [(h, .inr (1, [.ref r, .ref q, .int (iI ((eqS ((shS (fun i => t (7 + i)) (am, S.2.1, fun _ => 0)))).1))])), (r, .inl (k4 0, 6, .inl (fun k => iI ((eqS ((shS (fun i => t (7 + i)) (am, S.2.1, fun _ => 0)))).2.1 k)))), (q, .inl (k4 0, 6, .inl (fun k => iI ((eqS ((shS (fun i => t (7 + i)) (am, S.2.1, fun _ => 0)))).2.2 k)))), (ht, .inr (3, [.ref rs, .ref rk9, .int (iI (t 0)), .int (iI (t 1)), .int (iI (t 2)), .int (iI (t 3)), .int (iI (t 4)), .int (iI (t 5)), .int (iI (t 6))])), (rs, .inl (k4 0, 6, .inl (fun k => iI (((fun i => t (7 + i))) k)))), (rk9, .inl (k4 0, 6, .inl (fun k => iI ((fun i => t (13 + i)) k))))] H locs := G
          refine z_goto (tgt := 97) E dX1_share_72 (by decide) ?_
          have e9 : shareS ru (fun i => t (7 + i)) (fun i => t (13 + i)) (am, S.2.1, fun _ => 0) = eqS (shS (fun i => t (7 + i)) (am, S.2.1, fun _ => 0)) := by unfold shareS; rw [if_pos g9]
          rw [← e9] at G
          exact z_vret (w' := [(h, .inr (1, [.ref r, .ref q, .int (iI ((shareS ru (fun i => t (7 + i)) (fun i => t (13 + i)) (am, S.2.1, fun _ => 0)).1))])), (r, .inl (k4 0, 6, .inl (fun k => iI ((shareS ru (fun i => t (7 + i)) (fun i => t (13 + i)) (am, S.2.1, fun _ => 0)).2.1 k)))), (q, .inl (k4 0, 6, .inl (fun k => iI ((shareS ru (fun i => t (7 + i)) (fun i => t (13 + i)) (am, S.2.1, fun _ => 0)).2.2 k)))), (ht, .inr (3, [.ref rs, .ref rk9, .int (iI (t 0)), .int (iI (t 1)), .int (iI (t 2)), .int (iI (t 3)), .int (iI (t 4)), .int (iI (t 5)), .int (iI (t 6))])), (rs, .inl (k4 0, 6, .inl (fun k => iI ((fun i => t (7 + i)) k)))), (rk9, .inl (k4 0, 6, .inl (fun k => iI ((fun i => t (13 + i)) k))))]) E hr hlocks G dX1_share_97 (by omega) (by omega) (zx0 rfl) ⟨rfl, rfl⟩
        · skip
          refine z_iload_n E hl 2 rfl dX1_share_31 rfl ?_
          refine z_tableIn (tgt := 75) E 1 dX1_share_32 ⟨by omega, by omega⟩ (by omega) (by decide) rfl (by decide) ?_
          refine z_aload_n E hl 0 rfl dX1_share_75 rfl ?_
          refine z_callV E G hl.1 (c_X1_shareByRoom l D k4 h r q ((am, S.2.1, fun _ => 0)) b0) kV_X1_42 ⟨rfl, rfl, Nat.le_of_ble_eq_true rfl, Nat.le_of_ble_eq_true rfl⟩ [0, 1, 2] rfl (by decide) 0 1 rfl rfl rfl rfl rfl (Nat.le_of_ble_eq_true rfl) dX1_share_76 ⟨by first | exact Nat.le_of_ble_eq_true rfl | omega, by first | exact Nat.le_of_ble_eq_true rfl | omega⟩ (fun v9 w9 H locs hq G => ?_)
          obtain ⟨rfl, rfl⟩ := hq
          refine W.eq (g2 := F0 mm 79 ls []) rfl ?_
          have G : zG D AA ss.heap [(h, .inr (1, [.ref r, .ref q, .int (iI ((roomS ((am, S.2.1, fun _ => 0))).1))])), (r, .inl (k4 0, 6, .inl (fun k => iI ((roomS ((am, S.2.1, fun _ => 0))).2.1 k)))), (q, .inl (k4 0, 6, .inl (fun k => iI ((roomS ((am, S.2.1, fun _ => 0))).2.2 k)))), (ht, .inr (3, [.ref rs, .ref rk9, .int (iI (t 0)), .int (iI (t 1)), .int (iI (t 2)), .int (iI (t 3)), .int (iI (t 4)), .int (iI (t 5)), .int (iI (t 6))])), (rs, .inl (k4 0, 6, .inl (fun k => iI ((fun i => t (7 + i)) k)))), (rk9, .inl (k4 0, 6, .inl (fun k => iI ((fun i => t (13 + i)) k))))] H locs := G
          refine z_goto (tgt := 97) E dX1_share_79 (by decide) ?_
          have e9 : shareS ru (fun i => t (7 + i)) (fun i => t (13 + i)) (am, S.2.1, fun _ => 0) = roomS (am, S.2.1, fun _ => 0) := by unfold shareS; rw [if_neg (by omega), if_pos g9]
          rw [← e9] at G
          exact z_vret (w' := [(h, .inr (1, [.ref r, .ref q, .int (iI ((shareS ru (fun i => t (7 + i)) (fun i => t (13 + i)) (am, S.2.1, fun _ => 0)).1))])), (r, .inl (k4 0, 6, .inl (fun k => iI ((shareS ru (fun i => t (7 + i)) (fun i => t (13 + i)) (am, S.2.1, fun _ => 0)).2.1 k)))), (q, .inl (k4 0, 6, .inl (fun k => iI ((shareS ru (fun i => t (7 + i)) (fun i => t (13 + i)) (am, S.2.1, fun _ => 0)).2.2 k)))), (ht, .inr (3, [.ref rs, .ref rk9, .int (iI (t 0)), .int (iI (t 1)), .int (iI (t 2)), .int (iI (t 3)), .int (iI (t 4)), .int (iI (t 5)), .int (iI (t 6))])), (rs, .inl (k4 0, 6, .inl (fun k => iI ((fun i => t (7 + i)) k)))), (rk9, .inl (k4 0, 6, .inl (fun k => iI ((fun i => t (13 + i)) k))))]) E hr hlocks G dX1_share_97 (by omega) (by omega) (zx0 rfl) ⟨rfl, rfl⟩
        · skip
          refine z_iload_n E hl 2 rfl dX1_share_31 rfl ?_
          refine z_tableIn (tgt := 82) E 2 dX1_share_32 ⟨by omega, by omega⟩ (by omega) (by decide) rfl (by decide) ?_
          refine z_aload_n E hl 0 rfl dX1_share_82 rfl ?_
          refine z_aload_n E hl 3 rfl dX1_share_83 rfl ?_
          refine kg_X1_45 E G 3 rfl rfl dX1_share_84 ?_
          refine z_callV E G hl.1 (c_X1_shareByRank l D k4 h r q ((am, S.2.1, fun _ => 0)) rk9 ((fun i => t (13 + i))) b0 (tOK_rk htm)) kV_X1_48 ⟨rfl, rfl, Nat.le_of_ble_eq_true rfl, Nat.le_of_ble_eq_true rfl⟩ [0, 1, 2, 5] rfl (by decide) 0 1 rfl rfl rfl rfl rfl (Nat.le_of_ble_eq_true rfl) dX1_share_87 ⟨by first | exact Nat.le_of_ble_eq_true rfl | omega, by first | exact Nat.le_of_ble_eq_true rfl | omega⟩ (fun v9 w9 H locs hq G => ?_)
          obtain ⟨rfl, rfl⟩ := hq
          refine W.eq (g2 := F0 mm 90 ls []) rfl ?_
          have G : zG D AA ss.heap [(h, .inr (1, [.ref r, .ref q, .int (iI ((rankS ((fun i => t (13 + i))) ((am, S.2.1, fun _ => 0))).1))])), (r, .inl (k4 0, 6, .inl (fun k => iI ((rankS ((fun i => t (13 + i))) ((am, S.2.1, fun _ => 0))).2.1 k)))), (q, .inl (k4 0, 6, .inl (fun k => iI ((rankS ((fun i => t (13 + i))) ((am, S.2.1, fun _ => 0))).2.2 k)))), (ht, .inr (3, [.ref rs, .ref rk9, .int (iI (t 0)), .int (iI (t 1)), .int (iI (t 2)), .int (iI (t 3)), .int (iI (t 4)), .int (iI (t 5)), .int (iI (t 6))])), (rs, .inl (k4 0, 6, .inl (fun k => iI ((fun i => t (7 + i)) k)))), (rk9, .inl (k4 0, 6, .inl (fun k => iI (((fun i => t (13 + i))) k))))] H locs := G
          refine z_goto (tgt := 97) E dX1_share_90 (by decide) ?_
          have e9 : shareS ru (fun i => t (7 + i)) (fun i => t (13 + i)) (am, S.2.1, fun _ => 0) = rankS (fun i => t (13 + i)) (am, S.2.1, fun _ => 0) := by unfold shareS; rw [if_neg (by omega), if_neg (by omega), if_pos g9]
          rw [← e9] at G
          exact z_vret (w' := [(h, .inr (1, [.ref r, .ref q, .int (iI ((shareS ru (fun i => t (7 + i)) (fun i => t (13 + i)) (am, S.2.1, fun _ => 0)).1))])), (r, .inl (k4 0, 6, .inl (fun k => iI ((shareS ru (fun i => t (7 + i)) (fun i => t (13 + i)) (am, S.2.1, fun _ => 0)).2.1 k)))), (q, .inl (k4 0, 6, .inl (fun k => iI ((shareS ru (fun i => t (7 + i)) (fun i => t (13 + i)) (am, S.2.1, fun _ => 0)).2.2 k)))), (ht, .inr (3, [.ref rs, .ref rk9, .int (iI (t 0)), .int (iI (t 1)), .int (iI (t 2)), .int (iI (t 3)), .int (iI (t 4)), .int (iI (t 5)), .int (iI (t 6))])), (rs, .inl (k4 0, 6, .inl (fun k => iI ((fun i => t (7 + i)) k)))), (rk9, .inl (k4 0, 6, .inl (fun k => iI ((fun i => t (13 + i)) k))))]) E hr hlocks G dX1_share_97 (by omega) (by omega) (zx0 rfl) ⟨rfl, rfl⟩
      · skip
        refine z_aload_n E hl 0 rfl dX1_share_10 rfl ?_
        refine kg_X1_15 E G 0 rfl rfl dX1_share_11 ?_
        refine z_iload E hl 4 rfl dX1_share_14 ?_
        refine z_iconst E dX1_share_16 ?_
        refine z_callSN E G hl.1 (c_X4_put l D k4 q 6 ((zer S.2.2 j)) j 0 (by omega) (by decide)) kSN_X1_22 ⟨rfl, rfl, Nat.le_of_ble_eq_true rfl, Nat.le_of_ble_eq_true rfl⟩ [2] rfl (by decide) rfl rfl (Nat.le_of_ble_eq_true rfl) dX1_share_17 ⟨by first | exact Nat.le_of_ble_eq_true rfl | omega, by first | exact Nat.le_of_ble_eq_true rfl | omega⟩ (fun v9 w9 H locs hq G => ?_)
        obtain ⟨rfl, rfl⟩ := hq
        refine W.eq (g2 := F0 mm 20 ls []) rfl ?_
        have G : zG D AA ss.heap [(h, .inr (1, [.ref r, .ref q, .int (iI (S.1))])), (r, .inl (k4 0, 6, .inl (fun k => iI (S.2.1 k)))), (q, .inl (k4 0, 6, .inl (fun k => iI ((up ((zer S.2.2 j)) j 0) k)))), (ht, .inr (3, [.ref rs, .ref rk9, .int (iI (t 0)), .int (iI (t 1)), .int (iI (t 2)), .int (iI (t 3)), .int (iI (t 4)), .int (iI (t 5)), .int (iI (t 6))])), (rs, .inl (k4 0, 6, .inl (fun k => iI ((fun i => t (7 + i)) k)))), (rk9, .inl (k4 0, 6, .inl (fun k => iI ((fun i => t (13 + i)) k))))] H locs := G
        rw [zer_s] at G
        refine z_iinc E [(4, .int (iI (((j : Nat) : Int) + 1))), (0, .ref h), (1, .int (iI (am))), (2, .int (iI (ru))), (3, .ref ht)] dX1_share_20 hl (k := 4) rfl (by decide) rfl (fun ls hl => ?_)
        refine z_goto (tgt := 3) E dX1_share_23 (by decide) ?_
        exact ih3_1 (j + 1) _ _ _ (by omega) (by omega) G (lv_sub hl [1, 2, 3, 4, 0] rfl)
  exact hp3_1 7 0 _ _ _ (by decide) (by decide) G (lv_sub hl [1, 2, 3, 4, 0] rfl)


