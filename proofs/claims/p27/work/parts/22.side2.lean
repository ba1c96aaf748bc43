def q_c_X1_shareByShares (k4 : Nat → ClassId) (h r q : Nat) (S : sS) (rs : Nat) (sh : Nat → Int) : Option Value → va_W → Prop := (fun (v9 : Option Value) (w9 : va_W) => v9 = none ∧ w9 = [(h, .inr (1, [.ref r, .ref q, .int (iI ((shS sh S).1))])), (r, .inl (k4 0, 6, .inl (fun i9 => iI ((shS sh S).2.1 i9)))), (q, .inl (k4 0, 6, .inl (fun i9 => iI ((shS sh S).2.2 i9)))), (rs, .inl (k4 0, 6, .inl (fun i9 => iI (sh i9))))])
set_option maxHeartbeats 4000000 in
set_option maxRecDepth 100000 in
theorem c_X1_shareByShares (l : Launch) (D : va_G) (k4 : Nat → ClassId) (h r q : Nat) (S : sS) (rs : Nat) (sh : Nat → Int) (hS : sOK S) (hs : ∀ k, k < 6 → 0 ≤ sh k ∧ sh k ≤ 100) : zC l yX1_shareByShares (zW yX1_shareByShares cX1_shareByShares 6 none) ({ frames := 3, cells := 0, slots := 0, locals := 59 } : Room) D k4 [.ref h, .ref rs] [(h, .inr (1, [.ref r, .ref q, .int (iI (S.1))])), (r, .inl (k4 0, 6, .inl (fun i9 => iI (S.2.1 i9)))), (q, .inl (k4 0, 6, .inl (fun i9 => iI (S.2.2 i9)))), (rs, .inl (k4 0, 6, .inl (fun i9 => iI (sh i9))))] (0) (0) (q_c_X1_shareByShares k4 h r q S rs sh) := by
  refine zC_of (cc := cX1_shareByShares) (by decide) (Nat.le_of_ble_eq_true rfl) (fun pp ee ss mm bl me co AA H locs ls E hr hlocks hin G hl => ?_)
  have hl : lv_has ls 6 [(0, .ref h), (1, .ref rs)] := hl
  refine z_iconst E dX1_shareByShares_0 ?_
  refine z_istore_n E [(2, .int (iI (0))), (0, .ref h), (1, .ref rs)] dX1_shareByShares_1 rfl hl (by decide) rfl (fun ls hl => ?_)
  have hp2_1 : ∀ (n9 : Nat) (r9 : Nat) (H : Heap) (locs : List Loc) (ls : Array Slot), (1000 - r9 < n9) → (r9 ≤ 1000) → zG D AA ss.heap [(h, .inr (1, [.ref r, .ref q, .int (iI ((iter (shStep sh) r9 S).1))])), (r, .inl (k4 0, 6, .inl (fun i9 => iI ((iter (shStep sh) r9 S).2.1 i9)))), (q, .inl (k4 0, 6, .inl (fun i9 => iI ((iter (shStep sh) r9 S).2.2 i9)))), (rs, .inl (k4 0, 6, .inl (fun i9 => iI (sh i9))))] H locs → lv_has ls 6 [(0, .ref h), (1, .ref rs), (2, .int (iI (((r9 : Nat) : Int))))] → W pp l ee ({ frames := 3, cells := 0, slots := 0, locals := 59 } : Room) ss mm ([.ref h, .ref rs] : List Value).toArray bl me co H locs (0) (0) (MQ bl (zQ D [(h, .inr (1, [.ref r, .ref q, .int (iI (S.1))])), (r, .inl (k4 0, 6, .inl (fun i9 => iI (S.2.1 i9)))), (q, .inl (k4 0, 6, .inl (fun i9 => iI (S.2.2 i9)))), (rs, .inl (k4 0, 6, .inl (fun i9 => iI (sh i9))))] AA (q_c_X1_shareByShares k4 h r q S rs sh)) ([.ref h, .ref rs] : List Value).toArray ss (0) (0) AA) (F0 mm 2 ls []) := by
    intro n9
    induction n9 with
    | zero => intro r9 H locs ls hn9 hr9 G hl; exact absurd hn9 (by omega)
    | succ n9 ih =>
      intro r9 H locs ls hn9 hr9 G hl
      have ih2_1 := @ih
      have b0 : sOK (iter (shStep sh) r9 S) := iter_ok (fun _ h => shStep_ok hs h) hS r9
      have b1 := b0.1
      have b3 := ssumN_b (R := (iter (shStep sh) r9 S).2.1) hs 6 (by decide)
      refine z_aload_n E hl 0 rfl dX1_shareByShares_2 rfl ?_
      refine kg_X1_26 E G 0 rfl rfl dX1_shareByShares_3 ?_
      refine z_if_le (tgt := 86) E dX1_shareByShares_6 (by decide) ⟨by omega, by omega⟩ (fun c_6 => ?_) (fun c_6 => ?_)
      · skip
        have e9 : shS sh S = iter (shStep sh) r9 S := iter_end (by rw [NR_eq]; exact hr9) (shStep_fix hs b0 (Or.inl (by omega)))
        rw [← e9] at G
        exact z_vret (w' := [(h, .inr (1, [.ref r, .ref q, .int (iI ((shS sh S).1))])), (r, .inl (k4 0, 6, .inl (fun i9 => iI ((shS sh S).2.1 i9)))), (q, .inl (k4 0, 6, .inl (fun i9 => iI ((shS sh S).2.2 i9)))), (rs, .inl (k4 0, 6, .inl (fun i9 => iI (sh i9))))]) E hr hlocks G dX1_shareByShares_86 (by omega) (by omega) (zx0 rfl) ⟨rfl, rfl⟩
      · skip
        refine z_iload_n E hl 2 rfl dX1_shareByShares_9 rfl ?_
        refine z_sipush E dX1_shareByShares_10 (by decide) ?_
        refine z_icmp_ge (tgt := 86) E dX1_shareByShares_13 (by decide) ⟨by omega, by omega⟩ (by decide) (fun c_13 => ?_) (fun c_13 => ?_)
        · skip
          have e9 : shS sh S = iter (shStep sh) r9 S := by have h9 : r9 = NR := (by rw [NR_eq]; omega); rw [h9]; rfl
          rw [← e9] at G
          exact z_vret (w' := [(h, .inr (1, [.ref r, .ref q, .int (iI ((shS sh S).1))])), (r, .inl (k4 0, 6, .inl (fun i9 => iI ((shS sh S).2.1 i9)))), (q, .inl (k4 0, 6, .inl (fun i9 => iI ((shS sh S).2.2 i9)))), (rs, .inl (k4 0, 6, .inl (fun i9 => iI (sh i9))))]) E hr hlocks G dX1_shareByShares_86 (by omega) (by omega) (zx0 rfl) ⟨rfl, rfl⟩
        · skip
          refine z_aload_n E hl 0 rfl dX1_shareByShares_16 rfl ?_
          refine z_aload_n E hl 1 rfl dX1_shareByShares_17 rfl ?_
          refine z_callV E G hl.1 (c_X1_sumOfShares l D k4 h r q ((iter (shStep sh) r9 S)) rs sh b0) kV_X1_65 ⟨rfl, rfl, Nat.le_of_ble_eq_true rfl, Nat.le_of_ble_eq_true rfl⟩ [0, 1, 2, 3] rfl (by decide) 0 1 rfl rfl rfl rfl rfl (Nat.le_of_ble_eq_true rfl) dX1_shareByShares_18 ⟨by first | exact Nat.le_of_ble_eq_true rfl | omega, by first | exact Nat.le_of_ble_eq_true rfl | omega⟩ (fun v9 w9 H locs hq G => ?_)
          obtain ⟨rfl, rfl⟩ := hq
          refine W.eq (g2 := F0 mm 21 ls [.int (iI (ssumN sh (iter (shStep sh) r9 S).2.1 6))]) rfl ?_
          have G : zG D AA ss.heap [(h, .inr (1, [.ref r, .ref q, .int (iI ((iter (shStep sh) r9 S).1))])), (r, .inl (k4 0, 6, .inl (fun i9 => iI ((iter (shStep sh) r9 S).2.1 i9)))), (q, .inl (k4 0, 6, .inl (fun i9 => iI ((iter (shStep sh) r9 S).2.2 i9)))), (rs, .inl (k4 0, 6, .inl (fun i9 => iI (sh i9))))] H locs := G
          refine z_istore_n E [(3, .int (iI (ssumN sh (iter (shStep sh) r9 S).2.1 6))), (0, .ref h), (1, .ref rs), (2, .int (iI (((r9 : Nat) : Int))))] dX1_shareByShares_21 rfl hl (by decide) rfl (fun ls hl => ?_)
          refine z_iload_n E hl 0 rfl dX1_shareByShares_22 rfl ?_
          refine z_if_gt (tgt := 27) E dX1_shareByShares_23 (by decide) ⟨by omega, by omega⟩ (fun c_23 => ?_) (fun c_23 => ?_)
          · skip
            refine z_aload_n E hl 1 rfl dX1_shareByShares_27 rfl ?_
            refine kg_X1_26 E G 0 rfl rfl dX1_shareByShares_28 ?_
            refine z_istore E [(4, .int (iI ((iter (shStep sh) r9 S).1))), (3, .int (iI (ssumN sh (iter (shStep sh) r9 S).2.1 6))), (0, .ref h), (1, .ref rs), (2, .int (iI (((r9 : Nat) : Int))))] dX1_shareByShares_31 hl (by decide) rfl (fun ls hl => ?_)
            refine z_iconst E dX1_shareByShares_33 ?_
            refine z_istore E [(5, .int (iI (0))), (4, .int (iI ((iter (shStep sh) r9 S).1))), (3, .int (iI (ssumN sh (iter (shStep sh) r9 S).2.1 6))), (0, .ref h), (1, .ref rs), (2, .int (iI (((r9 : Nat) : Int))))] dX1_shareByShares_34 hl (by decide) rfl (fun ls hl => ?_)
            have hp36_2 : ∀ (n9 : Nat) (j : Nat) (H : Heap) (locs : List Loc) (ls : Array Slot), (6 - j < n9) → (j ≤ 6) → zG D AA ss.heap [(h, .inr (1, [.ref r, .ref q, .int (iI ((giveTo (fun m => (iter (shStep sh) r9 S).1 * sh m / ssumN sh (iter (shStep sh) r9 S).2.1 6) j (iter (shStep sh) r9 S)).1))])), (r, .inl (k4 0, 6, .inl (fun i9 => iI ((giveTo (fun m => (iter (shStep sh) r9 S).1 * sh m / ssumN sh (iter (shStep sh) r9 S).2.1 6) j (iter (shStep sh) r9 S)).2.1 i9)))), (q, .inl (k4 0, 6, .inl (fun i9 => iI ((giveTo (fun m => (iter (shStep sh) r9 S).1 * sh m / ssumN sh (iter (shStep sh) r9 S).2.1 6) j (iter (shStep sh) r9 S)).2.2 i9)))), (rs, .inl (k4 0, 6, .inl (fun i9 => iI (sh i9))))] H locs → lv_has ls 6 [(0, .ref h), (1, .ref rs), (2, .int (iI (((r9 : Nat) : Int)))), (3, .int (iI (ssumN sh (iter (shStep sh) r9 S).2.1 6))), (4, .int (iI ((iter (shStep sh) r9 S).1))), (5, .int (iI (((j : Nat) : Int))))] → W pp l ee ({ frames := 3, cells := 0, slots := 0, locals := 59 } : Room) ss mm ([.ref h, .ref rs] : List Value).toArray bl me co H locs (0) (0) (MQ bl (zQ D [(h, .inr (1, [.ref r, .ref q, .int (iI (S.1))])), (r, .inl (k4 0, 6, .inl (fun i9 => iI (S.2.1 i9)))), (q, .inl (k4 0, 6, .inl (fun i9 => iI (S.2.2 i9)))), (rs, .inl (k4 0, 6, .inl (fun i9 => iI (sh i9))))] AA (q_c_X1_shareByShares k4 h r q S rs sh)) ([.ref h, .ref rs] : List Value).toArray ss (0) (0) AA) (F0 mm 36 ls []) := by
              intro n9
              induction n9 with
              | zero => intro j H locs ls hn9 hj G hl; exact absurd hn9 (by omega)
              | succ n9 ih =>
                intro j H locs ls hn9 hj G hl
                have ih36_2 := @ih
                have f0 : ∀ k, k < 6 → 0 ≤ (fun m => (iter (shStep sh) r9 S).1 * sh m / ssumN sh (iter (shStep sh) r9 S).2.1 6) k := fun k hk => divN (Int.mul_nonneg b1.1 (hs k hk).1) b3.1
                have b5 : sOK (giveTo (fun m => (iter (shStep sh) r9 S).1 * sh m / ssumN sh (iter (shStep sh) r9 S).2.1 6) j (iter (shStep sh) r9 S)) := giveTo_ok b0 j hj (fun k hk => f0 k (by omega))
                refine z_iload E hl 5 rfl dX1_shareByShares_36 ?_
                refine z_bipush E dX1_shareByShares_38 (by decide) ?_
                refine z_icmp_ge (tgt := 66) E dX1_shareByShares_40 (by decide) ⟨by omega, by omega⟩ (by decide) (fun c_40 => ?_) (fun c_40 => ?_)
                · skip
                  obtain rfl : j = 6 := by omega
                  have b9 := b5.1
                  refine z_aload_n E hl 0 rfl dX1_shareByShares_66 rfl ?_
                  refine kg_X1_26 E G 0 rfl rfl dX1_shareByShares_67 ?_
                  refine z_iload E hl 4 rfl dX1_shareByShares_70 ?_
                  refine z_icmp_ne (tgt := 80) E dX1_shareByShares_72 (by decide) ⟨by omega, by omega⟩ ⟨by omega, by omega⟩ (fun c_72 => ?_) (fun c_72 => ?_)
                  · skip
                    have e9 : shStep sh (iter (shStep sh) r9 S) = (giveTo (fun m => (iter (shStep sh) r9 S).1 * sh m / ssumN sh (iter (shStep sh) r9 S).2.1 6) 6 (iter (shStep sh) r9 S)) := if_neg (by omega)
                    rw [← e9] at G
                    have G : zG D AA ss.heap [(h, .inr (1, [.ref r, .ref q, .int (iI ((iter (shStep sh) (r9 + 1) S).1))])), (r, .inl (k4 0, 6, .inl (fun i9 => iI ((iter (shStep sh) (r9 + 1) S).2.1 i9)))), (q, .inl (k4 0, 6, .inl (fun i9 => iI ((iter (shStep sh) (r9 + 1) S).2.2 i9)))), (rs, .inl (k4 0, 6, .inl (fun i9 => iI (sh i9))))] H locs := G
                    refine z_iinc E [(2, .int (iI (((r9 : Nat) : Int) + 1))), (0, .ref h), (1, .ref rs), (3, .int (iI (ssumN sh (iter (shStep sh) r9 S).2.1 6))), (4, .int (iI ((iter (shStep sh) r9 S).1))), (5, .int (iI (((6 : Nat) : Int))))] dX1_shareByShares_80 hl (k := 2) rfl (by decide) rfl (fun ls hl => ?_)
                    refine z_goto (tgt := 2) E dX1_shareByShares_83 (by decide) ?_
                    exact ih2_1 (r9 + 1) _ _ _ (by omega) (by omega) G (lv_sub hl [1, 2, 0] rfl)
                  · skip
                    have e9 : shStep sh (iter (shStep sh) r9 S) = giveOne sh 6 (giveTo (fun m => (iter (shStep sh) r9 S).1 * sh m / ssumN sh (iter (shStep sh) r9 S).2.1 6) 6 (iter (shStep sh) r9 S)) := if_pos (by omega)
                    refine z_aload_n E hl 0 rfl dX1_shareByShares_75 rfl ?_
                    refine z_aload_n E hl 1 rfl dX1_shareByShares_76 rfl ?_
                    refine z_callV E G hl.1 (c_X1_giveOneByShares l D k4 h r q ((giveTo (fun m => (iter (shStep sh) r9 S).1 * sh m / ssumN sh (iter (shStep sh) r9 S).2.1 6) 6 (iter (shStep sh) r9 S))) rs sh b5 hs) kV_X1_73 ⟨rfl, rfl, Nat.le_of_ble_eq_true rfl, Nat.le_of_ble_eq_true rfl⟩ [0, 1, 2, 3] rfl (by decide) 0 1 rfl rfl rfl rfl rfl (Nat.le_of_ble_eq_true rfl) dX1_shareByShares_77 ⟨by first | exact Nat.le_of_ble_eq_true rfl | omega, by first | exact Nat.le_of_ble_eq_true rfl | omega⟩ (fun v9 w9 H locs hq G => ?_)
                    obtain ⟨rfl, rfl⟩ := hq
                    refine W.eq (g2 := F0 mm 80 ls []) rfl ?_
                    have G : zG D AA ss.heap [(h, .inr (1, [.ref r, .ref q, .int (iI ((giveOne sh 6 (giveTo (fun m => (iter (shStep sh) r9 S).1 * sh m / ssumN sh (iter (shStep sh) r9 S).2.1 6) 6 (iter (shStep sh) r9 S))).1))])), (r, .inl (k4 0, 6, .inl (fun i9 => iI ((giveOne sh 6 (giveTo (fun m => (iter (shStep sh) r9 S).1 * sh m / ssumN sh (iter (shStep sh) r9 S).2.1 6) 6 (iter (shStep sh) r9 S))).2.1 i9)))), (q, .inl (k4 0, 6, .inl (fun i9 => iI ((giveOne sh 6 (giveTo (fun m => (iter (shStep sh) r9 S).1 * sh m / ssumN sh (iter (shStep sh) r9 S).2.1 6) 6 (iter (shStep sh) r9 S))).2.2 i9)))), (rs, .inl (k4 0, 6, .inl (fun i9 => iI (sh i9))))] H locs := G
                    rw [← e9] at G
                    refine z_iinc E [(2, .int (iI (((r9 : Nat) : Int) + 1))), (0, .ref h), (1, .ref rs), (3, .int (iI (ssumN sh (iter (shStep sh) r9 S).2.1 6))), (4, .int (iI ((iter (shStep sh) r9 S).1))), (5, .int (iI (((6 : Nat) : Int))))] dX1_shareByShares_80 hl (k := 2) rfl (by decide) rfl (fun ls hl => ?_)
                    refine z_goto (tgt := 2) E dX1_shareByShares_83 (by decide) ?_
                    exact ih2_1 (r9 + 1) _ _ _ (by omega) (by omega) G (lv_sub hl [1, 2, 0] rfl)
                · skip
                  refine z_aload_n E hl 0 rfl dX1_shareByShares_43 rfl ?_
                  refine z_iload E hl 5 rfl dX1_shareByShares_44 ?_
                  refine z_iload E hl 4 rfl dX1_shareByShares_46 ?_
                  refine z_aload_n E hl 1 rfl dX1_shareByShares_48 rfl ?_
                  refine z_iload E hl 5 rfl dX1_shareByShares_49 ?_
                  refine z_callSN E G hl.1 (c_X4_at l D k4 rs 6 sh j (by omega) (by decide)) kSN_X1_18 ⟨rfl, rfl, Nat.le_of_ble_eq_true rfl, Nat.le_of_ble_eq_true rfl⟩ [3] rfl (by decide) rfl rfl (Nat.le_of_ble_eq_true rfl) dX1_shareByShares_51 ⟨by first | exact Nat.le_of_ble_eq_true rfl | omega, by first | exact Nat.le_of_ble_eq_true rfl | omega⟩ (fun v9 w9 H locs hq G => ?_)
                  obtain ⟨rfl, rfl⟩ := hq
                  refine W.eq (g2 := F0 mm 54 ls [.int (iI (sh j)), .int (iI ((iter (shStep sh) r9 S).1)), .int (iI (((j : Nat) : Int))), .ref h]) rfl ?_
                  have G : zG D AA ss.heap [(h, .inr (1, [.ref r, .ref q, .int (iI ((giveTo (fun m => (iter (shStep sh) r9 S).1 * sh m / ssumN sh (iter (shStep sh) r9 S).2.1 6) j (iter (shStep sh) r9 S)).1))])), (r, .inl (k4 0, 6, .inl (fun i9 => iI ((giveTo (fun m => (iter (shStep sh) r9 S).1 * sh m / ssumN sh (iter (shStep sh) r9 S).2.1 6) j (iter (shStep sh) r9 S)).2.1 i9)))), (q, .inl (k4 0, 6, .inl (fun i9 => iI ((giveTo (fun m => (iter (shStep sh) r9 S).1 * sh m / ssumN sh (iter (shStep sh) r9 S).2.1 6) j (iter (shStep sh) r9 S)).2.2 i9)))), (rs, .inl (k4 0, 6, .inl (fun i9 => iI (sh i9))))] H locs := G
                  have b6 := hs j (by omega)
                  have b7 := mulB b1.1 b1.2 b6.1 b6.2
                  refine z_imul E dX1_shareByShares_54 ?_
                  refine z_iload_n E hl 3 rfl dX1_shareByShares_55 rfl ?_
                  refine z_idiv E dX1_shareByShares_56 ⟨b7.1, by omega⟩ ⟨by omega, by omega⟩ ?_
                  have b8 := divB (a := (iter (shStep sh) r9 S).1 * sh j) (b := ssumN sh (iter (shStep sh) r9 S).2.1 6) b7.1 (by omega)
                  refine z_callV E G hl.1 (c_X1_give l D k4 h r q ((giveTo (fun m => (iter (shStep sh) r9 S).1 * sh m / ssumN sh (iter (shStep sh) r9 S).2.1 6) j (iter (shStep sh) r9 S))) j ((iter (shStep sh) r9 S).1 * sh j / ssumN sh (iter (shStep sh) r9 S).2.1 6) b5 (by omega) ⟨b8.1, by omega⟩) kV_X1_69 ⟨rfl, rfl, Nat.le_of_ble_eq_true rfl, Nat.le_of_ble_eq_true rfl⟩ [0, 1, 2] rfl (by decide) 0 1 rfl rfl rfl rfl rfl (Nat.le_of_ble_eq_true rfl) dX1_shareByShares_57 ⟨by first | exact Nat.le_of_ble_eq_true rfl | omega, by first | exact Nat.le_of_ble_eq_true rfl | omega⟩ (fun v9 w9 H locs hq G => ?_)
                  obtain ⟨rfl, rfl⟩ := hq
                  refine W.eq (g2 := F0 mm 60 ls []) rfl ?_
                  have G : zG D AA ss.heap [(h, .inr (1, [.ref r, .ref q, .int (iI ((giveS j ((iter (shStep sh) r9 S).1 * sh j / ssumN sh (iter (shStep sh) r9 S).2.1 6) (giveTo (fun m => (iter (shStep sh) r9 S).1 * sh m / ssumN sh (iter (shStep sh) r9 S).2.1 6) j (iter (shStep sh) r9 S))).1))])), (r, .inl (k4 0, 6, .inl (fun i9 => iI ((giveS j ((iter (shStep sh) r9 S).1 * sh j / ssumN sh (iter (shStep sh) r9 S).2.1 6) (giveTo (fun m => (iter (shStep sh) r9 S).1 * sh m / ssumN sh (iter (shStep sh) r9 S).2.1 6) j (iter (shStep sh) r9 S))).2.1 i9)))), (q, .inl (k4 0, 6, .inl (fun i9 => iI ((giveS j ((iter (shStep sh) r9 S).1 * sh j / ssumN sh (iter (shStep sh) r9 S).2.1 6) (giveTo (fun m => (iter (shStep sh) r9 S).1 * sh m / ssumN sh (iter (shStep sh) r9 S).2.1 6) j (iter (shStep sh) r9 S))).2.2 i9)))), (rs, .inl (k4 0, 6, .inl (fun i9 => iI (sh i9))))] H locs := G
                  refine z_iinc E [(5, .int (iI (((j : Nat) : Int) + 1))), (0, .ref h), (1, .ref rs), (2, .int (iI (((r9 : Nat) : Int)))), (3, .int (iI (ssumN sh (iter (shStep sh) r9 S).2.1 6))), (4, .int (iI ((iter (shStep sh) r9 S).1)))] dX1_shareByShares_60 hl (k := 5) rfl (by decide) rfl (fun ls hl => ?_)
                  refine z_goto (tgt := 36) E dX1_shareByShares_63 (by decide) ?_
                  exact ih36_2 (j + 1) _ _ _ (by omega) (by omega) G (lv_sub hl [1, 2, 3, 4, 5, 0] rfl)
            exact hp36_2 7 0 _ _ _ (by decide) (by decide) G (lv_sub hl [3, 4, 5, 2, 1, 0] rfl)
          · skip
            have e9 : shS sh S = iter (shStep sh) r9 S := iter_end (by rw [NR_eq]; exact hr9) (shStep_fix hs b0 (Or.inr (by omega)))
            rw [← e9] at G
            exact z_vret (w' := [(h, .inr (1, [.ref r, .ref q, .int (iI ((shS sh S).1))])), (r, .inl (k4 0, 6, .inl (fun i9 => iI ((shS sh S).2.1 i9)))), (q, .inl (k4 0, 6, .inl (fun i9 => iI ((shS sh S).2.2 i9)))), (rs, .inl (k4 0, 6, .inl (fun i9 => iI (sh i9))))]) E hr hlocks G dX1_shareByShares_26 (by omega) (by omega) (zx0 rfl) ⟨rfl, rfl⟩
  exact hp2_1 1001 0 _ _ _ (by decide) (by decide) G (lv_sub hl [1, 2, 0] rfl)

def q_c_X1_shareByRoom (k4 : Nat → ClassId) (h r q : Nat) (S : sS) : Option Value → va_W → Prop := (fun (v9 : Option Value) (w9 : va_W) => v9 = none ∧ w9 = [(h, .inr (1, [.ref r, .ref q, .int (iI ((roomS S).1))])), (r, .inl (k4 0, 6, .inl (fun i9 => iI ((roomS S).2.1 i9)))), (q, .inl (k4 0, 6, .inl (fun i9 => iI ((roomS S).2.2 i9))))])
set_option maxHeartbeats 4000000 in
set_option maxRecDepth 100000 in
theorem c_X1_shareByRoom (l : Launch) (D : va_G) (k4 : Nat → ClassId) (h r q : Nat) (S : sS) (hS : sOK S) : zC l yX1_shareByRoom (zW yX1_shareByRoom cX1_shareByRoom 4 none) ({ frames := 3, cells := 0, slots := 0, locals := 59 } : Room) D k4 [.ref h] [(h, .inr (1, [.ref r, .ref q, .int (iI (S.1))])), (r, .inl (k4 0, 6, .inl (fun i9 => iI (S.2.1 i9)))), (q, .inl (k4 0, 6, .inl (fun i9 => iI (S.2.2 i9))))] (0) (0) (q_c_X1_shareByRoom k4 h r q S) := by
  refine zC_of (cc := cX1_shareByRoom) (by decide) (Nat.le_of_ble_eq_true rfl) (fun pp ee ss mm bl me co AA H locs ls E hr hlocks hin G hl => ?_)
  have hl : lv_has ls 4 [(0, .ref h)] := hl
  have b1 := hS.1
  have b3 := sumN_b (F := S.2.1) (B := 5000) 6 hS.2
  refine z_aload_n E hl 0 rfl dX1_shareByRoom_0 rfl ?_
  refine kg_X1_26 E G 0 rfl rfl dX1_shareByRoom_1 ?_
  refine z_istore_n E [(1, .int (iI (S.1))), (0, .ref h)] dX1_shareByRoom_4 rfl hl (by decide) rfl (fun ls hl => ?_)
  refine z_aload_n E hl 1 rfl dX1_shareByRoom_5 rfl ?_
  refine z_callV E G hl.1 (c_X1_sumOfRooms l D k4 h r q S ) kV_X1_76 ⟨rfl, rfl, Nat.le_of_ble_eq_true rfl, Nat.le_of_ble_eq_true rfl⟩ [0, 1, 2] rfl (by decide) 0 1 rfl rfl rfl rfl rfl (Nat.le_of_ble_eq_true rfl) dX1_shareByRoom_6 ⟨by first | exact Nat.le_of_ble_eq_true rfl | omega, by first | exact Nat.le_of_ble_eq_true rfl | omega⟩ (fun v9 w9 H locs hq G => ?_)
  obtain ⟨rfl, rfl⟩ := hq
  refine W.eq (g2 := F0 mm 9 ls [.int (iI (sumN S.2.1 6))]) rfl ?_
  have G : zG D AA ss.heap [(h, .inr (1, [.ref r, .ref q, .int (iI (S.1))])), (r, .inl (k4 0, 6, .inl (fun i9 => iI (S.2.1 i9)))), (q, .inl (k4 0, 6, .inl (fun i9 => iI (S.2.2 i9))))] H locs := G
  refine z_istore_n E [(2, .int (iI (sumN S.2.1 6))), (1, .int (iI (S.1))), (0, .ref h)] dX1_shareByRoom_9 rfl hl (by decide) rfl (fun ls hl => ?_)
  refine z_iload_n E hl 0 rfl dX1_shareByRoom_10 rfl ?_
  refine z_if_gt (tgt := 15) E dX1_shareByRoom_11 (by decide) ⟨by omega, by omega⟩ (fun c_11 => ?_) (fun c_11 => ?_)
  · skip
    refine z_iconst E dX1_shareByRoom_15 ?_
    refine z_istore_n E [(3, .int (iI (0))), (2, .int (iI (sumN S.2.1 6))), (1, .int (iI (S.1))), (0, .ref h)] dX1_shareByRoom_16 rfl hl (by decide) rfl (fun ls hl => ?_)
    have hp17_1 : ∀ (n9 : Nat) (j : Nat) (H : Heap) (locs : List Loc) (ls : Array Slot), (6 - j < n9) → (j ≤ 6) → zG D AA ss.heap [(h, .inr (1, [.ref r, .ref q, .int (iI ((giveTo (fun m => S.1 * S.2.1 m / sumN S.2.1 6) j S).1))])), (r, .inl (k4 0, 6, .inl (fun i9 => iI ((giveTo (fun m => S.1 * S.2.1 m / sumN S.2.1 6) j S).2.1 i9)))), (q, .inl (k4 0, 6, .inl (fun i9 => iI ((giveTo (fun m => S.1 * S.2.1 m / sumN S.2.1 6) j S).2.2 i9))))] H locs → lv_has ls 4 [(0, .ref h), (1, .int (iI (S.1))), (2, .int (iI (sumN S.2.1 6))), (3, .int (iI (((j : Nat) : Int))))] → W pp l ee ({ frames := 3, cells := 0, slots := 0, locals := 59 } : Room) ss mm ([.ref h] : List Value).toArray bl me co H locs (0) (0) (MQ bl (zQ D [(h, .inr (1, [.ref r, .ref q, .int (iI (S.1))])), (r, .inl (k4 0, 6, .inl (fun i9 => iI (S.2.1 i9)))), (q, .inl (k4 0, 6, .inl (fun i9 => iI (S.2.2 i9))))] AA (q_c_X1_shareByRoom k4 h r q S)) ([.ref h] : List Value).toArray ss (0) (0) AA) (F0 mm 17 ls []) := by
      intro n9
      induction n9 with
      | zero => intro j H locs ls hn9 hj G hl; exact absurd hn9 (by omega)
      | succ n9 ih =>
        intro j H locs ls hn9 hj G hl
        have ih17_1 := @ih
        have f0 : ∀ k, k < 6 → 0 ≤ (fun m => S.1 * S.2.1 m / sumN S.2.1 6) k := fun k hk => divN (Int.mul_nonneg b1.1 (hS.2 k hk).1) (by omega)
        have b5 : sOK (giveTo (fun m => S.1 * S.2.1 m / sumN S.2.1 6) j S) := giveTo_ok hS j hj (fun k hk => f0 k (by omega))
        refine z_iload_n E hl 3 rfl dX1_shareByRoom_17 rfl ?_
        refine z_bipush E dX1_shareByRoom_18 (by decide) ?_
        refine z_icmp_ge (tgt := 46) E dX1_shareByRoom_20 (by decide) ⟨by omega, by omega⟩ (by decide) (fun c_20 => ?_) (fun c_20 => ?_)
        · skip
          obtain rfl : j = 6 := by omega
          refine z_aload_n E hl 0 rfl dX1_shareByRoom_46 rfl ?_
          refine z_iconst E dX1_shareByRoom_47 ?_
          refine z_callV E G hl.1 (c_X1_giveEach l D k4 h r q ((giveTo (fun m => S.1 * S.2.1 m / sumN S.2.1 6) 6 S)) 1 b5 (by decide)) kV_X1_61 ⟨rfl, rfl, Nat.le_of_ble_eq_true rfl, Nat.le_of_ble_eq_true rfl⟩ [0, 1, 2] rfl (by decide) 0 1 rfl rfl rfl rfl rfl (Nat.le_of_ble_eq_true rfl) dX1_shareByRoom_48 ⟨by first | exact Nat.le_of_ble_eq_true rfl | omega, by first | exact Nat.le_of_ble_eq_true rfl | omega⟩ (fun v9 w9 H locs hq G => ?_)
          obtain ⟨rfl, rfl⟩ := hq
          refine W.eq (g2 := F0 mm 51 ls []) rfl ?_
          have G : zG D AA ss.heap [(h, .inr (1, [.ref r, .ref q, .int (iI ((giveTo (fun _ => 1) 6 (giveTo (fun m => S.1 * S.2.1 m / sumN S.2.1 6) 6 S)).1))])), (r, .inl (k4 0, 6, .inl (fun i9 => iI ((giveTo (fun _ => 1) 6 (giveTo (fun m => S.1 * S.2.1 m / sumN S.2.1 6) 6 S)).2.1 i9)))), (q, .inl (k4 0, 6, .inl (fun i9 => iI ((giveTo (fun _ => 1) 6 (giveTo (fun m => S.1 * S.2.1 m / sumN S.2.1 6) 6 S)).2.2 i9))))] H locs := G
          exact z_vret (w' := [(h, .inr (1, [.ref r, .ref q, .int (iI ((giveTo (fun _ => 1) 6 (giveTo (fun m => S.1 * S.2.1 m / sumN S.2.1 6) 6 S)).1))])), (r, .inl (k4 0, 6, .inl (fun i9 => iI ((giveTo (fun _ => 1) 6 (giveTo (fun m => S.1 * S.2.1 m / sumN S.2.1 6) 6 S)).2.1 i9)))), (q, .inl (k4 0, 6, .inl (fun i9 => iI ((giveTo (fun _ => 1) 6 (giveTo (fun m => S.1 * S.2.1 m / sumN S.2.1 6) 6 S)).2.2 i9))))]) E hr hlocks G dX1_shareByRoom_51 (by omega) (by omega) (zx0 rfl) ⟨rfl, rfl⟩
        · skip
          refine z_aload_n E hl 0 rfl dX1_shareByRoom_23 rfl ?_
          refine z_iload_n E hl 3 rfl dX1_shareByRoom_24 rfl ?_
          refine z_iload_n E hl 1 rfl dX1_shareByRoom_25 rfl ?_
          refine z_aload_n E hl 0 rfl dX1_shareByRoom_26 rfl ?_
          refine kg_X1_9 E G 0 rfl rfl dX1_shareByRoom_27 ?_
          refine z_iload_n E hl 3 rfl dX1_shareByRoom_30 rfl ?_
          refine z_callSN E G hl.1 (c_X4_at l D k4 r 6 ((giveTo (fun m => S.1 * S.2.1 m / sumN S.2.1 6) j S).2.1) j (by omega) (by decide)) kSN_X1_18 ⟨rfl, rfl, Nat.le_of_ble_eq_true rfl, Nat.le_of_ble_eq_true rfl⟩ [1] rfl (by decide) rfl rfl (Nat.le_of_ble_eq_true rfl) dX1_shareByRoom_31 ⟨by first | exact Nat.le_of_ble_eq_true rfl | omega, by first | exact Nat.le_of_ble_eq_true rfl | omega⟩ (fun v9 w9 H locs hq G => ?_)
          obtain ⟨rfl, rfl⟩ := hq
          refine W.eq (g2 := F0 mm 34 ls [.int (iI (((giveTo (fun m => S.1 * S.2.1 m / sumN S.2.1 6) j S).2.1) j)), .int (iI (S.1)), .int (iI (((j : Nat) : Int))), .ref h]) rfl ?_
          have G : zG D AA ss.heap [(h, .inr (1, [.ref r, .ref q, .int (iI ((giveTo (fun m => S.1 * S.2.1 m / sumN S.2.1 6) j S).1))])), (r, .inl (k4 0, 6, .inl (fun i9 => iI (((giveTo (fun m => S.1 * S.2.1 m / sumN S.2.1 6) j S).2.1) i9)))), (q, .inl (k4 0, 6, .inl (fun i9 => iI ((giveTo (fun m => S.1 * S.2.1 m / sumN S.2.1 6) j S).2.2 i9))))] H locs := G
          refine z_eq (y := S.2.1 j) (giveTo_room j j (Nat.le_refl j)) ?_
          have b6 := hS.2 j (by omega)
          have b7 := mulB b1.1 b1.2 b6.1 b6.2
          refine z_imul E dX1_shareByRoom_34 ?_
          refine z_iload_n E hl 2 rfl dX1_shareByRoom_35 rfl ?_
          refine z_idiv E dX1_shareByRoom_36 ⟨b7.1, by omega⟩ ⟨by omega, by omega⟩ ?_
          have b8 := divB (a := S.1 * S.2.1 j) (b := sumN S.2.1 6) b7.1 (by omega)
          refine z_callV E G hl.1 (c_X1_give l D k4 h r q ((giveTo (fun m => S.1 * S.2.1 m / sumN S.2.1 6) j S)) j (S.1 * S.2.1 j / sumN S.2.1 6) b5 (by omega) ⟨b8.1, by omega⟩) kV_X1_69 ⟨rfl, rfl, Nat.le_of_ble_eq_true rfl, Nat.le_of_ble_eq_true rfl⟩ [0, 1, 2] rfl (by decide) 0 1 rfl rfl rfl rfl rfl (Nat.le_of_ble_eq_true rfl) dX1_shareByRoom_37 ⟨by first | exact Nat.le_of_ble_eq_true rfl | omega, by first | exact Nat.le_of_ble_eq_true rfl | omega⟩ (fun v9 w9 H locs hq G => ?_)
          obtain ⟨rfl, rfl⟩ := hq
          refine W.eq (g2 := F0 mm 40 ls []) rfl ?_
          have G : zG D AA ss.heap [(h, .inr (1, [.ref r, .ref q, .int (iI ((giveS j (S.1 * S.2.1 j / sumN S.2.1 6) (giveTo (fun m => S.1 * S.2.1 m / sumN S.2.1 6) j S)).1))])), (r, .inl (k4 0, 6, .inl (fun i9 => iI ((giveS j (S.1 * S.2.1 j / sumN S.2.1 6) (giveTo (fun m => S.1 * S.2.1 m / sumN S.2.1 6) j S)).2.1 i9)))), (q, .inl (k4 0, 6, .inl (fun i9 => iI ((giveS j (S.1 * S.2.1 j / sumN S.2.1 6) (giveTo (fun m => S.1 * S.2.1 m / sumN S.2.1 6) j S)).2.2 i9))))] H locs := G
          refine z_iinc E [(3, .int (iI (((j : Nat) : Int) + 1))), (0, .ref h), (1, .int (iI (S.1))), (2, .int (iI (sumN S.2.1 6)))] dX1_shareByRoom_40 hl (k := 3) rfl (by decide) rfl (fun ls hl => ?_)
          refine z_goto (tgt := 17) E dX1_shareByRoom_43 (by decide) ?_
          exact ih17_1 (j + 1) _ _ _ (by omega) (by omega) G (lv_sub hl [1, 2, 3, 0] rfl)
    exact hp17_1 7 0 _ _ _ (by decide) (by decide) G (lv_sub hl [3, 2, 1, 0] rfl)
  · skip
    have e9 : roomS S = S := roomS_fix hS (by omega)
    exact z_vret (w' := [(h, .inr (1, [.ref r, .ref q, .int (iI ((roomS S).1))])), (r, .inl (k4 0, 6, .inl (fun i9 => iI ((roomS S).2.1 i9)))), (q, .inl (k4 0, 6, .inl (fun i9 => iI ((roomS S).2.2 i9))))]) E hr hlocks (by rw [e9]; exact G) dX1_shareByRoom_14 (by omega) (by omega) (zx0 rfl) ⟨rfl, rfl⟩

def q_c_X1_nextPlace (k4 : Nat → ClassId) (rs : Nat) (rk : Nat → Int) (last : Int) : Option Value → va_W → Prop := (fun (v9 : Option Value) (w9 : va_W) => v9 = some (.int (iI (npTo rk last 6))) ∧ w9 = [(rs, .inl (k4 0, 6, .inl (fun i9 => iI (rk i9))))])
set_option maxHeartbeats 4000000 in
set_option maxRecDepth 100000 in
theorem c_X1_nextPlace (l : Launch) (D : va_G) (k4 : Nat → ClassId) (rs : Nat) (rk : Nat → Int) (last : Int) (hk9 : ∀ k, k < 6 → 0 ≤ rk k ∧ rk k ≤ 99) (hla : -1 ≤ last ∧ last ≤ 600) : zC l yX1_nextPlace (zW yX1_nextPlace cX1_nextPlace 5 (some .int)) ({ frames := 1, cells := 0, slots := 0, locals := 21 } : Room) D k4 [.ref rs, .int (iI (last))] [(rs, .inl (k4 0, 6, .inl (fun i9 => iI (rk i9))))] (0) (0) (q_c_X1_nextPlace k4 rs rk last) := by
  refine zC_of (cc := cX1_nextPlace) (by decide) (Nat.le_of_ble_eq_true rfl) (fun pp ee ss mm bl me co AA H locs ls E hr hlocks hin G hl => ?_)
  have hl : lv_has ls 5 [(0, .ref rs), (1, .int (iI (last)))] := hl
  refine z_sipush E dX1_nextPlace_0 (by decide) ?_
  refine z_istore_n E [(2, .int (iI (600))), (0, .ref rs), (1, .int (iI (last)))] dX1_nextPlace_3 rfl hl (by decide) rfl (fun ls hl => ?_)
  refine z_iconst E dX1_nextPlace_4 ?_
  refine z_istore_n E [(3, .int (iI (0))), (2, .int (iI (600))), (0, .ref rs), (1, .int (iI (last)))] dX1_nextPlace_5 rfl hl (by decide) rfl (fun ls hl => ?_)
  have hp6_1 : ∀ (n9 : Nat) (j : Nat) (H : Heap) (locs : List Loc) (ls : Array Slot), (6 - j < n9) → (j ≤ 6) → zG D AA ss.heap [(rs, .inl (k4 0, 6, .inl (fun i9 => iI (rk i9))))] H locs → lv_has ls 5 [(0, .ref rs), (1, .int (iI (last))), (2, .int (iI (npTo rk last j))), (3, .int (iI (((j : Nat) : Int))))] → W pp l ee ({ frames := 1, cells := 0, slots := 0, locals := 21 } : Room) ss mm ([.ref rs, .int (iI (last))] : List Value).toArray bl me co H locs (0) (0) (MQ bl (zQ D [(rs, .inl (k4 0, 6, .inl (fun i9 => iI (rk i9))))] AA (q_c_X1_nextPlace k4 rs rk last)) ([.ref rs, .int (iI (last))] : List Value).toArray ss (0) (0) AA) (F0 mm 6 ls []) := by
    intro n9
    induction n9 with
    | zero => intro j H locs ls hn9 hj G hl; exact absurd hn9 (by omega)
    | succ n9 ih =>
      intro j H locs ls hn9 hj G hl
      have ih6_1 := @ih
      have b2 := npTo_b hk9 hla.1 j hj
      refine z_iload_n E hl 3 rfl dX1_nextPlace_6 rfl ?_
      refine z_bipush E dX1_nextPlace_7 (by decide) ?_
      refine z_icmp_ge (tgt := 45) E dX1_nextPlace_9 (by decide) ⟨by omega, by omega⟩ (by decide) (fun c_9 => ?_) (fun c_9 => ?_)
      · skip
        obtain rfl : j = 6 := by omega
        refine z_iload_n E hl 2 rfl dX1_nextPlace_45 rfl ?_
        exact z_iret (w' := [(rs, .inl (k4 0, 6, .inl (fun i9 => iI (rk i9))))]) (v := npTo rk last 6) E hr hlocks G dX1_nextPlace_46 (by omega) (by omega) (zx0 rfl) ⟨rfl, rfl⟩
      · skip
        refine z_aload_n E hl 0 rfl dX1_nextPlace_12 rfl ?_
        refine z_iload_n E hl 3 rfl dX1_nextPlace_13 rfl ?_
        refine z_callSN E G hl.1 (c_X4_at l D k4 rs 6 rk j (by omega) (by decide)) kSN_X1_18 ⟨rfl, rfl, Nat.le_of_ble_eq_true rfl, Nat.le_of_ble_eq_true rfl⟩ [0] rfl (by decide) rfl rfl (Nat.le_of_ble_eq_true rfl) dX1_nextPlace_14 ⟨by first | exact Nat.le_of_ble_eq_true rfl | omega, by first | exact Nat.le_of_ble_eq_true rfl | omega⟩ (fun v9 w9 H locs hq G => ?_)
        obtain ⟨rfl, rfl⟩ := hq
        refine W.eq (g2 := F0 mm 17 ls [.int (iI (rk j))]) rfl ?_
        have G : zG D AA ss.heap [(rs, .inl (k4 0, 6, .inl (fun i9 => iI (rk i9))))] H locs := G
        have b3 := hk9 j (by omega)
        refine z_bipush E dX1_nextPlace_17 (by decide) ?_
        refine z_imul E dX1_nextPlace_19 ?_
        refine z_iload_n E hl 3 rfl dX1_nextPlace_20 rfl ?_
        refine z_iadd E dX1_nextPlace_21 ?_
        refine z_istore E [(4, .int (iI (((rk j) * (6)) + (((j : Nat) : Int))))), (0, .ref rs), (1, .int (iI (last))), (2, .int (iI (npTo rk last j))), (3, .int (iI (((j : Nat) : Int))))] dX1_nextPlace_22 hl (by decide) rfl (fun ls hl => ?_)
        refine z_iload E hl 0 rfl dX1_nextPlace_24 ?_
        refine z_iload_n E hl 2 rfl dX1_nextPlace_26 rfl ?_
        refine z_icmp_le (tgt := 39) E dX1_nextPlace_27 (by decide) ⟨by omega, by omega⟩ ⟨by omega, by omega⟩ (fun c_27 => ?_) (fun c_27 => ?_)
        · skip
          have e9 : npTo rk last j = npTo rk last (j + 1) := by show _ = (if _ ∧ _ then _ else _); rw [if_neg (by omega)]
          rw [e9] at hl
          have hl : lv_has ls 5 [(4, .int (iI (((rk j) * (6)) + (((j : Nat) : Int))))), (0, .ref rs), (1, .int (iI (last))), (2, .int (iI (npTo rk last (j + 1)))), (3, .int (iI (((j : Nat) : Int))))] := hl
          refine z_iinc E [(3, .int (iI (((j : Nat) : Int) + 1))), (4, .int (iI (((rk j) * (6)) + (((j : Nat) : Int))))), (0, .ref rs), (1, .int (iI (last))), (2, .int (iI (npTo rk last (j + 1))))] dX1_nextPlace_39 hl (k := 4) rfl (by decide) rfl (fun ls hl => ?_)
          refine z_goto (tgt := 6) E dX1_nextPlace_42 (by decide) ?_
          exact ih6_1 (j + 1) _ _ _ (by omega) (by omega) G (lv_sub hl [2, 3, 4, 0] rfl)
        · skip
          refine z_iload E hl 0 rfl dX1_nextPlace_30 ?_
          refine z_iload_n E hl 3 rfl dX1_nextPlace_32 rfl ?_
          refine z_icmp_ge (tgt := 39) E dX1_nextPlace_33 (by decide) ⟨by omega, by omega⟩ ⟨by omega, by omega⟩ (fun c_33 => ?_) (fun c_33 => ?_)
          · skip
            have e9 : npTo rk last j = npTo rk last (j + 1) := by show _ = (if _ ∧ _ then _ else _); rw [if_neg (by omega)]
            rw [e9] at hl
            have hl : lv_has ls 5 [(4, .int (iI (((rk j) * (6)) + (((j : Nat) : Int))))), (0, .ref rs), (1, .int (iI (last))), (2, .int (iI (npTo rk last (j + 1)))), (3, .int (iI (((j : Nat) : Int))))] := hl
            refine z_iinc E [(3, .int (iI (((j : Nat) : Int) + 1))), (4, .int (iI (((rk j) * (6)) + (((j : Nat) : Int))))), (0, .ref rs), (1, .int (iI (last))), (2, .int (iI (npTo rk last (j + 1))))] dX1_nextPlace_39 hl (k := 4) rfl (by decide) rfl (fun ls hl => ?_)
            refine z_goto (tgt := 6) E dX1_nextPlace_42 (by decide) ?_
            exact ih6_1 (j + 1) _ _ _ (by omega) (by omega) G (lv_sub hl [2, 3, 4, 0] rfl)
          · skip
            have e9 : rk j * 6 + ((j : Nat) : Int) = npTo rk last (j + 1) := by show _ = (if _ ∧ _ then _ else _); rw [if_pos (by omega)]
            refine z_iload E hl 0 rfl dX1_nextPlace_36 ?_
            refine z_eq (y := npTo rk last (j + 1)) e9 ?_
            refine z_istore_n E [(2, .int (iI (npTo rk last (j + 1)))), (4, .int (iI (((rk j) * (6)) + (((j : Nat) : Int))))), (0, .ref rs), (1, .int (iI (last))), (3, .int (iI (((j : Nat) : Int))))] dX1_nextPlace_38 rfl hl (by decide) rfl (fun ls hl => ?_)
            refine z_iinc E [(3, .int (iI (((j : Nat) : Int) + 1))), (2, .int (iI (npTo rk last (j + 1)))), (4, .int (iI (((rk j) * (6)) + (((j : Nat) : Int))))), (0, .ref rs), (1, .int (iI (last)))] dX1_nextPlace_39 hl (k := 4) rfl (by decide) rfl (fun ls hl => ?_)
            refine z_goto (tgt := 6) E dX1_nextPlace_42 (by decide) ?_
            exact ih6_1 (j + 1) _ _ _ (by omega) (by omega) G (lv_sub hl [3, 4, 1, 0] rfl)
  exact hp6_1 7 0 _ _ _ (by decide) (by decide) G (lv_sub hl [2, 3, 1, 0] rfl)

def q_c_X1_shareByRank (k4 : Nat → ClassId) (h r q : Nat) (S : sS) (rs : Nat) (rk : Nat → Int) : Option Value → va_W → Prop := (fun (v9 : Option Value) (w9 : va_W) => v9 = none ∧ w9 = [(h, .inr (1, [.ref r, .ref q, .int (iI ((rankS rk S).1))])), (r, .inl (k4 0, 6, .inl (fun i9 => iI ((rankS rk S).2.1 i9)))), (q, .inl (k4 0, 6, .inl (fun i9 => iI ((rankS rk S).2.2 i9)))), (rs, .inl (k4 0, 6, .inl (fun i9 => iI (rk i9))))])
set_option maxHeartbeats 4000000 in
set_option maxRecDepth 100000 in
theorem c_X1_shareByRank (l : Launch) (D : va_G) (k4 : Nat → ClassId) (h r q : Nat) (S : sS) (rs : Nat) (rk : Nat → Int) (hS : sOK S) (hk9 : ∀ k, k < 6 → 0 ≤ rk k ∧ rk k ≤ 99) : zC l yX1_shareByRank (zW yX1_shareByRank cX1_shareByRank 4 none) ({ frames := 2, cells := 0, slots := 0, locals := 45 } : Room) D k4 [.ref h, .ref rs] [(h, .inr (1, [.ref r, .ref q, .int (iI (S.1))])), (r, .inl (k4 0, 6, .inl (fun i9 => iI (S.2.1 i9)))), (q, .inl (k4 0, 6, .inl (fun i9 => iI (S.2.2 i9)))), (rs, .inl (k4 0, 6, .inl (fun i9 => iI (rk i9))))] (0) (0) (q_c_X1_shareByRank k4 h r q S rs rk) := by
  refine zC_of (cc := cX1_shareByRank) (by decide) (Nat.le_of_ble_eq_true rfl) (fun pp ee ss mm bl me co AA H locs ls E hr hlocks hin G hl => ?_)
  have hl : lv_has ls 4 [(0, .ref h), (1, .ref rs)] := hl
  refine z_iconst E dX1_shareByRank_0 ?_
  refine z_istore_n E [(2, .int (iI ((-1)))), (0, .ref h), (1, .ref rs)] dX1_shareByRank_1 rfl hl (by decide) rfl (fun ls hl => ?_)
  refine z_iconst E dX1_shareByRank_2 ?_
  refine z_istore_n E [(3, .int (iI (0))), (2, .int (iI ((-1)))), (0, .ref h), (1, .ref rs)] dX1_shareByRank_3 rfl hl (by decide) rfl (fun ls hl => ?_)
  have hp4_1 : ∀ (n9 : Nat) (j : Nat) (H : Heap) (locs : List Loc) (ls : Array Slot), (6 - j < n9) → (j ≤ 6) → zG D AA ss.heap [(h, .inr (1, [.ref r, .ref q, .int (iI ((iter (rkStep rk) j (-1, S)).2.1))])), (r, .inl (k4 0, 6, .inl (fun i9 => iI ((iter (rkStep rk) j (-1, S)).2.2.1 i9)))), (q, .inl (k4 0, 6, .inl (fun i9 => iI ((iter (rkStep rk) j (-1, S)).2.2.2 i9)))), (rs, .inl (k4 0, 6, .inl (fun i9 => iI (rk i9))))] H locs → lv_has ls 4 [(0, .ref h), (1, .ref rs), (2, .int (iI ((iter (rkStep rk) j (-1, S)).1))), (3, .int (iI (((j : Nat) : Int))))] → W pp l ee ({ frames := 2, cells := 0, slots := 0, locals := 45 } : Room) ss mm ([.ref h, .ref rs] : List Value).toArray bl me co H locs (0) (0) (MQ bl (zQ D [(h, .inr (1, [.ref r, .ref q, .int (iI (S.1))])), (r, .inl (k4 0, 6, .inl (fun i9 => iI (S.2.1 i9)))), (q, .inl (k4 0, 6, .inl (fun i9 => iI (S.2.2 i9)))), (rs, .inl (k4 0, 6, .inl (fun i9 => iI (rk i9))))] AA (q_c_X1_shareByRank k4 h r q S rs rk)) ([.ref h, .ref rs] : List Value).toArray ss (0) (0) AA) (F0 mm 4 ls []) := by
    intro n9
    induction n9 with
    | zero => intro j H locs ls hn9 hj G hl; exact absurd hn9 (by omega)
    | succ n9 ih =>
      intro j H locs ls hn9 hj G hl
      have ih4_1 := @ih
      have b2 := rankS_ok hk9 hS j
      refine z_iload_n E hl 3 rfl dX1_shareByRank_4 rfl ?_
      refine z_bipush E dX1_shareByRank_5 (by decide) ?_
      refine z_icmp_ge (tgt := 34) E dX1_shareByRank_7 (by decide) ⟨by omega, by omega⟩ (by decide) (fun c_7 => ?_) (fun c_7 => ?_)
      · skip
        obtain rfl : j = 6 := by omega
        exact z_vret (w' := [(h, .inr (1, [.ref r, .ref q, .int (iI ((iter (rkStep rk) 6 (-1, S)).2.1))])), (r, .inl (k4 0, 6, .inl (fun i9 => iI ((iter (rkStep rk) 6 (-1, S)).2.2.1 i9)))), (q, .inl (k4 0, 6, .inl (fun i9 => iI ((iter (rkStep rk) 6 (-1, S)).2.2.2 i9)))), (rs, .inl (k4 0, 6, .inl (fun i9 => iI (rk i9))))]) E hr hlocks G dX1_shareByRank_34 (by omega) (by omega) (zx0 rfl) ⟨rfl, rfl⟩
      · skip
        refine z_aload_n E hl 1 rfl dX1_shareByRank_10 rfl ?_
        refine z_iload_n E hl 2 rfl dX1_shareByRank_11 rfl ?_
        refine z_callS E G hl.1 (c_X1_nextPlace l D k4 rs rk ((iter (rkStep rk) j (-1, S)).1) hk9 b2.1) kS_X1_79 ⟨rfl, rfl, Nat.le_of_ble_eq_true rfl, Nat.le_of_ble_eq_true rfl⟩ [3] rfl (by decide) rfl rfl (Nat.le_of_ble_eq_true rfl) dX1_shareByRank_12 ⟨by first | exact Nat.le_of_ble_eq_true rfl | omega, by first | exact Nat.le_of_ble_eq_true rfl | omega⟩ (fun v9 w9 H locs hq G => ?_)
        obtain ⟨rfl, rfl⟩ := hq
        refine W.eq (g2 := F0 mm 15 ls [.int (iI (npTo rk ((iter (rkStep rk) j (-1, S)).1) 6))]) rfl ?_
        have G : zG D AA ss.heap [(h, .inr (1, [.ref r, .ref q, .int (iI ((iter (rkStep rk) j (-1, S)).2.1))])), (r, .inl (k4 0, 6, .inl (fun i9 => iI ((iter (rkStep rk) j (-1, S)).2.2.1 i9)))), (q, .inl (k4 0, 6, .inl (fun i9 => iI ((iter (rkStep rk) j (-1, S)).2.2.2 i9)))), (rs, .inl (k4 0, 6, .inl (fun i9 => iI (rk i9))))] H locs := G
        refine z_istore_n E [(2, .int (iI (npTo rk ((iter (rkStep rk) j (-1, S)).1) 6))), (0, .ref h), (1, .ref rs), (3, .int (iI (((j : Nat) : Int))))] dX1_shareByRank_15 rfl hl (by decide) rfl (fun ls hl => ?_)
        have b3 := npTo_b hk9 b2.1.1 6 (by decide)
        refine z_aload_n E hl 1 rfl dX1_shareByRank_16 rfl ?_
        refine z_iload_n E hl 0 rfl dX1_shareByRank_17 rfl ?_
        refine z_bipush E dX1_shareByRank_18 (by decide) ?_
        refine z_irem E dX1_shareByRank_20 ⟨by omega, by omega⟩ ⟨by omega, by omega⟩ ?_
        refine z_aload_n E hl 1 rfl dX1_shareByRank_21 rfl ?_
        refine kg_X1_26 E G 0 rfl rfl dX1_shareByRank_22 ?_
        have b4 := b2.2.1
        have b5 : npTo rk (iter (rkStep rk) j (-1, S)).1 6 % 6 = (((npTo rk (iter (rkStep rk) j (-1, S)).1 6 % 6).toNat : Nat) : Int) := by omega
        rw [b5]
        refine z_callV E G hl.1 (c_X1_give l D k4 h r q ((iter (rkStep rk) j (-1, S)).2) ((npTo rk (iter (rkStep rk) j (-1, S)).1 6 % 6).toNat) ((iter (rkStep rk) j (-1, S)).2.1) b2.2 (by omega) ⟨b4.1, by omega⟩) kV_X1_69 ⟨rfl, rfl, Nat.le_of_ble_eq_true rfl, Nat.le_of_ble_eq_true rfl⟩ [0, 1, 2] rfl (by decide) 0 1 rfl rfl rfl rfl rfl (Nat.le_of_ble_eq_true rfl) dX1_shareByRank_25 ⟨by first | exact Nat.le_of_ble_eq_true rfl | omega, by first | exact Nat.le_of_ble_eq_true rfl | omega⟩ (fun v9 w9 H locs hq G => ?_)
        obtain ⟨rfl, rfl⟩ := hq
        refine W.eq (g2 := F0 mm 28 ls []) rfl ?_
        have G : zG D AA ss.heap [(h, .inr (1, [.ref r, .ref q, .int (iI ((giveS ((npTo rk (iter (rkStep rk) j (-1, S)).1 6 % 6).toNat) ((iter (rkStep rk) j (-1, S)).2.1) ((iter (rkStep rk) j (-1, S)).2)).1))])), (r, .inl (k4 0, 6, .inl (fun i9 => iI ((giveS ((npTo rk (iter (rkStep rk) j (-1, S)).1 6 % 6).toNat) ((iter (rkStep rk) j (-1, S)).2.1) ((iter (rkStep rk) j (-1, S)).2)).2.1 i9)))), (q, .inl (k4 0, 6, .inl (fun i9 => iI ((giveS ((npTo rk (iter (rkStep rk) j (-1, S)).1 6 % 6).toNat) ((iter (rkStep rk) j (-1, S)).2.1) ((iter (rkStep rk) j (-1, S)).2)).2.2 i9)))), (rs, .inl (k4 0, 6, .inl (fun i9 => iI (rk i9))))] H locs := G
        refine z_iinc E [(3, .int (iI (((j : Nat) : Int) + 1))), (2, .int (iI (npTo rk ((iter (rkStep rk) j (-1, S)).1) 6))), (0, .ref h), (1, .ref rs)] dX1_shareByRank_28 hl (k := 3) rfl (by decide) rfl (fun ls hl => ?_)
        refine z_goto (tgt := 4) E dX1_shareByRank_31 (by decide) ?_
        exact ih4_1 (j + 1) _ _ _ (by omega) (by omega) G (lv_sub hl [2, 3, 1, 0] rfl)
  exact hp4_1 7 0 _ _ _ (by decide) (by decide) G (lv_sub hl [2, 3, 1, 0] rfl)

def q_c_X1_share (k4 : Nat → ClassId) (h r q : Nat) (S : sS) (ht rs rk9 : Nat) (t : Nat → Int) (am ru : Int) : Option Value → va_W → Prop := (fun (v9 : Option Value) (w9 : va_W) => v9 = none ∧ w9 = [(h, .inr (1, [.ref r, .ref q, .int (iI ((shareS ru (fun i => t (7 + i)) (fun i => t (13 + i)) (am, S.2.1, fun _ => 0)).1))])), (r, .inl (k4 0, 6, .inl (fun i9 => iI ((shareS ru (fun i => t (7 + i)) (fun i => t (13 + i)) (am, S.2.1, fun _ => 0)).2.1 i9)))), (q, .inl (k4 0, 6, .inl (fun i9 => iI ((shareS ru (fun i => t (7 + i)) (fun i => t (13 + i)) (am, S.2.1, fun _ => 0)).2.2 i9)))), (ht, .inr (3, [.ref rs, .ref rk9, .int (iI (t 0)), .int (iI (t 1)), .int (iI (t 2)), .int (iI (t 3)), .int (iI (t 4)), .int (iI (t 5)), .int (iI (t 6))])), (rs, .inl (k4 0, 6, .inl (fun i9 => iI ((fun i => t (7 + i)) i9)))), (rk9, .inl (k4 0, 6, .inl (fun i9 => iI ((fun i => t (13 + i)) i9))))])
set_option maxHeartbeats 4000000 in
set_option maxRecDepth 100000 in
theorem c_X1_share (l : Launch) (D : va_G) (k4 : Nat → ClassId) (h r q : Nat) (S : sS) (ht rs rk9 : Nat) (t : Nat → Int) (am ru : Int) (hS : sOK S) (htm : tOK t) (ham : 0 ≤ am ∧ am ≤ 30000) (hru : 0 ≤ ru ∧ ru ≤ 3) : zC l yX1_share (zW yX1_share cX1_share 5 none) ({ frames := 4, cells := 0, slots := 0, locals := 84 } : Room) D k4 [.ref h, .int (iI (am)), .int (iI (ru)), .ref ht] [(h, .inr (1, [.ref r, .ref q, .int (iI (S.1))])), (r, .inl (k4 0, 6, .inl (fun i9 => iI (S.2.1 i9)))), (q, .inl (k4 0, 6, .inl (fun i9 => iI (S.2.2 i9)))), (ht, .inr (3, [.ref rs, .ref rk9, .int (iI (t 0)), .int (iI (t 1)), .int (iI (t 2)), .int (iI (t 3)), .int (iI (t 4)), .int (iI (t 5)), .int (iI (t 6))])), (rs, .inl (k4 0, 6, .inl (fun i9 => iI ((fun i => t (7 + i)) i9)))), (rk9, .inl (k4 0, 6, .inl (fun i9 => iI ((fun i => t (13 + i)) i9))))] (0) (0) (q_c_X1_share k4 h r q S ht rs rk9 t am ru) := by
  refine zC_of (cc := cX1_share) (by decide) (Nat.le_of_ble_eq_true rfl) (fun pp ee ss mm bl me co AA H locs ls E hr hlocks hin G hl => ?_)
  have hl : lv_has ls 5 [(0, .ref h), (1, .int (iI (am))), (2, .int (iI (ru))), (3, .ref ht)] := hl
  refine z_iconst E dX1_share_0 ?_
  refine z_istore E [(4, .int (iI (0))), (0, .ref h), (1, .int (iI (am))), (2, .int (iI (ru))), (3, .ref ht)] dX1_share_1 hl (by decide) rfl (fun ls hl => ?_)
  have hp3_1 : ∀ (n9 : Nat) (j : Nat) (H : Heap) (locs : List Loc) (ls : Array Slot), (6 - j < n9) → (j ≤ 6) → zG D AA ss.heap [(h, .inr (1, [.ref r, .ref q, .int (iI (S.1))])), (r, .inl (k4 0, 6, .inl (fun i9 => iI (S.2.1 i9)))), (q, .inl (k4 0, 6, .inl (fun i9 => iI ((zer S.2.2 j) i9)))), (ht, .inr (3, [.ref rs, .ref rk9, .int (iI (t 0)), .int (iI (t 1)), .int (iI (t 2)), .int (iI (t 3)), .int (iI (t 4)), .int (iI (t 5)), .int (iI (t 6))])), (rs, .inl (k4 0, 6, .inl (fun i9 => iI ((fun i => t (7 + i)) i9)))), (rk9, .inl (k4 0, 6, .inl (fun i9 => iI ((fun i => t (13 + i)) i9))))] H locs → lv_has ls 5 [(0, .ref h), (1, .int (iI (am))), (2, .int (iI (ru))), (3, .ref ht), (4, .int (iI (((j : Nat) : Int))))] → W pp l ee ({ frames := 4, cells := 0, slots := 0, locals := 84 } : Room) ss mm ([.ref h, .int (iI (am)), .int (iI (ru)), .ref ht] : List Value).toArray bl me co H locs (0) (0) (MQ bl (zQ D [(h, .inr (1, [.ref r, .ref q, .int (iI (S.1))])), (r, .inl (k4 0, 6, .inl (fun i9 => iI (S.2.1 i9)))), (q, .inl (k4 0, 6, .inl (fun i9 => iI (S.2.2 i9)))), (ht, .inr (3, [.ref rs, .ref rk9, .int (iI (t 0)), .int (iI (t 1)), .int (iI (t 2)), .int (iI (t 3)), .int (iI (t 4)), .int (iI (t 5)), .int (iI (t 6))])), (rs, .inl (k4 0, 6, .inl (fun i9 => iI ((fun i => t (7 + i)) i9)))), (rk9, .inl (k4 0, 6, .inl (fun i9 => iI ((fun i => t (13 + i)) i9))))] AA (q_c_X1_share k4 h r q S ht rs rk9 t am ru)) ([.ref h, .int (iI (am)), .int (iI (ru)), .ref ht] : List Value).toArray ss (0) (0) AA) (F0 mm 3 ls []) := by
    intro n9
    induction n9 with
    | zero => intro j H locs ls hn9 hj G hl; exact absurd hn9 (by omega)
    | succ n9 ih =>
      intro j H locs ls hn9 hj G hl
      have ih3_1 := @ih
      refine z_iload E hl 4 rfl dX1_share_3 ?_
      refine z_bipush E dX1_share_5 (by decide) ?_
      refine z_icmp_ge (tgt := 26) E dX1_share_7 (by decide) ⟨by omega, by omega⟩ (by decide) (fun c_7 => ?_) (fun c_7 => ?_)
      · skip
        obtain rfl : j = 6 := by omega
        have G := z_ext G 2 rfl (F' := fun _ => 0) (fun k hk => if_pos hk)
        have G : zG D AA ss.heap [(h, .inr (1, [.ref r, .ref q, .int (iI (S.1))])), (r, .inl (k4 0, 6, .inl (fun i9 => iI (S.2.1 i9)))), (q, .inl (k4 0, 6, .inl (fun i9 => iI ((fun _ => 0) i9)))), (ht, .inr (3, [.ref rs, .ref rk9, .int (iI (t 0)), .int (iI (t 1)), .int (iI (t 2)), .int (iI (t 3)), .int (iI (t 4)), .int (iI (t 5)), .int (iI (t 6))])), (rs, .inl (k4 0, 6, .inl (fun i9 => iI ((fun i => t (7 + i)) i9)))), (rk9, .inl (k4 0, 6, .inl (fun i9 => iI ((fun i => t (13 + i)) i9))))] H locs := G
        refine z_aload_n E hl 0 rfl dX1_share_26 rfl ?_
        refine z_iload_n E hl 1 rfl dX1_share_27 rfl ?_
        refine kp_X1_26 E G 0 rfl (Nat.le_of_ble_eq_true rfl) dX1_share_28 (fun H locs G => ?_)
        have G : zG D AA ss.heap [(h, .inr (1, [.ref r, .ref q, .int (iI (am))])), (r, .inl (k4 0, 6, .inl (fun i9 => iI (S.2.1 i9)))), (q, .inl (k4 0, 6, .inl (fun i9 => iI ((fun _ => 0) i9)))), (ht, .inr (3, [.ref rs, .ref rk9, .int (iI (t 0)), .int (iI (t 1)), .int (iI (t 2)), .int (iI (t 3)), .int (iI (t 4)), .int (iI (t 5)), .int (iI (t 6))])), (rs, .inl (k4 0, 6, .inl (fun i9 => iI ((fun i => t (7 + i)) i9)))), (rk9, .inl (k4 0, 6, .inl (fun i9 => iI ((fun i => t (13 + i)) i9))))] H locs := G
        have b0 : sOK (am, S.2.1, fun _ => 0) := ⟨ham, hS.2⟩
        rcases (show ru = 0 ∨ ru = 1 ∨ ru = 2 ∨ ru = 3 by omega) with g9 | g9 | g9 | g9
        · skip
          refine z_iload_n E hl 2 rfl dX1_share_31 rfl ?_
          refine z_tableOut (tgt := 93) E dX1_share_32 ⟨by omega, by omega⟩ (by omega) (by decide) ?_
          refine z_aload_n E hl 0 rfl dX1_share_93 rfl ?_
          refine z_callV E G hl.1 (c_X1_shareEqually l D k4 h r q ((am, S.2.1, fun _ => 0)) b0) kV_X1_39 ⟨rfl, rfl, Nat.le_of_ble_eq_true rfl, Nat.le_of_ble_eq_true rfl⟩ [0, 1, 2] rfl (by decide) 0 1 rfl rfl rfl rfl rfl (Nat.le_of_ble_eq_true rfl) dX1_share_94 ⟨by first | exact Nat.le_of_ble_eq_true rfl | omega, by first | exact Nat.le_of_ble_eq_true rfl | omega⟩ (fun v9 w9 H locs hq G => ?_)
          obtain ⟨rfl, rfl⟩ := hq
          refine W.eq (g2 := F0 mm 97 ls []) rfl ?_
          have G : zG D AA ss.heap [(h, .inr (1, [.ref r, .ref q, .int (iI ((eqS (am, S.2.1, fun _ => 0)).1))])), (r, .inl (k4 0, 6, .inl (fun i9 => iI ((eqS (am, S.2.1, fun _ => 0)).2.1 i9)))), (q, .inl (k4 0, 6, .inl (fun i9 => iI ((eqS (am, S.2.1, fun _ => 0)).2.2 i9)))), (ht, .inr (3, [.ref rs, .ref rk9, .int (iI (t 0)), .int (iI (t 1)), .int (iI (t 2)), .int (iI (t 3)), .int (iI (t 4)), .int (iI (t 5)), .int (iI (t 6))])), (rs, .inl (k4 0, 6, .inl (fun i9 => iI ((fun i => t (7 + i)) i9)))), (rk9, .inl (k4 0, 6, .inl (fun i9 => iI ((fun i => t (13 + i)) i9))))] H locs := G
          have e9 : shareS ru (fun i => t (7 + i)) (fun i => t (13 + i)) (am, S.2.1, fun _ => 0) = eqS (am, S.2.1, fun _ => 0) := by unfold shareS; rw [if_neg (by omega), if_neg (by omega), if_neg (by omega)]
          rw [← e9] at G
          exact z_vret (w' := [(h, .inr (1, [.ref r, .ref q, .int (iI ((shareS ru (fun i => t (7 + i)) (fun i => t (13 + i)) (am, S.2.1, fun _ => 0)).1))])), (r, .inl (k4 0, 6, .inl (fun i9 => iI ((shareS ru (fun i => t (7 + i)) (fun i => t (13 + i)) (am, S.2.1, fun _ => 0)).2.1 i9)))), (q, .inl (k4 0, 6, .inl (fun i9 => iI ((shareS ru (fun i => t (7 + i)) (fun i => t (13 + i)) (am, S.2.1, fun _ => 0)).2.2 i9)))), (ht, .inr (3, [.ref rs, .ref rk9, .int (iI (t 0)), .int (iI (t 1)), .int (iI (t 2)), .int (iI (t 3)), .int (iI (t 4)), .int (iI (t 5)), .int (iI (t 6))])), (rs, .inl (k4 0, 6, .inl (fun i9 => iI ((fun i => t (7 + i)) i9)))), (rk9, .inl (k4 0, 6, .inl (fun i9 => iI ((fun i => t (13 + i)) i9))))]) E hr hlocks G dX1_share_97 (by omega) (by omega) (zx0 rfl) ⟨rfl, rfl⟩
        · skip
          refine z_iload_n E hl 2 rfl dX1_share_31 rfl ?_
          refine z_tableIn (tgt := 60) E 0 dX1_share_32 ⟨by omega, by omega⟩ (by omega) (by decide) rfl (by decide) ?_
          refine z_aload_n E hl 0 rfl dX1_share_60 rfl ?_
          refine z_aload_n E hl 3 rfl dX1_share_61 rfl ?_
          refine kg_X1_30 E G 3 rfl rfl dX1_share_62 ?_
          refine z_callV E G hl.1 (c_X1_shareByShares l D k4 h r q ((am, S.2.1, fun _ => 0)) rs ((fun i => t (7 + i))) b0 (tOK_sh htm)) kV_X1_35 ⟨rfl, rfl, Nat.le_of_ble_eq_true rfl, Nat.le_of_ble_eq_true rfl⟩ [0, 1, 2, 4] rfl (by decide) 0 1 rfl rfl rfl rfl rfl (Nat.le_of_ble_eq_true rfl) dX1_share_65 ⟨by first | exact Nat.le_of_ble_eq_true rfl | omega, by first | exact Nat.le_of_ble_eq_true rfl | omega⟩ (fun v9 w9 H locs hq G => ?_)
          obtain ⟨rfl, rfl⟩ := hq
          refine W.eq (g2 := F0 mm 68 ls []) rfl ?_
          have G : zG D AA ss.heap [(h, .inr (1, [.ref r, .ref q, .int (iI ((shS (fun i => t (7 + i)) (am, S.2.1, fun _ => 0)).1))])), (r, .inl (k4 0, 6, .inl (fun i9 => iI ((shS (fun i => t (7 + i)) (am, S.2.1, fun _ => 0)).2.1 i9)))), (q, .inl (k4 0, 6, .inl (fun i9 => iI ((shS (fun i => t (7 + i)) (am, S.2.1, fun _ => 0)).2.2 i9)))), (ht, .inr (3, [.ref rs, .ref rk9, .int (iI (t 0)), .int (iI (t 1)), .int (iI (t 2)), .int (iI (t 3)), .int (iI (t 4)), .int (iI (t 5)), .int (iI (t 6))])), (rs, .inl (k4 0, 6, .inl (fun i9 => iI ((fun i => t (7 + i)) i9)))), (rk9, .inl (k4 0, 6, .inl (fun i9 => iI ((fun i => t (13 + i)) i9))))] H locs := G
          refine z_aload_n E hl 0 rfl dX1_share_68 rfl ?_
          refine z_callV E G hl.1 (c_X1_shareEqually l D k4 h r q ((shS (fun i => t (7 + i)) (am, S.2.1, fun _ => 0))) (iter_ok (fun _ h => shStep_ok (tOK_sh htm) h) b0 NR)) kV_X1_39 ⟨rfl, rfl, Nat.le_of_ble_eq_true rfl, Nat.le_of_ble_eq_true rfl⟩ [0, 1, 2] rfl (by decide) 0 1 rfl rfl rfl rfl rfl (Nat.le_of_ble_eq_true rfl) dX1_share_69 ⟨by first | exact Nat.le_of_ble_eq_true rfl | omega, by first | exact Nat.le_of_ble_eq_true rfl | omega⟩ (fun v9 w9 H locs hq G => ?_)
          obtain ⟨rfl, rfl⟩ := hq
          refine W.eq (g2 := F0 mm 72 ls []) rfl ?_
          have G : zG D AA ss.heap [(h, .inr (1, [.ref r, .ref q, .int (iI ((eqS (shS (fun i => t (7 + i)) (am, S.2.1, fun _ => 0))).1))])), (r, .inl (k4 0, 6, .inl (fun i9 => iI ((eqS (shS (fun i => t (7 + i)) (am, S.2.1, fun _ => 0))).2.1 i9)))), (q, .inl (k4 0, 6, .inl (fun i9 => iI ((eqS (shS (fun i => t (7 + i)) (am, S.2.1, fun _ => 0))).2.2 i9)))), (ht, .inr (3, [.ref rs, .ref rk9, .int (iI (t 0)), .int (iI (t 1)), .int (iI (t 2)), .int (iI (t 3)), .int (iI (t 4)), .int (iI (t 5)), .int (iI (t 6))])), (rs, .inl (k4 0, 6, .inl (fun i9 => iI ((fun i => t (7 + i)) i9)))), (rk9, .inl (k4 0, 6, .inl (fun i9 => iI ((fun i => t (13 + i)) i9))))] H locs := G
          refine z_goto (tgt := 97) E dX1_share_72 (by decide) ?_
          have e9 : shareS ru (fun i => t (7 + i)) (fun i => t (13 + i)) (am, S.2.1, fun _ => 0) = eqS (shS (fun i => t (7 + i)) (am, S.2.1, fun _ => 0)) := by unfold shareS; rw [if_pos g9]
          rw [← e9] at G
          exact z_vret (w' := [(h, .inr (1, [.ref r, .ref q, .int (iI ((shareS ru (fun i => t (7 + i)) (fun i => t (13 + i)) (am, S.2.1, fun _ => 0)).1))])), (r, .inl (k4 0, 6, .inl (fun i9 => iI ((shareS ru (fun i => t (7 + i)) (fun i => t (13 + i)) (am, S.2.1, fun _ => 0)).2.1 i9)))), (q, .inl (k4 0, 6, .inl (fun i9 => iI ((shareS ru (fun i => t (7 + i)) (fun i => t (13 + i)) (am, S.2.1, fun _ => 0)).2.2 i9)))), (ht, .inr (3, [.ref rs, .ref rk9, .int (iI (t 0)), .int (iI (t 1)), .int (iI (t 2)), .int (iI (t 3)), .int (iI (t 4)), .int (iI (t 5)), .int (iI (t 6))])), (rs, .inl (k4 0, 6, .inl (fun i9 => iI ((fun i => t (7 + i)) i9)))), (rk9, .inl (k4 0, 6, .inl (fun i9 => iI ((fun i => t (13 + i)) i9))))]) E hr hlocks G dX1_share_97 (by omega) (by omega) (zx0 rfl) ⟨rfl, rfl⟩
        · skip
          refine z_iload_n E hl 2 rfl dX1_share_31 rfl ?_
          refine z_tableIn (tgt := 75) E 1 dX1_share_32 ⟨by omega, by omega⟩ (by omega) (by decide) rfl (by decide) ?_
          refine z_aload_n E hl 0 rfl dX1_share_75 rfl ?_
          refine z_callV E G hl.1 (c_X1_shareByRoom l D k4 h r q ((am, S.2.1, fun _ => 0)) b0) kV_X1_42 ⟨rfl, rfl, Nat.le_of_ble_eq_true rfl, Nat.le_of_ble_eq_true rfl⟩ [0, 1, 2] rfl (by decide) 0 1 rfl rfl rfl rfl rfl (Nat.le_of_ble_eq_true rfl) dX1_share_76 ⟨by first | exact Nat.le_of_ble_eq_true rfl | omega, by first | exact Nat.le_of_ble_eq_true rfl | omega⟩ (fun v9 w9 H locs hq G => ?_)
          obtain ⟨rfl, rfl⟩ := hq
          refine W.eq (g2 := F0 mm 79 ls []) rfl ?_
          have G : zG D AA ss.heap [(h, .inr (1, [.ref r, .ref q, .int (iI ((roomS (am, S.2.1, fun _ => 0)).1))])), (r, .inl (k4 0, 6, .inl (fun i9 => iI ((roomS (am, S.2.1, fun _ => 0)).2.1 i9)))), (q, .inl (k4 0, 6, .inl (fun i9 => iI ((roomS (am, S.2.1, fun _ => 0)).2.2 i9)))), (ht, .inr (3, [.ref rs, .ref rk9, .int (iI (t 0)), .int (iI (t 1)), .int (iI (t 2)), .int (iI (t 3)), .int (iI (t 4)), .int (iI (t 5)), .int (iI (t 6))])), (rs, .inl (k4 0, 6, .inl (fun i9 => iI ((fun i => t (7 + i)) i9)))), (rk9, .inl (k4 0, 6, .inl (fun i9 => iI ((fun i => t (13 + i)) i9))))] H locs := G
          refine z_goto (tgt := 97) E dX1_share_79 (by decide) ?_
          have e9 : shareS ru (fun i => t (7 + i)) (fun i => t (13 + i)) (am, S.2.1, fun _ => 0) = roomS (am, S.2.1, fun _ => 0) := by unfold shareS; rw [if_neg (by omega), if_pos g9]
          rw [← e9] at G
          exact z_vret (w' := [(h, .inr (1, [.ref r, .ref q, .int (iI ((shareS ru (fun i => t (7 + i)) (fun i => t (13 + i)) (am, S.2.1, fun _ => 0)).1))])), (r, .inl (k4 0, 6, .inl (fun i9 => iI ((shareS ru (fun i => t (7 + i)) (fun i => t (13 + i)) (am, S.2.1, fun _ => 0)).2.1 i9)))), (q, .inl (k4 0, 6, .inl (fun i9 => iI ((shareS ru (fun i => t (7 + i)) (fun i => t (13 + i)) (am, S.2.1, fun _ => 0)).2.2 i9)))), (ht, .inr (3, [.ref rs, .ref rk9, .int (iI (t 0)), .int (iI (t 1)), .int (iI (t 2)), .int (iI (t 3)), .int (iI (t 4)), .int (iI (t 5)), .int (iI (t 6))])), (rs, .inl (k4 0, 6, .inl (fun i9 => iI ((fun i => t (7 + i)) i9)))), (rk9, .inl (k4 0, 6, .inl (fun i9 => iI ((fun i => t (13 + i)) i9))))]) E hr hlocks G dX1_share_97 (by omega) (by omega) (zx0 rfl) ⟨rfl, rfl⟩
        · skip
          refine z_iload_n E hl 2 rfl dX1_share_31 rfl ?_
          refine z_tableIn (tgt := 82) E 2 dX1_share_32 ⟨by omega, by omega⟩ (by omega) (by decide) rfl (by decide) ?_
          refine z_aload_n E hl 0 rfl dX1_share_82 rfl ?_
          refine z_aload_n E hl 3 rfl dX1_share_83 rfl ?_
          refine kg_X1_45 E G 3 rfl rfl dX1_share_84 ?_
          refine z_callV E G hl.1 (c_X1_shareByRank l D k4 h r q ((am, S.2.1, fun _ => 0)) rk9 ((fun i => t (13 + i))) b0 (tOK_rk htm)) kV_X1_48 ⟨rfl, rfl, Nat.le_of_ble_eq_true rfl, Nat.le_of_ble_eq_true rfl⟩ [0, 1, 2, 5] rfl (by decide) 0 1 rfl rfl rfl rfl rfl (Nat.le_of_ble_eq_true rfl) dX1_share_87 ⟨by first | exact Nat.le_of_ble_eq_true rfl | omega, by first | exact Nat.le_of_ble_eq_true rfl | omega⟩ (fun v9 w9 H locs hq G => ?_)
          obtain ⟨rfl, rfl⟩ := hq
          refine W.eq (g2 := F0 mm 90 ls []) rfl ?_
          have G : zG D AA ss.heap [(h, .inr (1, [.ref r, .ref q, .int (iI ((rankS (fun i => t (13 + i)) (am, S.2.1, fun _ => 0)).1))])), (r, .inl (k4 0, 6, .inl (fun i9 => iI ((rankS (fun i => t (13 + i)) (am, S.2.1, fun _ => 0)).2.1 i9)))), (q, .inl (k4 0, 6, .inl (fun i9 => iI ((rankS (fun i => t (13 + i)) (am, S.2.1, fun _ => 0)).2.2 i9)))), (ht, .inr (3, [.ref rs, .ref rk9, .int (iI (t 0)), .int (iI (t 1)), .int (iI (t 2)), .int (iI (t 3)), .int (iI (t 4)), .int (iI (t 5)), .int (iI (t 6))])), (rs, .inl (k4 0, 6, .inl (fun i9 => iI ((fun i => t (7 + i)) i9)))), (rk9, .inl (k4 0, 6, .inl (fun i9 => iI ((fun i => t (13 + i)) i9))))] H locs := G
          refine z_goto (tgt := 97) E dX1_share_90 (by decide) ?_
          have e9 : shareS ru (fun i => t (7 + i)) (fun i => t (13 + i)) (am, S.2.1, fun _ => 0) = rankS (fun i => t (13 + i)) (am, S.2.1, fun _ => 0) := by unfold shareS; rw [if_neg (by omega), if_neg (by omega), if_pos g9]
          rw [← e9] at G
          exact z_vret (w' := [(h, .inr (1, [.ref r, .ref q, .int (iI ((shareS ru (fun i => t (7 + i)) (fun i => t (13 + i)) (am, S.2.1, fun _ => 0)).1))])), (r, .inl (k4 0, 6, .inl (fun i9 => iI ((shareS ru (fun i => t (7 + i)) (fun i => t (13 + i)) (am, S.2.1, fun _ => 0)).2.1 i9)))), (q, .inl (k4 0, 6, .inl (fun i9 => iI ((shareS ru (fun i => t (7 + i)) (fun i => t (13 + i)) (am, S.2.1, fun _ => 0)).2.2 i9)))), (ht, .inr (3, [.ref rs, .ref rk9, .int (iI (t 0)), .int (iI (t 1)), .int (iI (t 2)), .int (iI (t 3)), .int (iI (t 4)), .int (iI (t 5)), .int (iI (t 6))])), (rs, .inl (k4 0, 6, .inl (fun i9 => iI ((fun i => t (7 + i)) i9)))), (rk9, .inl (k4 0, 6, .inl (fun i9 => iI ((fun i => t (13 + i)) i9))))]) E hr hlocks G dX1_share_97 (by omega) (by omega) (zx0 rfl) ⟨rfl, rfl⟩
      · skip
        refine z_aload_n E hl 0 rfl dX1_share_10 rfl ?_
        refine kg_X1_15 E G 0 rfl rfl dX1_share_11 ?_
        refine z_iload E hl 4 rfl dX1_share_14 ?_
        refine z_iconst E dX1_share_16 ?_
        refine z_callSN E G hl.1 (c_X4_put l D k4 q 6 ((zer S.2.2 j)) j 0 (by omega) (by decide)) kSN_X1_22 ⟨rfl, rfl, Nat.le_of_ble_eq_true rfl, Nat.le_of_ble_eq_true rfl⟩ [2] rfl (by decide) rfl rfl (Nat.le_of_ble_eq_true rfl) dX1_share_17 ⟨by first | exact Nat.le_of_ble_eq_true rfl | omega, by first | exact Nat.le_of_ble_eq_true rfl | omega⟩ (fun v9 w9 H locs hq G => ?_)
        obtain ⟨rfl, rfl⟩ := hq
        refine W.eq (g2 := F0 mm 20 ls []) rfl ?_
        have G : zG D AA ss.heap [(h, .inr (1, [.ref r, .ref q, .int (iI (S.1))])), (r, .inl (k4 0, 6, .inl (fun i9 => iI (S.2.1 i9)))), (q, .inl (k4 0, 6, .inl (fun i9 => iI ((up (zer S.2.2 j) j 0) i9)))), (ht, .inr (3, [.ref rs, .ref rk9, .int (iI (t 0)), .int (iI (t 1)), .int (iI (t 2)), .int (iI (t 3)), .int (iI (t 4)), .int (iI (t 5)), .int (iI (t 6))])), (rs, .inl (k4 0, 6, .inl (fun i9 => iI ((fun i => t (7 + i)) i9)))), (rk9, .inl (k4 0, 6, .inl (fun i9 => iI ((fun i => t (13 + i)) i9))))] H locs := G
        rw [zer_s] at G
        refine z_iinc E [(4, .int (iI (((j : Nat) : Int) + 1))), (0, .ref h), (1, .int (iI (am))), (2, .int (iI (ru))), (3, .ref ht)] dX1_share_20 hl (k := 4) rfl (by decide) rfl (fun ls hl => ?_)
        refine z_goto (tgt := 3) E dX1_share_23 (by decide) ?_
        exact ih3_1 (j + 1) _ _ _ (by omega) (by omega) G (lv_sub hl [1, 2, 3, 4, 0] rfl)
  exact hp3_1 7 0 _ _ _ (by decide) (by decide) G (lv_sub hl [1, 2, 3, 4, 0] rfl)

