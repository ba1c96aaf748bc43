def q_c_X1_shareByShares (k4 : Nat → ClassId) (h r q : Nat) (S : sS) (rs : Nat) (sh : Nat → Int) : Option Value → va_W → Prop := (fun (v9 : Option Value) (w9 : va_W) => v9 = none ∧ w9 = [(h, .inr (1, [.ref r, .ref q, .int (iI ((shS sh S).1))])), (r, .inl (k4 0, 6, .inl (fun k => iI ((shS sh S).2.1 k)))), (q, .inl (k4 0, 6, .inl (fun k => iI ((shS sh S).2.2 k)))), (rs, .inl (k4 0, 6, .inl (fun k => iI (sh k))))])
set_option maxHeartbeats 4000000 in
set_option maxRecDepth 100000 in
theorem c_X1_shareByShares (l : Launch) (D : va_G) (k4 : Nat → ClassId) (h r q : Nat) (S : sS) (rs : Nat) (sh : Nat → Int) (hS : sOK S) (hs : ∀ k, k < 6 → 0 ≤ sh k ∧ sh k ≤ 100) : zC l yX1_shareByShares (zW yX1_shareByShares cX1_shareByShares 6 none) ({ frames := 3, cells := 0, slots := 0, locals := 59 } : Room) D k4 [.ref h, .ref rs] [(h, .inr (1, [.ref r, .ref q, .int (iI (S.1))])), (r, .inl (k4 0, 6, .inl (fun k => iI (S.2.1 k)))), (q, .inl (k4 0, 6, .inl (fun k => iI (S.2.2 k)))), (rs, .inl (k4 0, 6, .inl (fun k => iI (sh k))))] (0) (0) (q_c_X1_shareByShares k4 h r q S rs sh) := by
  refine zC_of (cc := cX1_shareByShares) (by decide) (Nat.le_of_ble_eq_true rfl) (fun pp ee ss mm bl me co AA ls E hr hlocks hin G hl => ?_)
  have hl : lv_has ls 6 [(0, .ref h), (1, .ref rs)] := hl
  refine z_iconst E dX1_shareByShares_0 ?_
  refine z_istore_n E [(2, .int (iI (0))), (0, .ref h), (1, .ref rs)] dX1_shareByShares_1 rfl hl (by decide) rfl (fun ls hl => ?_)
  have hp2_1 : ∀ (n9 : Nat) (r9 : Nat) (H : Heap) (locs : List Loc) (ls : Array Slot), (1000 - r9 < n9) → (r9 ≤ 1000) → zG D AA ss.heap [(h, .inr (1, [.ref r, .ref q, .int (iI ((iter (shStep sh) r9 S).1))])), (r, .inl (k4 0, 6, .inl (fun k => iI ((iter (shStep sh) r9 S).2.1 k)))), (q, .inl (k4 0, 6, .inl (fun k => iI ((iter (shStep sh) r9 S).2.2 k)))), (rs, .inl (k4 0, 6, .inl (fun k => iI (sh k))))] H locs → lv_has ls 6 [(0, .ref h), (1, .ref rs), (2, .int (iI (((r9 : Nat) : Int))))] → W pp l ee ({ frames := 3, cells := 0, slots := 0, locals := 59 } : Room) ss mm ([.ref h, .ref rs] : List Value).toArray bl me co H locs (0) (0) (MQ bl (zQ D [(h, .inr (1, [.ref r, .ref q, .int (iI (S.1))])), (r, .inl (k4 0, 6, .inl (fun k => iI (S.2.1 k)))), (q, .inl (k4 0, 6, .inl (fun k => iI (S.2.2 k)))), (rs, .inl (k4 0, 6, .inl (fun k => iI (sh k))))] AA (q_c_X1_shareByShares k4 h r q S rs sh)) ([.ref h, .ref rs] : List Value).toArray ss (0) (0) AA) (F0 mm 2 ls []) := by
    intro n9
    induction n9 with
    | zero => intro r9 H locs ls hn9 hr9 G hl; exact absurd hn9 (by omega)
    | succ n9 ih =>
      intro r9 H locs ls hn9 hr9 G hl
      have ih2_1 := @ih
      have b0 : sOK (iter (shStep sh) r9 S) := iter_ok (fun _ h => shStep_ok hs h) hS r9
      have b1 := b0.1
      have b3 := ssumN_b (R := (iter (shStep sh) r9 S).2.1) hs 6 (by decide)
      refine z_aload_n E hl 0 rfl dX1_shareByShares_2 rfl ?_
      refine kg_X1_26 E G 0 rfl rfl dX1_shareByShares_3 ?_
      refine z_if_le (tgt := 86) E dX1_shareByShares_6 (by decide) ⟨by omega, by omega⟩ (fun c_6 => ?_) (fun c_6 => ?_)
      · skip
        have e9 : shS sh S = iter (shStep sh) r9 S := iter_end hr9 (shStep_fix hs b0 (Or.inl (by omega)))
        rw [← e9] at G
        exact z_vret (w' := [(h, .inr (1, [.ref r, .ref q, .int (iI ((shS sh S).1))])), (r, .inl (k4 0, 6, .inl (fun k => iI ((shS sh S).2.1 k)))), (q, .inl (k4 0, 6, .inl (fun k => iI ((shS sh S).2.2 k)))), (rs, .inl (k4 0, 6, .inl (fun k => iI (sh k))))]) E hr hlocks G dX1_shareByShares_86 (by omega) (by omega) (zx0 rfl) ⟨rfl, rfl⟩
      · skip
        refine z_iload_n E hl 2 rfl dX1_shareByShares_9 rfl ?_
        refine z_sipush E dX1_shareByShares_10 (by decide) ?_
        refine z_icmp_ge (tgt := 86) E dX1_shareByShares_13 (by decide) ⟨by omega, by omega⟩ (by decide) (fun c_13 => ?_) (fun c_13 => ?_)
        · skip
          have e9 : shS sh S = iter (shStep sh) r9 S := by have h9 : r9 = 1000 := (by omega); rw [h9]; rfl
          rw [← e9] at G
          exact z_vret (w' := [(h, .inr (1, [.ref r, .ref q, .int (iI ((shS sh S).1))])), (r, .inl (k4 0, 6, .inl (fun k => iI ((shS sh S).2.1 k)))), (q, .inl (k4 0, 6, .inl (fun k => iI ((shS sh S).2.2 k)))), (rs, .inl (k4 0, 6, .inl (fun k => iI (sh k))))]) E hr hlocks G dX1_shareByShares_86 (by omega) (by omega) (zx0 rfl) ⟨rfl, rfl⟩
        · skip
          refine z_aload_n E hl 0 rfl dX1_shareByShares_16 rfl ?_
          refine z_aload_n E hl 1 rfl dX1_shareByShares_17 rfl ?_
          refine z_callV E G hl.1 (c_X1_sumOfShares l D k4 h r q ((iter (shStep sh) r9 S)) rs sh b0) kV_X1_65 ⟨rfl, rfl, Nat.le_of_ble_eq_true rfl, Nat.le_of_ble_eq_true rfl⟩ [0, 1, 2, 3] rfl (by decide) 0 1 rfl rfl rfl rfl rfl (Nat.le_of_ble_eq_true rfl) dX1_shareByShares_18 ⟨by first | exact Nat.le_of_ble_eq_true rfl | omega, by first | exact Nat.le_of_ble_eq_true rfl | omega⟩ (fun v9 w9 H locs hq G => ?_)
          obtain ⟨rfl, rfl⟩ := hq
          refine W.eq (g2 := F0 mm 21 ls [.int (iI (ssumN sh ((iter (shStep sh) r9 S)).2.1 6))]) rfl ?_
          have G : zG D AA ss.heap [(h, .inr (1, [.ref r, .ref q, .int (iI (((iter (shStep sh) r9 S)).1))])), (r, .inl (k4 0, 6, .inl (fun k => iI (((iter (shStep sh) r9 S)).2.1 k)))), (q, .inl (k4 0, 6, .inl (fun k => iI (((iter (shStep sh) r9 S)).2.2 k)))), (rs, .inl (k4 0, 6, .inl (fun k => iI (sh k))))] H locs := G
          refine z_istore_n E [(3, .int (iI (ssumN sh ((iter (shStep sh) r9 S)).2.1 6))), (0, .ref h), (1, .ref rs), (2, .int (iI (((r9 : Nat) : Int))))] dX1_shareByShares_21 rfl hl (by decide) rfl (fun ls hl => ?_)
          refine z_iload_n E hl 0 rfl dX1_shareByShares_22 rfl ?_
          refine z_if_gt (tgt := 27) E dX1_shareByShares_23 (by decide) ⟨by omega, by omega⟩ (fun c_23 => ?_) (fun c_23 => ?_)
          · skip
            refine z_aload_n E hl 1 rfl dX1_shareByShares_27 rfl ?_
            refine kg_X1_26 E G 0 rfl rfl dX1_shareByShares_28 ?_
            refine z_istore E [(4, .int (iI (((iter (shStep sh) r9 S)).1))), (3, .int (iI (ssumN sh ((iter (shStep sh) r9 S)).2.1 6))), (0, .ref h), (1, .ref rs), (2, .int (iI (((r9 : Nat) : Int))))] dX1_shareByShares_31 hl (by decide) rfl (fun ls hl => ?_)
            refine z_iconst E dX1_shareByShares_33 ?_
            refine z_istore E [(5, .int (iI (0))), (4, .int (iI (((iter (shStep sh) r9 S)).1))), (3, .int (iI (ssumN sh ((iter (shStep sh) r9 S)).2.1 6))), (0, .ref h), (1, .ref rs), (2, .int (iI (((r9 : Nat) : Int))))] dX1_shareByShares_34 hl (by decide) rfl (fun ls hl => ?_)
            have hp36_2 : ∀ (n9 : Nat) (j : Nat) (H : Heap) (locs : List Loc) (ls : Array Slot), (6 - j < n9) → (j ≤ 6) → zG D AA ss.heap [(h, .inr (1, [.ref r, .ref q, .int (iI ((giveTo (fun m => (iter (shStep sh) r9 S).1 * sh m / ssumN sh (iter (shStep sh) r9 S).2.1 6) j (iter (shStep sh) r9 S)).1))])), (r, .inl (k4 0, 6, .inl (fun k => iI ((giveTo (fun m => (iter (shStep sh) r9 S).1 * sh m / ssumN sh (iter (shStep sh) r9 S).2.1 6) j (iter (shStep sh) r9 S)).2.1 k)))), (q, .inl (k4 0, 6, .inl (fun k => iI ((giveTo (fun m => (iter (shStep sh) r9 S).1 * sh m / ssumN sh (iter (shStep sh) r9 S).2.1 6) j (iter (shStep sh) r9 S)).2.2 k)))), (rs, .inl (k4 0, 6, .inl (fun k => iI (sh k))))] H locs → lv_has ls 6 [(0, .ref h), (1, .ref rs), (2, .int (iI (((r9 : Nat) : Int)))), (3, .int (iI (ssumN sh (iter (shStep sh) r9 S).2.1 6))), (4, .int (iI ((iter (shStep sh) r9 S).1))), (5, .int (iI (((j : Nat) : Int))))] → W pp l ee ({ frames := 3, cells := 0, slots := 0, locals := 59 } : Room) ss mm ([.ref h, .ref rs] : List Value).toArray bl me co H locs (0) (0) (MQ bl (zQ D [(h, .inr (1, [.ref r, .ref q, .int (iI (S.1))])), (r, .inl (k4 0, 6, .inl (fun k => iI (S.2.1 k)))), (q, .inl (k4 0, 6, .inl (fun k => iI (S.2.2 k)))), (rs, .inl (k4 0, 6, .inl (fun k => iI (sh k))))] AA (q_c_X1_shareByShares k4 h r q S rs sh)) ([.ref h, .ref rs] : List Value).toArray ss (0) (0) AA) (F0 mm 36 ls []) := by
              intro n9
              induction n9 with
              | zero => intro j H locs ls hn9 hj G hl; exact absurd hn9 (by omega)
              | succ n9 ih =>
                intro j H locs ls hn9 hj G hl
                have ih36_2 := @ih
                have f0 : ∀ k, k < 6 → 0 ≤ (fun m => (iter (shStep sh) r9 S).1 * sh m / ssumN sh (iter (shStep sh) r9 S).2.1 6) k := fun k hk => divN (Int.mul_nonneg b1.1 (hs k hk).1) b3.1
                have b5 : sOK (giveTo (fun m => (iter (shStep sh) r9 S).1 * sh m / ssumN sh (iter (shStep sh) r9 S).2.1 6) j (iter (shStep sh) r9 S)) := giveTo_ok b0 j hj (fun k hk => f0 k (by omega))
                refine z_iload E hl 5 rfl dX1_shareByShares_36 ?_
                refine z_bipush E dX1_shareByShares_38 (by decide) ?_
                refine z_icmp_ge (tgt := 66) E dX1_shareByShares_40 (by decide) ⟨by omega, by omega⟩ (by decide) (fun c_40 => ?_) (fun c_40 => ?_)
                · skip
                  obtain rfl : j = 6 := by omega
                  have b9 := b5.1
                  refine z_aload_n E hl 0 rfl dX1_shareByShares_66 rfl ?_
                  refine kg_X1_26 E G 0 rfl rfl dX1_shareByShares_67 ?_
                  refine z_iload E hl 4 rfl dX1_shareByShares_70 ?_
                  refine z_icmp_ne (tgt := 80) E dX1_shareByShares_72 (by decide) ⟨by omega, by omega⟩ ⟨by omega, by omega⟩ (fun c_72 => ?_) (fun c_72 => ?_)
                  · skip
                    have e9 : shStep sh (iter (shStep sh) r9 S) = (giveTo (fun m => (iter (shStep sh) r9 S).1 * sh m / ssumN sh (iter (shStep sh) r9 S).2.1 6) 6 (iter (shStep sh) r9 S)) := if_neg (by omega)
                    rw [← e9] at G
                    have G : zG D AA ss.heap [(h, .inr (1, [.ref r, .ref q, .int (iI ((iter (shStep sh) (r9 + 1) S).1))])), (r, .inl (k4 0, 6, .inl (fun k => iI ((iter (shStep sh) (r9 + 1) S).2.1 k)))), (q, .inl (k4 0, 6, .inl (fun k => iI ((iter (shStep sh) (r9 + 1) S).2.2 k)))), (rs, .inl (k4 0, 6, .inl (fun k => iI (sh k))))] H locs := G
                    refine z_iinc E [(2, .int (iI (((r9 : Nat) : Int) + 1))), (0, .ref h), (1, .ref rs), (3, .int (iI (ssumN sh (iter (shStep sh) r9 S).2.1 6))), (4, .int (iI ((iter (shStep sh) r9 S).1))), (5, .int (iI (((6 : Nat) : Int))))] dX1_shareByShares_80 hl (k := 2) rfl (by decide) rfl (fun ls hl => ?_)
                    refine z_goto (tgt := 2) E dX1_shareByShares_83 (by decide) ?_
                    exact ih2_1 (r9 + 1) _ _ _ (by omega) (by omega) G (lv_sub hl [1, 2, 0] rfl)
                  · skip
                    have e9 : shStep sh (iter (shStep sh) r9 S) = giveOne sh 6 (giveTo (fun m => (iter (shStep sh) r9 S).1 * sh m / ssumN sh (iter (shStep sh) r9 S).2.1 6) 6 (iter (shStep sh) r9 S)) := if_pos (by omega)
                    refine z_aload_n E hl 0 rfl dX1_shareByShares_75 rfl ?_
                    refine z_aload_n E hl 1 rfl dX1_shareByShares_76 rfl ?_
                    refine z_callV E G hl.1 (c_X1_giveOneByShares l D k4 h r q ((giveTo (fun m => (iter (shStep sh) r9 S).1 * sh m / ssumN sh (iter (shStep sh) r9 S).2.1 6) 6 (iter (shStep sh) r9 S))) rs sh b5 hs) kV_X1_73 ⟨rfl, rfl, Nat.le_of_ble_eq_true rfl, Nat.le_of_ble_eq_true rfl⟩ [0, 1, 2, 3] rfl (by decide) 0 1 rfl rfl rfl rfl rfl (Nat.le_of_ble_eq_true rfl) dX1_shareByShares_77 ⟨by first | exact Nat.le_of_ble_eq_true rfl | omega, by first | exact Nat.le_of_ble_eq_true rfl | omega⟩ (fun v9 w9 H locs hq G => ?_)
                    obtain ⟨rfl, rfl⟩ := hq
                    refine W.eq (g2 := F0 mm 80 ls []) rfl ?_
                    have G : zG D AA ss.heap [(h, .inr (1, [.ref r, .ref q, .int (iI ((giveOne sh 6 ((giveTo (fun m => (iter (shStep sh) r9 S).1 * sh m / ssumN sh (iter (shStep sh) r9 S).2.1 6) 6 (iter (shStep sh) r9 S)))).1))])), (r, .inl (k4 0, 6, .inl (fun k => iI ((giveOne sh 6 ((giveTo (fun m => (iter (shStep sh) r9 S).1 * sh m / ssumN sh (iter (shStep sh) r9 S).2.1 6) 6 (iter (shStep sh) r9 S)))).2.1 k)))), (q, .inl (k4 0, 6, .inl (fun k => iI ((giveOne sh 6 ((giveTo (fun m => (iter (shStep sh) r9 S).1 * sh m / ssumN sh (iter (shStep sh) r9 S).2.1 6) 6 (iter (shStep sh) r9 S)))).2.2 k)))), (rs, .inl (k4 0, 6, .inl (fun k => iI (sh k))))] H locs := G
                    rw [← e9] at G
                    refine z_iinc E [(2, .int (iI (((r9 : Nat) : Int) + 1))), (0, .ref h), (1, .ref rs), (3, .int (iI (ssumN sh (iter (shStep sh) r9 S).2.1 6))), (4, .int (iI ((iter (shStep sh) r9 S).1))), (5, .int (iI (((6 : Nat) : Int))))] dX1_shareByShares_80 hl (k := 2) rfl (by decide) rfl (fun ls hl => ?_)
                    refine z_goto (tgt := 2) E dX1_shareByShares_83 (by decide) ?_
                    exact ih2_1 (r9 + 1) _ _ _ (by omega) (by omega) G (lv_sub hl [1, 2, 0] rfl)
                · skip
                  refine z_aload_n E hl 0 rfl dX1_shareByShares_43 rfl ?_
                  refine z_iload E hl 5 rfl dX1_shareByShares_44 ?_
                  refine z_iload E hl 4 rfl dX1_shareByShares_46 ?_
                  refine z_aload_n E hl 1 rfl dX1_shareByShares_48 rfl ?_
                  refine z_iload E hl 5 rfl dX1_shareByShares_49 ?_
                  refine z_callSN E G hl.1 (c_X4_at l D k4 rs 6 sh j (by omega) (by decide)) kSN_X1_18 ⟨rfl, rfl, Nat.le_of_ble_eq_true rfl, Nat.le_of_ble_eq_true rfl⟩ [3] rfl (by decide) rfl rfl (Nat.le_of_ble_eq_true rfl) dX1_shareByShares_51 ⟨by first | exact Nat.le_of_ble_eq_true rfl | omega, by first | exact Nat.le_of_ble_eq_true rfl | omega⟩ (fun v9 w9 H locs hq G => ?_)
                  obtain ⟨rfl, rfl⟩ := hq
                  refine W.eq (g2 := F0 mm 54 ls [.int (iI (sh j)), .int (iI ((iter (shStep sh) r9 S).1)), .int (iI (((j : Nat) : Int))), .ref h]) rfl ?_
                  have G : zG D AA ss.heap [(h, .inr (1, [.ref r, .ref q, .int (iI ((giveTo (fun m => (iter (shStep sh) r9 S).1 * sh m / ssumN sh (iter (shStep sh) r9 S).2.1 6) j (iter (shStep sh) r9 S)).1))])), (r, .inl (k4 0, 6, .inl (fun k => iI ((giveTo (fun m => (iter (shStep sh) r9 S).1 * sh m / ssumN sh (iter (shStep sh) r9 S).2.1 6) j (iter (shStep sh) r9 S)).2.1 k)))), (q, .inl (k4 0, 6, .inl (fun k => iI ((giveTo (fun m => (iter (shStep sh) r9 S).1 * sh m / ssumN sh (iter (shStep sh) r9 S).2.1 6) j (iter (shStep sh) r9 S)).2.2 k)))), (rs, .inl (k4 0, 6, .inl (fun k => iI (sh k))))] H locs := G
                  have b6 := hs j (by omega)
                  have b7 := mulB b1.1 b1.2 b6.1 b6.2
                  refine z_imul E dX1_shareByShares_54 ?_
                  refine z_iload_n E hl 3 rfl dX1_shareByShares_55 rfl ?_
                  refine z_idiv E dX1_shareByShares_56 ⟨b7.1, by omega⟩ ⟨by omega, by omega⟩ ?_
                  have b8 := divB (a := (iter (shStep sh) r9 S).1 * sh j) (b := ssumN sh (iter (shStep sh) r9 S).2.1 6) b7.1 (by omega)
                  refine z_callV E G hl.1 (c_X1_give l D k4 h r q ((giveTo (fun m => (iter (shStep sh) r9 S).1 * sh m / ssumN sh (iter (shStep sh) r9 S).2.1 6) j (iter (shStep sh) r9 S))) j ((iter (shStep sh) r9 S).1 * sh j / ssumN sh (iter (shStep sh) r9 S).2.1 6) b5 (by omega) ⟨b8.1, by omega⟩) kV_X1_69 ⟨rfl, rfl, Nat.le_of_ble_eq_true rfl, Nat.le_of_ble_eq_true rfl⟩ [0, 1, 2] rfl (by decide) 0 1 rfl rfl rfl rfl rfl (Nat.le_of_ble_eq_true rfl) dX1_shareByShares_57 ⟨by first | exact Nat.le_of_ble_eq_true rfl | omega, by first | exact Nat.le_of_ble_eq_true rfl | omega⟩ (fun v9 w9 H locs hq G => ?_)
                  obtain ⟨rfl, rfl⟩ := hq
                  refine W.eq (g2 := F0 mm 60 ls []) rfl ?_
                  have G : zG D AA ss.heap [(h, .inr (1, [.ref r, .ref q, .int (iI ((giveS j ((iter (shStep sh) r9 S).1 * sh j / ssumN sh (iter (shStep sh) r9 S).2.1 6) ((giveTo (fun m => (iter (shStep sh) r9 S).1 * sh m / ssumN sh (iter (shStep sh) r9 S).2.1 6) j (iter (shStep sh) r9 S)))).1))])), (r, .inl (k4 0, 6, .inl (fun k => iI ((giveS j ((iter (shStep sh) r9 S).1 * sh j / ssumN sh (iter (shStep sh) r9 S).2.1 6) ((giveTo (fun m => (iter (shStep sh) r9 S).1 * sh m / ssumN sh (iter (shStep sh) r9 S).2.1 6) j (iter (shStep sh) r9 S)))).2.1 k)))), (q, .inl (k4 0, 6, .inl (fun k => iI ((giveS j ((iter (shStep sh) r9 S).1 * sh j / ssumN sh (iter (shStep sh) r9 S).2.1 6) ((giveTo (fun m => (iter (shStep sh) r9 S).1 * sh m / ssumN sh (iter (shStep sh) r9 S).2.1 6) j (iter (shStep sh) r9 S)))).2.2 k)))), (rs, .inl (k4 0, 6, .inl (fun k => iI (sh k))))] H locs := G
                  refine z_iinc E [(5, .int (iI (((j : Nat) : Int) + 1))), (0, .ref h), (1, .ref rs), (2, .int (iI (((r9 : Nat) : Int)))), (3, .int (iI (ssumN sh (iter (shStep sh) r9 S).2.1 6))), (4, .int (iI ((iter (shStep sh) r9 S).1)))] dX1_shareByShares_60 hl (k := 5) rfl (by decide) rfl (fun ls hl => ?_)
                  refine z_goto (tgt := 36) E dX1_shareByShares_63 (by decide) ?_
                  exact ih36_2 (j + 1) _ _ _ (by omega) (by omega) G (lv_sub hl [1, 2, 3, 4, 5, 0] rfl)
            exact hp36_2 7 0 _ _ _ (by decide) (by decide) G (lv_sub hl [3, 4, 5, 2, 1, 0] rfl)
          · skip
            have e9 : shS sh S = iter (shStep sh) r9 S := iter_end hr9 (shStep_fix hs b0 (Or.inr (by omega)))
            rw [← e9] at G
            exact z_vret (w' := [(h, .inr (1, [.ref r, .ref q, .int (iI ((shS sh S).1))])), (r, .inl (k4 0, 6, .inl (fun k => iI ((shS sh S).2.1 k)))), (q, .inl (k4 0, 6, .inl (fun k => iI ((shS sh S).2.2 k)))), (rs, .inl (k4 0, 6, .inl (fun k => iI (sh k))))]) E hr hlocks G dX1_shareByShares_26 (by omega) (by omega) (zx0 rfl) ⟨rfl, rfl⟩
  exact hp2_1 1001 0 _ _ _ (by decide) (by decide) G (lv_sub hl [1, 2, 0] rfl)
