def q_c_X5_byRoom (k4 : Nat → ClassId) (mo mnw mte mge mus mco mfl mba mdu : Nat) (th : Int) (n p st : Nat) (cc bc pot gr bk btw bhd : Int) (ar ai : Nat) (R : Nat → Int) (a : Int) : Option Value → va_W → Prop := (fun (v9 : Option Value) (w9 : va_W) => v9 = none ∧ w9 = [(mo, .inr (5, [.int (iI (th)), .int (iI (((n : Nat) : Int))), .ref mnw, .ref mte, .ref mge, .ref mus, .int (iI (((p : Nat) : Int))), .int (iI (((st : Nat) : Int))), .int (iI (cc)), .int (iI (bc)), .ref mco, .ref mfl, .ref mba, .ref mdu, .long (lI (pot)), .long (lI (gr)), .long (lI (bk)), .int (iI (btw)), .int (iI (bhd))])), (ar, .inl (k4 0, 6, .inl (fun i9 => iI (R i9)))), (ai, .inl (k4 0, 6, .inl (fun i9 => iI ((roomS (a, R, fun _ => 0)).2.2 i9))))])
set_option maxHeartbeats 4000000 in
set_option maxRecDepth 100000 in
theorem c_X5_byRoom (l : Launch) (D : va_G) (k4 : Nat → ClassId) (mo mnw mte mge mus mco mfl mba mdu : Nat) (th : Int) (n p st : Nat) (cc bc pot gr bk btw bhd : Int) (ar ai : Nat) (R : Nat → Int) (a : Int) (hn : n ≤ 6) (hR : rdOK R) (hI : shI n R (a, R, fun _ => 0)) : zC l yX5_byRoom (zW yX5_byRoom cX5_byRoom 7 none) ({ frames := 1, cells := 1, slots := 6, locals := 26 } : Room) D k4 [.ref mo, .int (iI (a)), .ref ar, .ref ai] [(mo, .inr (5, [.int (iI (th)), .int (iI (((n : Nat) : Int))), .ref mnw, .ref mte, .ref mge, .ref mus, .int (iI (((p : Nat) : Int))), .int (iI (((st : Nat) : Int))), .int (iI (cc)), .int (iI (bc)), .ref mco, .ref mfl, .ref mba, .ref mdu, .long (lI (pot)), .long (lI (gr)), .long (lI (bk)), .int (iI (btw)), .int (iI (bhd))])), (ar, .inl (k4 0, 6, .inl (fun i9 => iI (R i9)))), (ai, .inl (k4 0, 6, .inl (fun i9 => iI ((fun _ => 0) i9))))] (1) (6) (q_c_X5_byRoom k4 mo mnw mte mge mus mco mfl mba mdu th n p st cc bc pot gr bk btw bhd ar ai R a) := by
  refine zC_of (cc := cX5_byRoom) (by decide) (Nat.le_of_ble_eq_true rfl) (fun pp ee ss mm bl me co AA H locs ls E hr hlocks hin G hl => ?_)
  have hl : lv_has ls 7 [(0, .ref mo), (1, .int (iI (a))), (2, .ref ar), (3, .ref ai)] := hl
  have b0 := hI.1.1
  have b1 : 0 ≤ sumN R 6 ∧ sumN R 6 ≤ 30000 := sum_b hI.1
  have b3 : 0 ≤ a ∧ a ≤ 30000 := b0
  have b2 := fR_nn hI.1
  refine z_iconst E dX5_byRoom_0 ?_
  refine z_istore E [(4, .int (iI (0))), (0, .ref mo), (1, .int (iI (a))), (2, .ref ar), (3, .ref ai)] dX5_byRoom_1 hl (by decide) rfl (fun ls hl => ?_)
  refine z_iconst E dX5_byRoom_3 ?_
  refine z_istore E [(5, .int (iI (0))), (4, .int (iI (0))), (0, .ref mo), (1, .int (iI (a))), (2, .ref ar), (3, .ref ai)] dX5_byRoom_4 hl (by decide) rfl (fun ls hl => ?_)
  have hp6_1 : ∀ (n9 : Nat) (j : Nat) (H : Heap) (locs : List Loc) (ls : Array Slot), (n - j < n9) → (j ≤ n) → zG D AA ss.heap [(mo, .inr (5, [.int (iI (th)), .int (iI (((n : Nat) : Int))), .ref mnw, .ref mte, .ref mge, .ref mus, .int (iI (((p : Nat) : Int))), .int (iI (((st : Nat) : Int))), .int (iI (cc)), .int (iI (bc)), .ref mco, .ref mfl, .ref mba, .ref mdu, .long (lI (pot)), .long (lI (gr)), .long (lI (bk)), .int (iI (btw)), .int (iI (bhd))])), (ar, .inl (k4 0, 6, .inl (fun i9 => iI (R i9)))), (ai, .inl (k4 0, 6, .inl (fun i9 => iI ((fun _ => 0) i9))))] H locs → lv_has ls 7 [(0, .ref mo), (1, .int (iI (a))), (2, .ref ar), (3, .ref ai), (4, .int (iI (sumN R j))), (5, .int (iI (((j : Nat) : Int))))] → W pp l ee ({ frames := 1, cells := 1, slots := 6, locals := 26 } : Room) ss mm ([.ref mo, .int (iI (a)), .ref ar, .ref ai] : List Value).toArray bl me co H locs (0) (0) (MQ bl (zQ D [(mo, .inr (5, [.int (iI (th)), .int (iI (((n : Nat) : Int))), .ref mnw, .ref mte, .ref mge, .ref mus, .int (iI (((p : Nat) : Int))), .int (iI (((st : Nat) : Int))), .int (iI (cc)), .int (iI (bc)), .ref mco, .ref mfl, .ref mba, .ref mdu, .long (lI (pot)), .long (lI (gr)), .long (lI (bk)), .int (iI (btw)), .int (iI (bhd))])), (ar, .inl (k4 0, 6, .inl (fun i9 => iI (R i9)))), (ai, .inl (k4 0, 6, .inl (fun i9 => iI ((fun _ => 0) i9))))] AA (q_c_X5_byRoom k4 mo mnw mte mge mus mco mfl mba mdu th n p st cc bc pot gr bk btw bhd ar ai R a)) ([.ref mo, .int (iI (a)), .ref ar, .ref ai] : List Value).toArray ss (1) (6) AA) (F0 mm 6 ls []) := by
    intro n9
    induction n9 with
    | zero => intro j H locs ls hn9 hj G hl; exact absurd hn9 (by omega)
    | succ n9 ih =>
      intro j H locs ls hn9 hj G hl
      have ih6_1 := @ih
      refine z_iload E hl 5 rfl dX5_byRoom_6 ?_
      refine z_aload_n E hl 0 rfl dX5_byRoom_8 rfl ?_
      refine kg_X5_39 E G 0 rfl rfl dX5_byRoom_9 ?_
      refine z_icmp_ge (tgt := 30) E dX5_byRoom_12 (by decide) ⟨by omega, by omega⟩ ⟨by omega, by omega⟩ (fun c_12 => ?_) (fun c_12 => ?_)
      · skip
        have hjn : j = n := by omega
        have e9 : sumN R j = sumN R 6 := by rw [hjn]; exact sumN_6 hn hI.2.2.1
        rw [e9] at hl
        have hl : lv_has ls 7 [(0, .ref mo), (1, .int (iI (a))), (2, .ref ar), (3, .ref ai), (4, .int (iI (sumN R 6))), (5, .int (iI (((j : Nat) : Int))))] := hl
        refine z_iload_n E hl 1 rfl dX5_byRoom_30 rfl ?_
        refine z_istore E [(5, .int (iI (a))), (0, .ref mo), (1, .int (iI (a))), (2, .ref ar), (3, .ref ai), (4, .int (iI (sumN R 6)))] dX5_byRoom_31 hl (by decide) rfl (fun ls hl => ?_)
        refine z_iconst E dX5_byRoom_33 ?_
        refine z_istore E [(6, .int (iI (0))), (5, .int (iI (a))), (0, .ref mo), (1, .int (iI (a))), (2, .ref ar), (3, .ref ai), (4, .int (iI (sumN R 6)))] dX5_byRoom_34 hl (by decide) rfl (fun ls hl => ?_)
        have hp36_2 : ∀ (n9 : Nat) (i : Nat) (H : Heap) (locs : List Loc) (ls : Array Slot), (n - i < n9) → (i ≤ n) → zG D AA ss.heap [(mo, .inr (5, [.int (iI (th)), .int (iI (((n : Nat) : Int))), .ref mnw, .ref mte, .ref mge, .ref mus, .int (iI (((p : Nat) : Int))), .int (iI (((st : Nat) : Int))), .int (iI (cc)), .int (iI (bc)), .ref mco, .ref mfl, .ref mba, .ref mdu, .long (lI (pot)), .long (lI (gr)), .long (lI (bk)), .int (iI (btw)), .int (iI (bhd))])), (ar, .inl (k4 0, 6, .inl (fun i9 => iI (R i9)))), (ai, .inl (k4 0, 6, .inl (fun i9 => iI ((giveTo (fR (a, R, fun _ => 0)) i (a, R, fun _ => 0)).2.2 i9))))] H locs → lv_has ls 7 [(0, .ref mo), (1, .int (iI (a))), (2, .ref ar), (3, .ref ai), (4, .int (iI (sumN R 6))), (5, .int (iI ((giveTo (fR (a, R, fun _ => 0)) i (a, R, fun _ => 0)).1))), (6, .int (iI (((i : Nat) : Int))))] → W pp l ee ({ frames := 1, cells := 1, slots := 6, locals := 26 } : Room) ss mm ([.ref mo, .int (iI (a)), .ref ar, .ref ai] : List Value).toArray bl me co H locs (0) (0) (MQ bl (zQ D [(mo, .inr (5, [.int (iI (th)), .int (iI (((n : Nat) : Int))), .ref mnw, .ref mte, .ref mge, .ref mus, .int (iI (((p : Nat) : Int))), .int (iI (((st : Nat) : Int))), .int (iI (cc)), .int (iI (bc)), .ref mco, .ref mfl, .ref mba, .ref mdu, .long (lI (pot)), .long (lI (gr)), .long (lI (bk)), .int (iI (btw)), .int (iI (bhd))])), (ar, .inl (k4 0, 6, .inl (fun i9 => iI (R i9)))), (ai, .inl (k4 0, 6, .inl (fun i9 => iI ((fun _ => 0) i9))))] AA (q_c_X5_byRoom k4 mo mnw mte mge mus mco mfl mba mdu th n p st cc bc pot gr bk btw bhd ar ai R a)) ([.ref mo, .int (iI (a)), .ref ar, .ref ai] : List Value).toArray ss (1) (6) AA) (F0 mm 36 ls []) := by
          intro n9
          induction n9 with
          | zero => intro i H locs ls hn9 hi G hl; exact absurd hn9 (by omega)
          | succ n9 ih =>
            intro i H locs ls hn9 hi G hl
            have ih36_2 := @ih
            refine z_iload E hl 6 rfl dX5_byRoom_36 ?_
            refine z_aload_n E hl 0 rfl dX5_byRoom_38 rfl ?_
            refine kg_X5_39 E G 0 rfl rfl dX5_byRoom_39 ?_
            refine z_icmp_ge (tgt := 78) E dX5_byRoom_42 (by decide) ⟨by omega, by omega⟩ ⟨by omega, by omega⟩ (fun c_42 => ?_) (fun c_42 => ?_)
            · skip
              have hin2 : i = n := by omega
              have e9 : (giveTo (fR (a, R, fun _ => 0)) i (a, R, fun _ => 0)) = (giveTo (fR (a, R, fun _ => 0)) 6 (a, R, fun _ => 0)) := by rw [hin2]; exact giveTo_n6 hI.1 b2 hn hI.2.2.1
              rw [e9] at G hl
              have hl : lv_has ls 7 [(0, .ref mo), (1, .int (iI (a))), (2, .ref ar), (3, .ref ai), (4, .int (iI (sumN R 6))), (5, .int (iI ((giveTo (fR (a, R, fun _ => 0)) 6 (a, R, fun _ => 0)).1))), (6, .int (iI (((i : Nat) : Int))))] := hl
              have G : zG D AA ss.heap [(mo, .inr (5, [.int (iI (th)), .int (iI (((n : Nat) : Int))), .ref mnw, .ref mte, .ref mge, .ref mus, .int (iI (((p : Nat) : Int))), .int (iI (((st : Nat) : Int))), .int (iI (cc)), .int (iI (bc)), .ref mco, .ref mfl, .ref mba, .ref mdu, .long (lI (pot)), .long (lI (gr)), .long (lI (bk)), .int (iI (btw)), .int (iI (bhd))])), (ar, .inl (k4 0, 6, .inl (fun i9 => iI (R i9)))), (ai, .inl (k4 0, 6, .inl (fun i9 => iI ((giveTo (fR (a, R, fun _ => 0)) 6 (a, R, fun _ => 0)).2.2 i9))))] H locs := G
              have x1 := fR_one hI.1 hI.2.2.2
              have x2 := shI_to hI b2 (j := 6) (by omega)
              refine z_bipush E dX5_byRoom_78 (by decide) ?_
              refine z_newa_boolean E G (n := 6) rfl zw_450 (by first | exact Nat.le_of_ble_eq_true rfl | omega | (show _ ≤ (1); omega)) (by first | exact Nat.le_of_ble_eq_true rfl | omega | (show _ ≤ (6); omega)) (by decide) dX5_byRoom_80 (fun q1 H G => ?_)
              have G : zG D AA ss.heap [(mo, .inr (5, [.int (iI (th)), .int (iI (((n : Nat) : Int))), .ref mnw, .ref mte, .ref mge, .ref mus, .int (iI (((p : Nat) : Int))), .int (iI (((st : Nat) : Int))), .int (iI (cc)), .int (iI (bc)), .ref mco, .ref mfl, .ref mba, .ref mdu, .long (lI (pot)), .long (lI (gr)), .long (lI (bk)), .int (iI (btw)), .int (iI (bhd))])), (ar, .inl (k4 0, 6, .inl (fun i9 => iI (R i9)))), (ai, .inl (k4 0, 6, .inl (fun i9 => iI ((giveTo (fR (a, R, fun _ => 0)) 6 (a, R, fun _ => 0)).2.2 i9)))), (q1, .inl (k4 2, 6, .inl (fun i9 => iI ((fun _ => 0) i9))))] H locs := G
              refine z_dup E dX5_byRoom_82 rfl ?_
              refine z_iconst E dX5_byRoom_83 ?_
              refine z_iconst E dX5_byRoom_84 ?_
              refine z_zast E G 3 rfl (0) rfl (by decide) (by decide) (by decide) dX5_byRoom_85 (fun H locs G => ?_)
              have G : zG D AA ss.heap [(mo, .inr (5, [.int (iI (th)), .int (iI (((n : Nat) : Int))), .ref mnw, .ref mte, .ref mge, .ref mus, .int (iI (((p : Nat) : Int))), .int (iI (((st : Nat) : Int))), .int (iI (cc)), .int (iI (bc)), .ref mco, .ref mfl, .ref mba, .ref mdu, .long (lI (pot)), .long (lI (gr)), .long (lI (bk)), .int (iI (btw)), .int (iI (bhd))])), (ar, .inl (k4 0, 6, .inl (fun i9 => iI (R i9)))), (ai, .inl (k4 0, 6, .inl (fun i9 => iI ((giveTo (fR (a, R, fun _ => 0)) 6 (a, R, fun _ => 0)).2.2 i9)))), (q1, .inl (k4 2, 6, .inl (fun i9 => iI ((up (fun _ => 0) (0) (1)) i9))))] H locs := G
              refine z_dup E dX5_byRoom_86 rfl ?_
              refine z_iconst E dX5_byRoom_87 ?_
              refine z_iconst E dX5_byRoom_88 ?_
              refine z_zast E G 3 rfl (1) rfl (by decide) (by decide) (by decide) dX5_byRoom_89 (fun H locs G => ?_)
              have G : zG D AA ss.heap [(mo, .inr (5, [.int (iI (th)), .int (iI (((n : Nat) : Int))), .ref mnw, .ref mte, .ref mge, .ref mus, .int (iI (((p : Nat) : Int))), .int (iI (((st : Nat) : Int))), .int (iI (cc)), .int (iI (bc)), .ref mco, .ref mfl, .ref mba, .ref mdu, .long (lI (pot)), .long (lI (gr)), .long (lI (bk)), .int (iI (btw)), .int (iI (bhd))])), (ar, .inl (k4 0, 6, .inl (fun i9 => iI (R i9)))), (ai, .inl (k4 0, 6, .inl (fun i9 => iI ((giveTo (fR (a, R, fun _ => 0)) 6 (a, R, fun _ => 0)).2.2 i9)))), (q1, .inl (k4 2, 6, .inl (fun i9 => iI ((up (up (fun _ => 0) (0) (1)) (1) (1)) i9))))] H locs := G
              refine z_dup E dX5_byRoom_90 rfl ?_
              refine z_iconst E dX5_byRoom_91 ?_
              refine z_iconst E dX5_byRoom_92 ?_
              refine z_zast E G 3 rfl (2) rfl (by decide) (by decide) (by decide) dX5_byRoom_93 (fun H locs G => ?_)
              have G : zG D AA ss.heap [(mo, .inr (5, [.int (iI (th)), .int (iI (((n : Nat) : Int))), .ref mnw, .ref mte, .ref mge, .ref mus, .int (iI (((p : Nat) : Int))), .int (iI (((st : Nat) : Int))), .int (iI (cc)), .int (iI (bc)), .ref mco, .ref mfl, .ref mba, .ref mdu, .long (lI (pot)), .long (lI (gr)), .long (lI (bk)), .int (iI (btw)), .int (iI (bhd))])), (ar, .inl (k4 0, 6, .inl (fun i9 => iI (R i9)))), (ai, .inl (k4 0, 6, .inl (fun i9 => iI ((giveTo (fR (a, R, fun _ => 0)) 6 (a, R, fun _ => 0)).2.2 i9)))), (q1, .inl (k4 2, 6, .inl (fun i9 => iI ((up (up (up (fun _ => 0) (0) (1)) (1) (1)) (2) (1)) i9))))] H locs := G
              refine z_dup E dX5_byRoom_94 rfl ?_
              refine z_iconst E dX5_byRoom_95 ?_
              refine z_iconst E dX5_byRoom_96 ?_
              refine z_zast E G 3 rfl (3) rfl (by decide) (by decide) (by decide) dX5_byRoom_97 (fun H locs G => ?_)
              have G : zG D AA ss.heap [(mo, .inr (5, [.int (iI (th)), .int (iI (((n : Nat) : Int))), .ref mnw, .ref mte, .ref mge, .ref mus, .int (iI (((p : Nat) : Int))), .int (iI (((st : Nat) : Int))), .int (iI (cc)), .int (iI (bc)), .ref mco, .ref mfl, .ref mba, .ref mdu, .long (lI (pot)), .long (lI (gr)), .long (lI (bk)), .int (iI (btw)), .int (iI (bhd))])), (ar, .inl (k4 0, 6, .inl (fun i9 => iI (R i9)))), (ai, .inl (k4 0, 6, .inl (fun i9 => iI ((giveTo (fR (a, R, fun _ => 0)) 6 (a, R, fun _ => 0)).2.2 i9)))), (q1, .inl (k4 2, 6, .inl (fun i9 => iI ((up (up (up (up (fun _ => 0) (0) (1)) (1) (1)) (2) (1)) (3) (1)) i9))))] H locs := G
              refine z_dup E dX5_byRoom_98 rfl ?_
              refine z_iconst E dX5_byRoom_99 ?_
              refine z_iconst E dX5_byRoom_100 ?_
              refine z_zast E G 3 rfl (4) rfl (by decide) (by decide) (by decide) dX5_byRoom_101 (fun H locs G => ?_)
              have G : zG D AA ss.heap [(mo, .inr (5, [.int (iI (th)), .int (iI (((n : Nat) : Int))), .ref mnw, .ref mte, .ref mge, .ref mus, .int (iI (((p : Nat) : Int))), .int (iI (((st : Nat) : Int))), .int (iI (cc)), .int (iI (bc)), .ref mco, .ref mfl, .ref mba, .ref mdu, .long (lI (pot)), .long (lI (gr)), .long (lI (bk)), .int (iI (btw)), .int (iI (bhd))])), (ar, .inl (k4 0, 6, .inl (fun i9 => iI (R i9)))), (ai, .inl (k4 0, 6, .inl (fun i9 => iI ((giveTo (fR (a, R, fun _ => 0)) 6 (a, R, fun _ => 0)).2.2 i9)))), (q1, .inl (k4 2, 6, .inl (fun i9 => iI ((up (up (up (up (up (fun _ => 0) (0) (1)) (1) (1)) (2) (1)) (3) (1)) (4) (1)) i9))))] H locs := G
              refine z_dup E dX5_byRoom_102 rfl ?_
              refine z_iconst E dX5_byRoom_103 ?_
              refine z_iconst E dX5_byRoom_104 ?_
              refine z_zast E G 3 rfl (5) rfl (by decide) (by decide) (by decide) dX5_byRoom_105 (fun H locs G => ?_)
              have G : zG D AA ss.heap [(mo, .inr (5, [.int (iI (th)), .int (iI (((n : Nat) : Int))), .ref mnw, .ref mte, .ref mge, .ref mus, .int (iI (((p : Nat) : Int))), .int (iI (((st : Nat) : Int))), .int (iI (cc)), .int (iI (bc)), .ref mco, .ref mfl, .ref mba, .ref mdu, .long (lI (pot)), .long (lI (gr)), .long (lI (bk)), .int (iI (btw)), .int (iI (bhd))])), (ar, .inl (k4 0, 6, .inl (fun i9 => iI (R i9)))), (ai, .inl (k4 0, 6, .inl (fun i9 => iI ((giveTo (fR (a, R, fun _ => 0)) 6 (a, R, fun _ => 0)).2.2 i9)))), (q1, .inl (k4 2, 6, .inl (fun i9 => iI ((up (up (up (up (up (up (fun _ => 0) (0) (1)) (1) (1)) (2) (1)) (3) (1)) (4) (1)) (5) (1)) i9))))] H locs := G
              have G := z_ext G 3 rfl (F' := (fun _ => 1)) (fun k hk => by have h9 : k = 0 ∨ k = 1 ∨ k = 2 ∨ k = 3 ∨ k = 4 ∨ k = 5 := (by omega); rcases h9 with rfl | rfl | rfl | rfl | rfl | rfl <;> rfl)
              have G : zG D AA ss.heap [(mo, .inr (5, [.int (iI (th)), .int (iI (((n : Nat) : Int))), .ref mnw, .ref mte, .ref mge, .ref mus, .int (iI (((p : Nat) : Int))), .int (iI (((st : Nat) : Int))), .int (iI (cc)), .int (iI (bc)), .ref mco, .ref mfl, .ref mba, .ref mdu, .long (lI (pot)), .long (lI (gr)), .long (lI (bk)), .int (iI (btw)), .int (iI (bhd))])), (ar, .inl (k4 0, 6, .inl (fun i9 => iI (R i9)))), (ai, .inl (k4 0, 6, .inl (fun i9 => iI ((giveTo (fR (a, R, fun _ => 0)) 6 (a, R, fun _ => 0)).2.2 i9)))), (q1, .inl (k4 2, 6, .inl (fun i9 => iI ((fun _ => 1) i9))))] H locs := G
              refine z_astore E [(6, .ref q1), (0, .ref mo), (1, .int (iI (a))), (2, .ref ar), (3, .ref ai), (4, .int (iI (sumN R 6))), (5, .int (iI ((giveTo (fR (a, R, fun _ => 0)) 6 (a, R, fun _ => 0)).1)))] dX5_byRoom_106 hl (by decide) rfl (fun ls hl => ?_)
              refine z_aload_n E hl 1 rfl dX5_byRoom_108 rfl ?_
              refine z_iload E hl 6 rfl dX5_byRoom_109 ?_
              refine z_aload_n E hl 3 rfl dX5_byRoom_111 rfl ?_
              refine z_aload_n E hl 4 rfl dX5_byRoom_112 rfl ?_
              refine z_aload E hl 0 rfl dX5_byRoom_113 ?_
              refine z_callV E G hl.1 (c_X5_byOne l D k4 mo mnw mte mge mus mco mfl mba mdu th n p st cc bc pot gr bk btw bhd ar ai R ((giveTo (fR (a, R, fun _ => 0)) 6 (a, R, fun _ => 0))) q1 ((fun _ => 1)) hn x2.1 x2.2.1 hR x2.2.2.1 (fun _ _ => Or.inr rfl) (fun k hk h => absurd h (by decide)) x1) kV_X5_82 ⟨rfl, rfl, Nat.le_of_ble_eq_true rfl, Nat.le_of_ble_eq_true rfl⟩ [0, 1, 2, 3] rfl (by decide) 0 5 rfl rfl rfl rfl rfl (Nat.le_of_ble_eq_true rfl) dX5_byRoom_115 ⟨(by first | exact Nat.le_of_ble_eq_true rfl | omega | (show _ ≤ (1); omega)), (by first | exact Nat.le_of_ble_eq_true rfl | omega | (show _ ≤ (6); omega))⟩ (fun v9 w9 H locs hq G => ?_)
              obtain ⟨rfl, rfl⟩ := hq
              refine W.eq (g2 := F0 mm 118 ls []) rfl ?_
              have G : zG D AA ss.heap [(mo, .inr (5, [.int (iI (th)), .int (iI (((n : Nat) : Int))), .ref mnw, .ref mte, .ref mge, .ref mus, .int (iI (((p : Nat) : Int))), .int (iI (((st : Nat) : Int))), .int (iI (cc)), .int (iI (bc)), .ref mco, .ref mfl, .ref mba, .ref mdu, .long (lI (pot)), .long (lI (gr)), .long (lI (bk)), .int (iI (btw)), .int (iI (bhd))])), (ar, .inl (k4 0, 6, .inl (fun i9 => iI (R i9)))), (ai, .inl (k4 0, 6, .inl (fun i9 => iI ((giveTo (fun _ => 1) 6 (giveTo (fR (a, R, fun _ => 0)) 6 (a, R, fun _ => 0))).2.2 i9)))), (q1, .inl (k4 2, 6, .inl (fun i9 => iI ((fun _ => 1) i9))))] H locs := G
              have G : zG D AA ss.heap [(mo, .inr (5, [.int (iI (th)), .int (iI (((n : Nat) : Int))), .ref mnw, .ref mte, .ref mge, .ref mus, .int (iI (((p : Nat) : Int))), .int (iI (((st : Nat) : Int))), .int (iI (cc)), .int (iI (bc)), .ref mco, .ref mfl, .ref mba, .ref mdu, .long (lI (pot)), .long (lI (gr)), .long (lI (bk)), .int (iI (btw)), .int (iI (bhd))])), (ar, .inl (k4 0, 6, .inl (fun i9 => iI (R i9)))), (ai, .inl (k4 0, 6, .inl (fun i9 => iI ((roomS (a, R, fun _ => 0)).2.2 i9))))] H locs := (G.drop [0, 1, 2] rfl rfl)
              exact z_vret (w' := [(mo, .inr (5, [.int (iI (th)), .int (iI (((n : Nat) : Int))), .ref mnw, .ref mte, .ref mge, .ref mus, .int (iI (((p : Nat) : Int))), .int (iI (((st : Nat) : Int))), .int (iI (cc)), .int (iI (bc)), .ref mco, .ref mfl, .ref mba, .ref mdu, .long (lI (pot)), .long (lI (gr)), .long (lI (bk)), .int (iI (btw)), .int (iI (bhd))])), (ar, .inl (k4 0, 6, .inl (fun i9 => iI (R i9)))), (ai, .inl (k4 0, 6, .inl (fun i9 => iI ((roomS (a, R, fun _ => 0)).2.2 i9))))]) E hr hlocks G dX5_byRoom_118 (by omega) (by omega) (zx0 rfl) ⟨rfl, rfl⟩
            · skip
              refine z_iload E hl 4 rfl dX5_byRoom_45 ?_
              refine z_if_le (tgt := 78) E dX5_byRoom_47 (by decide) ⟨by omega, by omega⟩ (fun c_47 => ?_) (fun c_47 => ?_)
              · skip
                have e9 : (giveTo (fR (a, R, fun _ => 0)) i (a, R, fun _ => 0)) = (giveTo (fR (a, R, fun _ => 0)) 6 (a, R, fun _ => 0)) := (fR_0 hI.1 c_47 (j := i) (by omega)).trans (fR_0 hI.1 c_47 (j := 6) (by omega)).symm
                rw [e9] at G hl
                have hl : lv_has ls 7 [(0, .ref mo), (1, .int (iI (a))), (2, .ref ar), (3, .ref ai), (4, .int (iI (sumN R 6))), (5, .int (iI ((giveTo (fR (a, R, fun _ => 0)) 6 (a, R, fun _ => 0)).1))), (6, .int (iI (((i : Nat) : Int))))] := hl
                have G : zG D AA ss.heap [(mo, .inr (5, [.int (iI (th)), .int (iI (((n : Nat) : Int))), .ref mnw, .ref mte, .ref mge, .ref mus, .int (iI (((p : Nat) : Int))), .int (iI (((st : Nat) : Int))), .int (iI (cc)), .int (iI (bc)), .ref mco, .ref mfl, .ref mba, .ref mdu, .long (lI (pot)), .long (lI (gr)), .long (lI (bk)), .int (iI (btw)), .int (iI (bhd))])), (ar, .inl (k4 0, 6, .inl (fun i9 => iI (R i9)))), (ai, .inl (k4 0, 6, .inl (fun i9 => iI ((giveTo (fR (a, R, fun _ => 0)) 6 (a, R, fun _ => 0)).2.2 i9))))] H locs := G
                have x1 := fR_one hI.1 hI.2.2.2
                have x2 := shI_to hI b2 (j := 6) (by omega)
                refine z_bipush E dX5_byRoom_78 (by decide) ?_
                refine z_newa_boolean E G (n := 6) rfl zw_450 (by first | exact Nat.le_of_ble_eq_true rfl | omega | (show _ ≤ (1); omega)) (by first | exact Nat.le_of_ble_eq_true rfl | omega | (show _ ≤ (6); omega)) (by decide) dX5_byRoom_80 (fun q1 H G => ?_)
                have G : zG D AA ss.heap [(mo, .inr (5, [.int (iI (th)), .int (iI (((n : Nat) : Int))), .ref mnw, .ref mte, .ref mge, .ref mus, .int (iI (((p : Nat) : Int))), .int (iI (((st : Nat) : Int))), .int (iI (cc)), .int (iI (bc)), .ref mco, .ref mfl, .ref mba, .ref mdu, .long (lI (pot)), .long (lI (gr)), .long (lI (bk)), .int (iI (btw)), .int (iI (bhd))])), (ar, .inl (k4 0, 6, .inl (fun i9 => iI (R i9)))), (ai, .inl (k4 0, 6, .inl (fun i9 => iI ((giveTo (fR (a, R, fun _ => 0)) 6 (a, R, fun _ => 0)).2.2 i9)))), (q1, .inl (k4 2, 6, .inl (fun i9 => iI ((fun _ => 0) i9))))] H locs := G
                refine z_dup E dX5_byRoom_82 rfl ?_
                refine z_iconst E dX5_byRoom_83 ?_
                refine z_iconst E dX5_byRoom_84 ?_
                refine z_zast E G 3 rfl (0) rfl (by decide) (by decide) (by decide) dX5_byRoom_85 (fun H locs G => ?_)
                have G : zG D AA ss.heap [(mo, .inr (5, [.int (iI (th)), .int (iI (((n : Nat) : Int))), .ref mnw, .ref mte, .ref mge, .ref mus, .int (iI (((p : Nat) : Int))), .int (iI (((st : Nat) : Int))), .int (iI (cc)), .int (iI (bc)), .ref mco, .ref mfl, .ref mba, .ref mdu, .long (lI (pot)), .long (lI (gr)), .long (lI (bk)), .int (iI (btw)), .int (iI (bhd))])), (ar, .inl (k4 0, 6, .inl (fun i9 => iI (R i9)))), (ai, .inl (k4 0, 6, .inl (fun i9 => iI ((giveTo (fR (a, R, fun _ => 0)) 6 (a, R, fun _ => 0)).2.2 i9)))), (q1, .inl (k4 2, 6, .inl (fun i9 => iI ((up (fun _ => 0) (0) (1)) i9))))] H locs := G
                refine z_dup E dX5_byRoom_86 rfl ?_
                refine z_iconst E dX5_byRoom_87 ?_
                refine z_iconst E dX5_byRoom_88 ?_
                refine z_zast E G 3 rfl (1) rfl (by decide) (by decide) (by decide) dX5_byRoom_89 (fun H locs G => ?_)
                have G : zG D AA ss.heap [(mo, .inr (5, [.int (iI (th)), .int (iI (((n : Nat) : Int))), .ref mnw, .ref mte, .ref mge, .ref mus, .int (iI (((p : Nat) : Int))), .int (iI (((st : Nat) : Int))), .int (iI (cc)), .int (iI (bc)), .ref mco, .ref mfl, .ref mba, .ref mdu, .long (lI (pot)), .long (lI (gr)), .long (lI (bk)), .int (iI (btw)), .int (iI (bhd))])), (ar, .inl (k4 0, 6, .inl (fun i9 => iI (R i9)))), (ai, .inl (k4 0, 6, .inl (fun i9 => iI ((giveTo (fR (a, R, fun _ => 0)) 6 (a, R, fun _ => 0)).2.2 i9)))), (q1, .inl (k4 2, 6, .inl (fun i9 => iI ((up (up (fun _ => 0) (0) (1)) (1) (1)) i9))))] H locs := G
                refine z_dup E dX5_byRoom_90 rfl ?_
                refine z_iconst E dX5_byRoom_91 ?_
                refine z_iconst E dX5_byRoom_92 ?_
                refine z_zast E G 3 rfl (2) rfl (by decide) (by decide) (by decide) dX5_byRoom_93 (fun H locs G => ?_)
                have G : zG D AA ss.heap [(mo, .inr (5, [.int (iI (th)), .int (iI (((n : Nat) : Int))), .ref mnw, .ref mte, .ref mge, .ref mus, .int (iI (((p : Nat) : Int))), .int (iI (((st : Nat) : Int))), .int (iI (cc)), .int (iI (bc)), .ref mco, .ref mfl, .ref mba, .ref mdu, .long (lI (pot)), .long (lI (gr)), .long (lI (bk)), .int (iI (btw)), .int (iI (bhd))])), (ar, .inl (k4 0, 6, .inl (fun i9 => iI (R i9)))), (ai, .inl (k4 0, 6, .inl (fun i9 => iI ((giveTo (fR (a, R, fun _ => 0)) 6 (a, R, fun _ => 0)).2.2 i9)))), (q1, .inl (k4 2, 6, .inl (fun i9 => iI ((up (up (up (fun _ => 0) (0) (1)) (1) (1)) (2) (1)) i9))))] H locs := G
                refine z_dup E dX5_byRoom_94 rfl ?_
                refine z_iconst E dX5_byRoom_95 ?_
                refine z_iconst E dX5_byRoom_96 ?_
                refine z_zast E G 3 rfl (3) rfl (by decide) (by decide) (by decide) dX5_byRoom_97 (fun H locs G => ?_)
                have G : zG D AA ss.heap [(mo, .inr (5, [.int (iI (th)), .int (iI (((n : Nat) : Int))), .ref mnw, .ref mte, .ref mge, .ref mus, .int (iI (((p : Nat) : Int))), .int (iI (((st : Nat) : Int))), .int (iI (cc)), .int (iI (bc)), .ref mco, .ref mfl, .ref mba, .ref mdu, .long (lI (pot)), .long (lI (gr)), .long (lI (bk)), .int (iI (btw)), .int (iI (bhd))])), (ar, .inl (k4 0, 6, .inl (fun i9 => iI (R i9)))), (ai, .inl (k4 0, 6, .inl (fun i9 => iI ((giveTo (fR (a, R, fun _ => 0)) 6 (a, R, fun _ => 0)).2.2 i9)))), (q1, .inl (k4 2, 6, .inl (fun i9 => iI ((up (up (up (up (fun _ => 0) (0) (1)) (1) (1)) (2) (1)) (3) (1)) i9))))] H locs := G
                refine z_dup E dX5_byRoom_98 rfl ?_
                refine z_iconst E dX5_byRoom_99 ?_
                refine z_iconst E dX5_byRoom_100 ?_
                refine z_zast E G 3 rfl (4) rfl (by decide) (by decide) (by decide) dX5_byRoom_101 (fun H locs G => ?_)
                have G : zG D AA ss.heap [(mo, .inr (5, [.int (iI (th)), .int (iI (((n : Nat) : Int))), .ref mnw, .ref mte, .ref mge, .ref mus, .int (iI (((p : Nat) : Int))), .int (iI (((st : Nat) : Int))), .int (iI (cc)), .int (iI (bc)), .ref mco, .ref mfl, .ref mba, .ref mdu, .long (lI (pot)), .long (lI (gr)), .long (lI (bk)), .int (iI (btw)), .int (iI (bhd))])), (ar, .inl (k4 0, 6, .inl (fun i9 => iI (R i9)))), (ai, .inl (k4 0, 6, .inl (fun i9 => iI ((giveTo (fR (a, R, fun _ => 0)) 6 (a, R, fun _ => 0)).2.2 i9)))), (q1, .inl (k4 2, 6, .inl (fun i9 => iI ((up (up (up (up (up (fun _ => 0) (0) (1)) (1) (1)) (2) (1)) (3) (1)) (4) (1)) i9))))] H locs := G
                refine z_dup E dX5_byRoom_102 rfl ?_
                refine z_iconst E dX5_byRoom_103 ?_
                refine z_iconst E dX5_byRoom_104 ?_
                refine z_zast E G 3 rfl (5) rfl (by decide) (by decide) (by decide) dX5_byRoom_105 (fun H locs G => ?_)
                have G : zG D AA ss.heap [(mo, .inr (5, [.int (iI (th)), .int (iI (((n : Nat) : Int))), .ref mnw, .ref mte, .ref mge, .ref mus, .int (iI (((p : Nat) : Int))), .int (iI (((st : Nat) : Int))), .int (iI (cc)), .int (iI (bc)), .ref mco, .ref mfl, .ref mba, .ref mdu, .long (lI (pot)), .long (lI (gr)), .long (lI (bk)), .int (iI (btw)), .int (iI (bhd))])), (ar, .inl (k4 0, 6, .inl (fun i9 => iI (R i9)))), (ai, .inl (k4 0, 6, .inl (fun i9 => iI ((giveTo (fR (a, R, fun _ => 0)) 6 (a, R, fun _ => 0)).2.2 i9)))), (q1, .inl (k4 2, 6, .inl (fun i9 => iI ((up (up (up (up (up (up (fun _ => 0) (0) (1)) (1) (1)) (2) (1)) (3) (1)) (4) (1)) (5) (1)) i9))))] H locs := G
                have G := z_ext G 3 rfl (F' := (fun _ => 1)) (fun k hk => by have h9 : k = 0 ∨ k = 1 ∨ k = 2 ∨ k = 3 ∨ k = 4 ∨ k = 5 := (by omega); rcases h9 with rfl | rfl | rfl | rfl | rfl | rfl <;> rfl)
                have G : zG D AA ss.heap [(mo, .inr (5, [.int (iI (th)), .int (iI (((n : Nat) : Int))), .ref mnw, .ref mte, .ref mge, .ref mus, .int (iI (((p : Nat) : Int))), .int (iI (((st : Nat) : Int))), .int (iI (cc)), .int (iI (bc)), .ref mco, .ref mfl, .ref mba, .ref mdu, .long (lI (pot)), .long (lI (gr)), .long (lI (bk)), .int (iI (btw)), .int (iI (bhd))])), (ar, .inl (k4 0, 6, .inl (fun i9 => iI (R i9)))), (ai, .inl (k4 0, 6, .inl (fun i9 => iI ((giveTo (fR (a, R, fun _ => 0)) 6 (a, R, fun _ => 0)).2.2 i9)))), (q1, .inl (k4 2, 6, .inl (fun i9 => iI ((fun _ => 1) i9))))] H locs := G
                refine z_astore E [(6, .ref q1), (0, .ref mo), (1, .int (iI (a))), (2, .ref ar), (3, .ref ai), (4, .int (iI (sumN R 6))), (5, .int (iI ((giveTo (fR (a, R, fun _ => 0)) 6 (a, R, fun _ => 0)).1)))] dX5_byRoom_106 hl (by decide) rfl (fun ls hl => ?_)
                refine z_aload_n E hl 1 rfl dX5_byRoom_108 rfl ?_
                refine z_iload E hl 6 rfl dX5_byRoom_109 ?_
                refine z_aload_n E hl 3 rfl dX5_byRoom_111 rfl ?_
                refine z_aload_n E hl 4 rfl dX5_byRoom_112 rfl ?_
                refine z_aload E hl 0 rfl dX5_byRoom_113 ?_
                refine z_callV E G hl.1 (c_X5_byOne l D k4 mo mnw mte mge mus mco mfl mba mdu th n p st cc bc pot gr bk btw bhd ar ai R ((giveTo (fR (a, R, fun _ => 0)) 6 (a, R, fun _ => 0))) q1 ((fun _ => 1)) hn x2.1 x2.2.1 hR x2.2.2.1 (fun _ _ => Or.inr rfl) (fun k hk h => absurd h (by decide)) x1) kV_X5_82 ⟨rfl, rfl, Nat.le_of_ble_eq_true rfl, Nat.le_of_ble_eq_true rfl⟩ [0, 1, 2, 3] rfl (by decide) 0 5 rfl rfl rfl rfl rfl (Nat.le_of_ble_eq_true rfl) dX5_byRoom_115 ⟨(by first | exact Nat.le_of_ble_eq_true rfl | omega | (show _ ≤ (1); omega)), (by first | exact Nat.le_of_ble_eq_true rfl | omega | (show _ ≤ (6); omega))⟩ (fun v9 w9 H locs hq G => ?_)
                obtain ⟨rfl, rfl⟩ := hq
                refine W.eq (g2 := F0 mm 118 ls []) rfl ?_
                have G : zG D AA ss.heap [(mo, .inr (5, [.int (iI (th)), .int (iI (((n : Nat) : Int))), .ref mnw, .ref mte, .ref mge, .ref mus, .int (iI (((p : Nat) : Int))), .int (iI (((st : Nat) : Int))), .int (iI (cc)), .int (iI (bc)), .ref mco, .ref mfl, .ref mba, .ref mdu, .long (lI (pot)), .long (lI (gr)), .long (lI (bk)), .int (iI (btw)), .int (iI (bhd))])), (ar, .inl (k4 0, 6, .inl (fun i9 => iI (R i9)))), (ai, .inl (k4 0, 6, .inl (fun i9 => iI ((giveTo (fun _ => 1) 6 (giveTo (fR (a, R, fun _ => 0)) 6 (a, R, fun _ => 0))).2.2 i9)))), (q1, .inl (k4 2, 6, .inl (fun i9 => iI ((fun _ => 1) i9))))] H locs := G
                have G : zG D AA ss.heap [(mo, .inr (5, [.int (iI (th)), .int (iI (((n : Nat) : Int))), .ref mnw, .ref mte, .ref mge, .ref mus, .int (iI (((p : Nat) : Int))), .int (iI (((st : Nat) : Int))), .int (iI (cc)), .int (iI (bc)), .ref mco, .ref mfl, .ref mba, .ref mdu, .long (lI (pot)), .long (lI (gr)), .long (lI (bk)), .int (iI (btw)), .int (iI (bhd))])), (ar, .inl (k4 0, 6, .inl (fun i9 => iI (R i9)))), (ai, .inl (k4 0, 6, .inl (fun i9 => iI ((roomS (a, R, fun _ => 0)).2.2 i9))))] H locs := (G.drop [0, 1, 2] rfl rfl)
                exact z_vret (w' := [(mo, .inr (5, [.int (iI (th)), .int (iI (((n : Nat) : Int))), .ref mnw, .ref mte, .ref mge, .ref mus, .int (iI (((p : Nat) : Int))), .int (iI (((st : Nat) : Int))), .int (iI (cc)), .int (iI (bc)), .ref mco, .ref mfl, .ref mba, .ref mdu, .long (lI (pot)), .long (lI (gr)), .long (lI (bk)), .int (iI (btw)), .int (iI (bhd))])), (ar, .inl (k4 0, 6, .inl (fun i9 => iI (R i9)))), (ai, .inl (k4 0, 6, .inl (fun i9 => iI ((roomS (a, R, fun _ => 0)).2.2 i9))))]) E hr hlocks G dX5_byRoom_118 (by omega) (by omega) (zx0 rfl) ⟨rfl, rfl⟩
              · skip
                have y1 := fR_le hI.1 hI.2.2.2 c_47 (k := i) (by omega)
                have y2 := b2 i (by omega)
                have y3 := hR i (by omega)
                have y0 := (shI_to hI b2 (j := i) (by omega)).1.1
                have w1 := mulB (a := a) (b := R i) b0.1 b0.2 y3.1 y3.2
                have y5 : (giveTo (fR (a, R, fun _ => 0)) i (a, R, fun _ => 0)).2.1 i = R i := giveTo_room i i (Nat.le_refl _)
                have y6 : (giveTo (fR (a, R, fun _ => 0)) i (a, R, fun _ => 0)).2.2 i = 0 := giveTo_part i i (Nat.le_refl _)
                have y8 : a * R i / sumN R 6 ≤ (giveTo (fR (a, R, fun _ => 0)) i (a, R, fun _ => 0)).1 := by
                  by_cases hx : 0 < R i
                  · exact give_lim hI.1 b2 (fR_T hI.1 c_47) (by omega) hx
                  · rw [show R i = 0 by omega, Int.mul_zero, Int.zero_ediv]; exact y0.1
                have y9 : 0 ≤ a * R i / sumN R 6 ∧ a * R i / sumN R 6 ≤ R i := ⟨y2, y1⟩
                refine z_aload_n E hl 3 rfl dX5_byRoom_50 rfl ?_
                refine z_iload E hl 6 rfl dX5_byRoom_51 ?_
                refine z_iload_n E hl 1 rfl dX5_byRoom_53 rfl ?_
                refine z_aload_n E hl 2 rfl dX5_byRoom_54 rfl ?_
                refine z_iload E hl 6 rfl dX5_byRoom_55 ?_
                refine z_iald E G 1 rfl (i) rfl (by omega) (by decide) dX5_byRoom_57 ?_
                refine z_imul E dX5_byRoom_58 ?_
                refine z_iload E hl 4 rfl dX5_byRoom_59 ?_
                refine z_idiv E dX5_byRoom_61 ⟨by omega, by omega⟩ ⟨by omega, by omega⟩ ?_
                refine z_eq (y := (giveTo (fR (a, R, fun _ => 0)) i (a, R, fun _ => 0)).2.2 i + min (a * R i / sumN R 6) (min ((giveTo (fR (a, R, fun _ => 0)) i (a, R, fun _ => 0)).2.1 i) (giveTo (fR (a, R, fun _ => 0)) i (a, R, fun _ => 0)).1)) (by omega) ?_
                refine z_iast E G 2 rfl (i) rfl (by omega) (by decide) dX5_byRoom_62 (fun H locs G => ?_)
                have G : zG D AA ss.heap [(mo, .inr (5, [.int (iI (th)), .int (iI (((n : Nat) : Int))), .ref mnw, .ref mte, .ref mge, .ref mus, .int (iI (((p : Nat) : Int))), .int (iI (((st : Nat) : Int))), .int (iI (cc)), .int (iI (bc)), .ref mco, .ref mfl, .ref mba, .ref mdu, .long (lI (pot)), .long (lI (gr)), .long (lI (bk)), .int (iI (btw)), .int (iI (bhd))])), (ar, .inl (k4 0, 6, .inl (fun i9 => iI (R i9)))), (ai, .inl (k4 0, 6, .inl (fun i9 => iI ((up (giveTo (fR (a, R, fun _ => 0)) i (a, R, fun _ => 0)).2.2 (i) ((giveTo (fR (a, R, fun _ => 0)) i (a, R, fun _ => 0)).2.2 i + min (a * R i / sumN R 6) (min ((giveTo (fR (a, R, fun _ => 0)) i (a, R, fun _ => 0)).2.1 i) (giveTo (fR (a, R, fun _ => 0)) i (a, R, fun _ => 0)).1))) i9))))] H locs := G
                refine z_iload E hl 5 rfl dX5_byRoom_63 ?_
                refine z_aload_n E hl 3 rfl dX5_byRoom_65 rfl ?_
                refine z_iload E hl 6 rfl dX5_byRoom_66 ?_
                refine z_iald E G 2 rfl (i) rfl (by omega) (by decide) dX5_byRoom_68 ?_
                refine z_eq (y := min (a * R i / sumN R 6) (min ((giveTo (fR (a, R, fun _ => 0)) i (a, R, fun _ => 0)).2.1 i) (giveTo (fR (a, R, fun _ => 0)) i (a, R, fun _ => 0)).1)) (by rw [up_s]; omega) ?_
                refine z_isub E dX5_byRoom_69 ?_
                refine z_istore E [(5, .int (iI (((giveTo (fR (a, R, fun _ => 0)) i (a, R, fun _ => 0)).1) - (min (a * R i / sumN R 6) (min ((giveTo (fR (a, R, fun _ => 0)) i (a, R, fun _ => 0)).2.1 i) (giveTo (fR (a, R, fun _ => 0)) i (a, R, fun _ => 0)).1))))), (0, .ref mo), (1, .int (iI (a))), (2, .ref ar), (3, .ref ai), (4, .int (iI (sumN R 6))), (6, .int (iI (((i : Nat) : Int))))] dX5_byRoom_70 hl (by decide) rfl (fun ls hl => ?_)
                refine z_iinc E [(6, .int (iI (((i : Nat) : Int) + 1))), (5, .int (iI (((giveTo (fR (a, R, fun _ => 0)) i (a, R, fun _ => 0)).1) - (min (a * R i / sumN R 6) (min ((giveTo (fR (a, R, fun _ => 0)) i (a, R, fun _ => 0)).2.1 i) (giveTo (fR (a, R, fun _ => 0)) i (a, R, fun _ => 0)).1))))), (0, .ref mo), (1, .int (iI (a))), (2, .ref ar), (3, .ref ai), (4, .int (iI (sumN R 6)))] dX5_byRoom_72 hl (k := 6) rfl (by decide) rfl (fun ls hl => ?_)
                refine z_goto (tgt := 36) E dX5_byRoom_75 (by decide) ?_
                exact ih36_2 (i + 1) _ _ _ (by omega) (by omega) G (lv_sub hl [2, 3, 4, 5, 6, 1, 0] rfl)
        exact hp36_2 (n + 1) 0 _ _ _ (by omega) (by omega) G (lv_sub hl [2, 3, 4, 5, 6, 1, 0] rfl)
      · skip
        refine z_iload E hl 4 rfl dX5_byRoom_15 ?_
        refine z_aload_n E hl 2 rfl dX5_byRoom_17 rfl ?_
        refine z_iload E hl 5 rfl dX5_byRoom_18 ?_
        refine z_iald E G 1 rfl (j) rfl (by omega) (by decide) dX5_byRoom_20 ?_
        refine z_iadd E dX5_byRoom_21 ?_
        refine z_istore E [(4, .int (iI ((sumN R j) + (R j)))), (0, .ref mo), (1, .int (iI (a))), (2, .ref ar), (3, .ref ai), (5, .int (iI (((j : Nat) : Int))))] dX5_byRoom_22 hl (by decide) rfl (fun ls hl => ?_)
        refine z_iinc E [(5, .int (iI (((j : Nat) : Int) + 1))), (4, .int (iI ((sumN R j) + (R j)))), (0, .ref mo), (1, .int (iI (a))), (2, .ref ar), (3, .ref ai)] dX5_byRoom_24 hl (k := 5) rfl (by decide) rfl (fun ls hl => ?_)
        refine z_goto (tgt := 6) E dX5_byRoom_27 (by decide) ?_
        exact ih6_1 (j + 1) _ _ _ (by omega) (by omega) G (lv_sub hl [2, 3, 4, 5, 1, 0] rfl)
  exact hp6_1 (n + 1) 0 _ _ _ (by omega) (by omega) G (lv_sub hl [2, 3, 4, 5, 1, 0] rfl)

def q_c_X5_byRank (k4 : Nat → ClassId) (mo mnw mte mge mus mco mfl mba mdu : Nat) (th : Int) (n p st : Nat) (cc bc pot gr bk btw bhd : Int) (ar ai ab : Nat) (R B : Nat → Int) (a : Int) : Option Value → va_W → Prop := (fun (v9 : Option Value) (w9 : va_W) => v9 = none ∧ w9 = [(mo, .inr (5, [.int (iI (th)), .int (iI (((n : Nat) : Int))), .ref mnw, .ref mte, .ref mge, .ref mus, .int (iI (((p : Nat) : Int))), .int (iI (((st : Nat) : Int))), .int (iI (cc)), .int (iI (bc)), .ref mco, .ref mfl, .ref mba, .ref mdu, .long (lI (pot)), .long (lI (gr)), .long (lI (bk)), .int (iI (btw)), .int (iI (bhd))])), (ar, .inl (k4 0, 6, .inl (fun i9 => iI (R i9)))), (ai, .inl (k4 0, 6, .inl (fun i9 => iI ((rankS (fun i => B (13 + i)) (a, R, fun _ => 0)).2.2 i9)))), (ab, .inl (k4 0, 19, .inl (fun i9 => iI (B i9))))])
set_option maxHeartbeats 4000000 in
set_option maxRecDepth 100000 in
theorem c_X5_byRank (l : Launch) (D : va_G) (k4 : Nat → ClassId) (mo mnw mte mge mus mco mfl mba mdu : Nat) (th : Int) (n p st : Nat) (cc bc pot gr bk btw bhd : Int) (ar ai ab : Nat) (R B : Nat → Int) (a : Int) (hn : n ≤ 6) (hR : rdOK R) (hI : shI n R (a, R, fun _ => 0)) (hK : ∀ k, k < 6 → 0 ≤ B (13 + k) ∧ B (13 + k) ≤ 99) : zC l yX5_byRank (zW yX5_byRank cX5_byRank 8 none) ({ frames := 1, cells := 0, slots := 0, locals := 15 } : Room) D k4 [.ref mo, .int (iI (a)), .ref ar, .ref ai, .ref ab] [(mo, .inr (5, [.int (iI (th)), .int (iI (((n : Nat) : Int))), .ref mnw, .ref mte, .ref mge, .ref mus, .int (iI (((p : Nat) : Int))), .int (iI (((st : Nat) : Int))), .int (iI (cc)), .int (iI (bc)), .ref mco, .ref mfl, .ref mba, .ref mdu, .long (lI (pot)), .long (lI (gr)), .long (lI (bk)), .int (iI (btw)), .int (iI (bhd))])), (ar, .inl (k4 0, 6, .inl (fun i9 => iI (R i9)))), (ai, .inl (k4 0, 6, .inl (fun i9 => iI ((fun _ => 0) i9)))), (ab, .inl (k4 0, 19, .inl (fun i9 => iI (B i9))))] (0) (0) (q_c_X5_byRank k4 mo mnw mte mge mus mco mfl mba mdu th n p st cc bc pot gr bk btw bhd ar ai ab R B a) := by
  refine zC_of (cc := cX5_byRank) (by decide) (Nat.le_of_ble_eq_true rfl) (fun pp ee ss mm bl me co AA H locs ls E hr hlocks hin G hl => ?_)
  have hl : lv_has ls 8 [(0, .ref mo), (1, .int (iI (a))), (2, .ref ar), (3, .ref ai), (4, .ref ab)] := hl
  refine z_iload_n E hl 1 rfl dX5_byRank_0 rfl ?_
  refine z_istore E [(5, .int (iI (a))), (0, .ref mo), (1, .int (iI (a))), (2, .ref ar), (3, .ref ai), (4, .ref ab)] dX5_byRank_1 hl (by decide) rfl (fun ls hl => ?_)
  refine z_iconst E dX5_byRank_3 ?_
  refine z_istore E [(6, .int (iI (0))), (5, .int (iI (a))), (0, .ref mo), (1, .int (iI (a))), (2, .ref ar), (3, .ref ai), (4, .ref ab)] dX5_byRank_4 hl (by decide) rfl (fun ls hl => ?_)
  have hp6_1 : ∀ (n9 : Nat) (g : Nat) (H : Heap) (locs : List Loc) (ls : Array Slot), (100 - g < n9) → (g ≤ 100) → zG D AA ss.heap [(mo, .inr (5, [.int (iI (th)), .int (iI (((n : Nat) : Int))), .ref mnw, .ref mte, .ref mge, .ref mus, .int (iI (((p : Nat) : Int))), .int (iI (((st : Nat) : Int))), .int (iI (cc)), .int (iI (bc)), .ref mco, .ref mfl, .ref mba, .ref mdu, .long (lI (pot)), .long (lI (gr)), .long (lI (bk)), .int (iI (btw)), .int (iI (bhd))])), (ar, .inl (k4 0, 6, .inl (fun i9 => iI (R i9)))), (ai, .inl (k4 0, 6, .inl (fun i9 => iI ((rT (fun i => B (13 + i)) (a, R, fun _ => 0) (g * 6)).2.2 i9)))), (ab, .inl (k4 0, 19, .inl (fun i9 => iI (B i9))))] H locs → lv_has ls 8 [(0, .ref mo), (1, .int (iI (a))), (2, .ref ar), (3, .ref ai), (4, .ref ab), (5, .int (iI ((rT (fun i => B (13 + i)) (a, R, fun _ => 0) (g * 6)).1))), (6, .int (iI (((g : Nat) : Int))))] → W pp l ee ({ frames := 1, cells := 0, slots := 0, locals := 15 } : Room) ss mm ([.ref mo, .int (iI (a)), .ref ar, .ref ai, .ref ab] : List Value).toArray bl me co H locs (0) (0) (MQ bl (zQ D [(mo, .inr (5, [.int (iI (th)), .int (iI (((n : Nat) : Int))), .ref mnw, .ref mte, .ref mge, .ref mus, .int (iI (((p : Nat) : Int))), .int (iI (((st : Nat) : Int))), .int (iI (cc)), .int (iI (bc)), .ref mco, .ref mfl, .ref mba, .ref mdu, .long (lI (pot)), .long (lI (gr)), .long (lI (bk)), .int (iI (btw)), .int (iI (bhd))])), (ar, .inl (k4 0, 6, .inl (fun i9 => iI (R i9)))), (ai, .inl (k4 0, 6, .inl (fun i9 => iI ((fun _ => 0) i9)))), (ab, .inl (k4 0, 19, .inl (fun i9 => iI (B i9))))] AA (q_c_X5_byRank k4 mo mnw mte mge mus mco mfl mba mdu th n p st cc bc pot gr bk btw bhd ar ai ab R B a)) ([.ref mo, .int (iI (a)), .ref ar, .ref ai, .ref ab] : List Value).toArray ss (0) (0) AA) (F0 mm 6 ls []) := by
    intro n9
    induction n9 with
    | zero => intro g H locs ls hn9 hg G hl; exact absurd hn9 (by omega)
    | succ n9 ih =>
      intro g H locs ls hn9 hg G hl
      have ih6_1 := @ih
      refine z_iload E hl 6 rfl dX5_byRank_6 ?_
      refine z_bipush E dX5_byRank_8 (by decide) ?_
      refine z_icmp_ge (tgt := 75) E dX5_byRank_10 (by decide) ⟨by omega, by omega⟩ (by decide) (fun c_10 => ?_) (fun c_10 => ?_)
      · skip
        obtain rfl : g = 100 := by omega
        have e9 : rankS (fun i => B (13 + i)) (a, R, fun _ => 0) = (rT (fun i => B (13 + i)) (a, R, fun _ => 0) (100 * 6)) := rankS_rT hK hI.1
        rw [← e9] at G
        have G : zG D AA ss.heap [(mo, .inr (5, [.int (iI (th)), .int (iI (((n : Nat) : Int))), .ref mnw, .ref mte, .ref mge, .ref mus, .int (iI (((p : Nat) : Int))), .int (iI (((st : Nat) : Int))), .int (iI (cc)), .int (iI (bc)), .ref mco, .ref mfl, .ref mba, .ref mdu, .long (lI (pot)), .long (lI (gr)), .long (lI (bk)), .int (iI (btw)), .int (iI (bhd))])), (ar, .inl (k4 0, 6, .inl (fun i9 => iI (R i9)))), (ai, .inl (k4 0, 6, .inl (fun i9 => iI ((rankS (fun i => B (13 + i)) (a, R, fun _ => 0)).2.2 i9)))), (ab, .inl (k4 0, 19, .inl (fun i9 => iI (B i9))))] H locs := G
        exact z_vret (w' := [(mo, .inr (5, [.int (iI (th)), .int (iI (((n : Nat) : Int))), .ref mnw, .ref mte, .ref mge, .ref mus, .int (iI (((p : Nat) : Int))), .int (iI (((st : Nat) : Int))), .int (iI (cc)), .int (iI (bc)), .ref mco, .ref mfl, .ref mba, .ref mdu, .long (lI (pot)), .long (lI (gr)), .long (lI (bk)), .int (iI (btw)), .int (iI (bhd))])), (ar, .inl (k4 0, 6, .inl (fun i9 => iI (R i9)))), (ai, .inl (k4 0, 6, .inl (fun i9 => iI ((rankS (fun i => B (13 + i)) (a, R, fun _ => 0)).2.2 i9)))), (ab, .inl (k4 0, 19, .inl (fun i9 => iI (B i9))))]) E hr hlocks G dX5_byRank_75 (by omega) (by omega) (zx0 rfl) ⟨rfl, rfl⟩
      · skip
        refine z_iconst E dX5_byRank_13 ?_
        refine z_istore E [(7, .int (iI (0))), (0, .ref mo), (1, .int (iI (a))), (2, .ref ar), (3, .ref ai), (4, .ref ab), (5, .int (iI ((rT (fun i => B (13 + i)) (a, R, fun _ => 0) (g * 6)).1))), (6, .int (iI (((g : Nat) : Int))))] dX5_byRank_14 hl (by decide) rfl (fun ls hl => ?_)
        have hp16_2 : ∀ (n9 : Nat) (j : Nat) (H : Heap) (locs : List Loc) (ls : Array Slot), (n - j < n9) → (j ≤ n) → zG D AA ss.heap [(mo, .inr (5, [.int (iI (th)), .int (iI (((n : Nat) : Int))), .ref mnw, .ref mte, .ref mge, .ref mus, .int (iI (((p : Nat) : Int))), .int (iI (((st : Nat) : Int))), .int (iI (cc)), .int (iI (bc)), .ref mco, .ref mfl, .ref mba, .ref mdu, .long (lI (pot)), .long (lI (gr)), .long (lI (bk)), .int (iI (btw)), .int (iI (bhd))])), (ar, .inl (k4 0, 6, .inl (fun i9 => iI (R i9)))), (ai, .inl (k4 0, 6, .inl (fun i9 => iI ((rT (fun i => B (13 + i)) (a, R, fun _ => 0) (g * 6 + j)).2.2 i9)))), (ab, .inl (k4 0, 19, .inl (fun i9 => iI (B i9))))] H locs → lv_has ls 8 [(0, .ref mo), (1, .int (iI (a))), (2, .ref ar), (3, .ref ai), (4, .ref ab), (5, .int (iI ((rT (fun i => B (13 + i)) (a, R, fun _ => 0) (g * 6 + j)).1))), (6, .int (iI (((g : Nat) : Int)))), (7, .int (iI (((j : Nat) : Int))))] → W pp l ee ({ frames := 1, cells := 0, slots := 0, locals := 15 } : Room) ss mm ([.ref mo, .int (iI (a)), .ref ar, .ref ai, .ref ab] : List Value).toArray bl me co H locs (0) (0) (MQ bl (zQ D [(mo, .inr (5, [.int (iI (th)), .int (iI (((n : Nat) : Int))), .ref mnw, .ref mte, .ref mge, .ref mus, .int (iI (((p : Nat) : Int))), .int (iI (((st : Nat) : Int))), .int (iI (cc)), .int (iI (bc)), .ref mco, .ref mfl, .ref mba, .ref mdu, .long (lI (pot)), .long (lI (gr)), .long (lI (bk)), .int (iI (btw)), .int (iI (bhd))])), (ar, .inl (k4 0, 6, .inl (fun i9 => iI (R i9)))), (ai, .inl (k4 0, 6, .inl (fun i9 => iI ((fun _ => 0) i9)))), (ab, .inl (k4 0, 19, .inl (fun i9 => iI (B i9))))] AA (q_c_X5_byRank k4 mo mnw mte mge mus mco mfl mba mdu th n p st cc bc pot gr bk btw bhd ar ai ab R B a)) ([.ref mo, .int (iI (a)), .ref ar, .ref ai, .ref ab] : List Value).toArray ss (0) (0) AA) (F0 mm 16 ls []) := by
          intro n9
          induction n9 with
          | zero => intro j H locs ls hn9 hj G hl; exact absurd hn9 (by omega)
          | succ n9 ih =>
            intro j H locs ls hn9 hj G hl
            have ih16_2 := @ih
            refine z_iload E hl 7 rfl dX5_byRank_16 ?_
            refine z_aload_n E hl 0 rfl dX5_byRank_18 rfl ?_
            refine kg_X5_39 E G 0 rfl rfl dX5_byRank_19 ?_
            refine z_icmp_ge (tgt := 69) E dX5_byRank_22 (by decide) ⟨by omega, by omega⟩ ⟨by omega, by omega⟩ (fun c_22 => ?_) (fun c_22 => ?_)
            · skip
              have hjn : j = n := by omega
              have e9 : (rT (fun i => B (13 + i)) (a, R, fun _ => 0) (g * 6 + j)) = (rT (fun i => B (13 + i)) (a, R, fun _ => 0) ((g + 1) * 6)) := by rw [hjn]; exact rT_pad6 hI hn g
              rw [e9] at G hl
              have hl : lv_has ls 8 [(0, .ref mo), (1, .int (iI (a))), (2, .ref ar), (3, .ref ai), (4, .ref ab), (5, .int (iI ((rT (fun i => B (13 + i)) (a, R, fun _ => 0) ((g + 1) * 6)).1))), (6, .int (iI (((g : Nat) : Int)))), (7, .int (iI (((j : Nat) : Int))))] := hl
              have G : zG D AA ss.heap [(mo, .inr (5, [.int (iI (th)), .int (iI (((n : Nat) : Int))), .ref mnw, .ref mte, .ref mge, .ref mus, .int (iI (((p : Nat) : Int))), .int (iI (((st : Nat) : Int))), .int (iI (cc)), .int (iI (bc)), .ref mco, .ref mfl, .ref mba, .ref mdu, .long (lI (pot)), .long (lI (gr)), .long (lI (bk)), .int (iI (btw)), .int (iI (bhd))])), (ar, .inl (k4 0, 6, .inl (fun i9 => iI (R i9)))), (ai, .inl (k4 0, 6, .inl (fun i9 => iI ((rT (fun i => B (13 + i)) (a, R, fun _ => 0) ((g + 1) * 6)).2.2 i9)))), (ab, .inl (k4 0, 19, .inl (fun i9 => iI (B i9))))] H locs := G
              refine z_iinc E [(6, .int (iI (((g : Nat) : Int) + 1))), (0, .ref mo), (1, .int (iI (a))), (2, .ref ar), (3, .ref ai), (4, .ref ab), (5, .int (iI ((rT (fun i => B (13 + i)) (a, R, fun _ => 0) ((g + 1) * 6)).1))), (7, .int (iI (((j : Nat) : Int))))] dX5_byRank_69 hl (k := 6) rfl (by decide) rfl (fun ls hl => ?_)
              refine z_goto (tgt := 6) E dX5_byRank_72 (by decide) ?_
              exact ih6_1 (g + 1) _ _ _ (by omega) (by omega) G (lv_sub hl [1, 2, 3, 4, 5, 6, 0] rfl)
            · skip
              have y9 := hK j (by omega)
              refine z_aload E hl 4 rfl dX5_byRank_25 ?_
              refine z_bipush E dX5_byRank_27 (by decide) ?_
              refine z_iload E hl 7 rfl dX5_byRank_29 ?_
              refine z_iadd E dX5_byRank_31 ?_
              refine z_iald E G 3 rfl ((13 + j)) (by omega) (by omega) (by decide) dX5_byRank_32 ?_
              refine z_iload E hl 6 rfl dX5_byRank_33 ?_
              refine z_icmp_eq (tgt := 41) E dX5_byRank_35 (by decide) ⟨by omega, by omega⟩ ⟨by omega, by omega⟩ (fun c_35 => ?_) (fun c_35 => ?_)
              · skip
                have y0 := (rT_I (rk := (fun i => B (13 + i))) hI (g * 6 + j)).1
                have y1 := rT_new (rk := (fun i => B (13 + i))) hK (S := (a, R, fun _ => 0)) (g * 6 + j) j (by omega) (by show ((g * 6 + j : Nat) : Int) ≤ B (13 + j) * 6 + j; omega)
                have y2 : (rT (fun i => B (13 + i)) (a, R, fun _ => 0) (g * 6 + j)).2.1 j = R j := y1.1
                have y3 : (rT (fun i => B (13 + i)) (a, R, fun _ => 0) (g * 6 + j)).2.2 j = 0 := y1.2
                have y4 := y0.1
                have y5 := hR j (by omega)
                have e7 : (rT (fun i => B (13 + i)) (a, R, fun _ => 0) (g * 6 + (j + 1))) = giveS j (rT (fun i => B (13 + i)) (a, R, fun _ => 0) (g * 6 + j)).1 (rT (fun i => B (13 + i)) (a, R, fun _ => 0) (g * 6 + j)) := rT_go (by omega) c_35
                refine z_aload_n E hl 3 rfl dX5_byRank_41 rfl ?_
                refine z_iload E hl 7 rfl dX5_byRank_42 ?_
                refine z_iload E hl 5 rfl dX5_byRank_44 ?_
                refine z_aload_n E hl 2 rfl dX5_byRank_46 rfl ?_
                refine z_iload E hl 7 rfl dX5_byRank_47 ?_
                refine z_iald E G 1 rfl (j) rfl (by omega) (by decide) dX5_byRank_49 ?_
                refine z_min E hl.1 zw_426 zw_184 zw_183 zw_185 (Nat.le_of_ble_eq_true rfl) (Nat.le_of_ble_eq_true rfl) (by omega) (by omega) ⟨by omega, by omega⟩ ⟨by omega, by omega⟩ dX5_byRank_50 ?_
                refine z_eq (y := (rT (fun i => B (13 + i)) (a, R, fun _ => 0) (g * 6 + j)).2.2 j + min (rT (fun i => B (13 + i)) (a, R, fun _ => 0) (g * 6 + j)).1 (min ((rT (fun i => B (13 + i)) (a, R, fun _ => 0) (g * 6 + j)).2.1 j) (rT (fun i => B (13 + i)) (a, R, fun _ => 0) (g * 6 + j)).1)) (by omega) ?_
                refine z_iast E G 2 rfl (j) rfl (by omega) (by decide) dX5_byRank_53 (fun H locs G => ?_)
                have G : zG D AA ss.heap [(mo, .inr (5, [.int (iI (th)), .int (iI (((n : Nat) : Int))), .ref mnw, .ref mte, .ref mge, .ref mus, .int (iI (((p : Nat) : Int))), .int (iI (((st : Nat) : Int))), .int (iI (cc)), .int (iI (bc)), .ref mco, .ref mfl, .ref mba, .ref mdu, .long (lI (pot)), .long (lI (gr)), .long (lI (bk)), .int (iI (btw)), .int (iI (bhd))])), (ar, .inl (k4 0, 6, .inl (fun i9 => iI (R i9)))), (ai, .inl (k4 0, 6, .inl (fun i9 => iI ((up (rT (fun i => B (13 + i)) (a, R, fun _ => 0) (g * 6 + j)).2.2 (j) ((rT (fun i => B (13 + i)) (a, R, fun _ => 0) (g * 6 + j)).2.2 j + min (rT (fun i => B (13 + i)) (a, R, fun _ => 0) (g * 6 + j)).1 (min ((rT (fun i => B (13 + i)) (a, R, fun _ => 0) (g * 6 + j)).2.1 j) (rT (fun i => B (13 + i)) (a, R, fun _ => 0) (g * 6 + j)).1))) i9)))), (ab, .inl (k4 0, 19, .inl (fun i9 => iI (B i9))))] H locs := G
                refine z_iload E hl 5 rfl dX5_byRank_54 ?_
                refine z_aload_n E hl 3 rfl dX5_byRank_56 rfl ?_
                refine z_iload E hl 7 rfl dX5_byRank_57 ?_
                refine z_iald E G 2 rfl (j) rfl (by omega) (by decide) dX5_byRank_59 ?_
                refine z_eq (y := min (rT (fun i => B (13 + i)) (a, R, fun _ => 0) (g * 6 + j)).1 (min ((rT (fun i => B (13 + i)) (a, R, fun _ => 0) (g * 6 + j)).2.1 j) (rT (fun i => B (13 + i)) (a, R, fun _ => 0) (g * 6 + j)).1)) (by rw [up_s]; omega) ?_
                refine z_isub E dX5_byRank_60 ?_
                refine z_istore E [(5, .int (iI (((rT (fun i => B (13 + i)) (a, R, fun _ => 0) (g * 6 + j)).1) - (min (rT (fun i => B (13 + i)) (a, R, fun _ => 0) (g * 6 + j)).1 (min ((rT (fun i => B (13 + i)) (a, R, fun _ => 0) (g * 6 + j)).2.1 j) (rT (fun i => B (13 + i)) (a, R, fun _ => 0) (g * 6 + j)).1))))), (0, .ref mo), (1, .int (iI (a))), (2, .ref ar), (3, .ref ai), (4, .ref ab), (6, .int (iI (((g : Nat) : Int)))), (7, .int (iI (((j : Nat) : Int))))] dX5_byRank_61 hl (by decide) rfl (fun ls hl => ?_)
                refine z_iinc E [(7, .int (iI (((j : Nat) : Int) + 1))), (5, .int (iI (((rT (fun i => B (13 + i)) (a, R, fun _ => 0) (g * 6 + j)).1) - (min (rT (fun i => B (13 + i)) (a, R, fun _ => 0) (g * 6 + j)).1 (min ((rT (fun i => B (13 + i)) (a, R, fun _ => 0) (g * 6 + j)).2.1 j) (rT (fun i => B (13 + i)) (a, R, fun _ => 0) (g * 6 + j)).1))))), (0, .ref mo), (1, .int (iI (a))), (2, .ref ar), (3, .ref ai), (4, .ref ab), (6, .int (iI (((g : Nat) : Int))))] dX5_byRank_63 hl (k := 7) rfl (by decide) rfl (fun ls hl => ?_)
                refine z_goto (tgt := 16) E dX5_byRank_66 (by decide) ?_
                first | (have e8 : (rT (fun i => B (13 + i)) (a, R, fun _ => 0) (g * 6 + j)).1 - (min (rT (fun i => B (13 + i)) (a, R, fun _ => 0) (g * 6 + j)).1 (min ((rT (fun i => B (13 + i)) (a, R, fun _ => 0) (g * 6 + j)).2.1 j) (rT (fun i => B (13 + i)) (a, R, fun _ => 0) (g * 6 + j)).1)) = (rT (fun i => B (13 + i)) (a, R, fun _ => 0) (g * 6 + (j + 1))).1 := (by rw [e7]; rfl); rw [e8] at hl; have G : zG D AA ss.heap [(mo, .inr (5, [.int (iI (th)), .int (iI (((n : Nat) : Int))), .ref mnw, .ref mte, .ref mge, .ref mus, .int (iI (((p : Nat) : Int))), .int (iI (((st : Nat) : Int))), .int (iI (cc)), .int (iI (bc)), .ref mco, .ref mfl, .ref mba, .ref mdu, .long (lI (pot)), .long (lI (gr)), .long (lI (bk)), .int (iI (btw)), .int (iI (bhd))])), (ar, .inl (k4 0, 6, .inl (fun i9 => iI (R i9)))), (ai, .inl (k4 0, 6, .inl (fun i9 => iI ((rT (fun i => B (13 + i)) (a, R, fun _ => 0) (g * 6 + (j + 1))).2.2 i9)))), (ab, .inl (k4 0, 19, .inl (fun i9 => iI (B i9))))] H locs := (by rw [e7]; exact G); have G0 := G) | skip
                exact ih16_2 (j + 1) _ _ _ (by omega) (by omega) G (lv_sub hl [2, 3, 4, 5, 6, 1, 7, 0] rfl)
              · skip
                have e9 : (rT (fun i => B (13 + i)) (a, R, fun _ => 0) (g * 6 + (j + 1))) = (rT (fun i => B (13 + i)) (a, R, fun _ => 0) (g * 6 + j)) := rT_stay (by omega) c_35
                rw [← e9] at G hl
                have hl : lv_has ls 8 [(0, .ref mo), (1, .int (iI (a))), (2, .ref ar), (3, .ref ai), (4, .ref ab), (5, .int (iI ((rT (fun i => B (13 + i)) (a, R, fun _ => 0) (g * 6 + (j + 1))).1))), (6, .int (iI (((g : Nat) : Int)))), (7, .int (iI (((j : Nat) : Int))))] := hl
                have G : zG D AA ss.heap [(mo, .inr (5, [.int (iI (th)), .int (iI (((n : Nat) : Int))), .ref mnw, .ref mte, .ref mge, .ref mus, .int (iI (((p : Nat) : Int))), .int (iI (((st : Nat) : Int))), .int (iI (cc)), .int (iI (bc)), .ref mco, .ref mfl, .ref mba, .ref mdu, .long (lI (pot)), .long (lI (gr)), .long (lI (bk)), .int (iI (btw)), .int (iI (bhd))])), (ar, .inl (k4 0, 6, .inl (fun i9 => iI (R i9)))), (ai, .inl (k4 0, 6, .inl (fun i9 => iI ((rT (fun i => B (13 + i)) (a, R, fun _ => 0) (g * 6 + (j + 1))).2.2 i9)))), (ab, .inl (k4 0, 19, .inl (fun i9 => iI (B i9))))] H locs := G
                refine z_goto (tgt := 63) E dX5_byRank_38 (by decide) ?_
                refine z_iinc E [(7, .int (iI (((j : Nat) : Int) + 1))), (0, .ref mo), (1, .int (iI (a))), (2, .ref ar), (3, .ref ai), (4, .ref ab), (5, .int (iI ((rT (fun i => B (13 + i)) (a, R, fun _ => 0) (g * 6 + (j + 1))).1))), (6, .int (iI (((g : Nat) : Int))))] dX5_byRank_63 hl (k := 7) rfl (by decide) rfl (fun ls hl => ?_)
                refine z_goto (tgt := 16) E dX5_byRank_66 (by decide) ?_
                first | (have e8 : (rT (fun i => B (13 + i)) (a, R, fun _ => 0) (g * 6 + j)).1 - (min (rT (fun i => B (13 + i)) (a, R, fun _ => 0) (g * 6 + j)).1 (min ((rT (fun i => B (13 + i)) (a, R, fun _ => 0) (g * 6 + j)).2.1 j) (rT (fun i => B (13 + i)) (a, R, fun _ => 0) (g * 6 + j)).1)) = (rT (fun i => B (13 + i)) (a, R, fun _ => 0) (g * 6 + (j + 1))).1 := (by rw [e7]; rfl); rw [e8] at hl; have G : zG D AA ss.heap [(mo, .inr (5, [.int (iI (th)), .int (iI (((n : Nat) : Int))), .ref mnw, .ref mte, .ref mge, .ref mus, .int (iI (((p : Nat) : Int))), .int (iI (((st : Nat) : Int))), .int (iI (cc)), .int (iI (bc)), .ref mco, .ref mfl, .ref mba, .ref mdu, .long (lI (pot)), .long (lI (gr)), .long (lI (bk)), .int (iI (btw)), .int (iI (bhd))])), (ar, .inl (k4 0, 6, .inl (fun i9 => iI (R i9)))), (ai, .inl (k4 0, 6, .inl (fun i9 => iI ((rT (fun i => B (13 + i)) (a, R, fun _ => 0) (g * 6 + (j + 1))).2.2 i9)))), (ab, .inl (k4 0, 19, .inl (fun i9 => iI (B i9))))] H locs := (by rw [e7]; exact G); have G0 := G) | skip
                exact ih16_2 (j + 1) _ _ _ (by omega) (by omega) G (lv_sub hl [1, 2, 3, 4, 5, 6, 7, 0] rfl)
        exact hp16_2 (n + 1) 0 _ _ _ (by omega) (by omega) G (lv_sub hl [1, 2, 3, 4, 5, 6, 7, 0] rfl)
  exact hp6_1 101 0 _ _ _ (by decide) (by decide) G (lv_sub hl [2, 3, 4, 5, 6, 1, 0] rfl)

def q_c_X5_shared (k4 : Nat → ClassId) (mo mnw mte mge mus mco mfl mba mdu : Nat) (th : Int) (n p st : Nat) (cc bc pot gr bk btw bhd : Int) (ar ab : Nat) (R B : Nat → Int) (a ru : Int) : Option Value → va_W → Prop := (fun (v9 : Option Value) (w9 : va_W) => ∃ (q9 : Nat), v9 = some (.ref q9) ∧ w9 = [(mo, .inr (5, [.int (iI (th)), .int (iI (((n : Nat) : Int))), .ref mnw, .ref mte, .ref mge, .ref mus, .int (iI (((p : Nat) : Int))), .int (iI (((st : Nat) : Int))), .int (iI (cc)), .int (iI (bc)), .ref mco, .ref mfl, .ref mba, .ref mdu, .long (lI (pot)), .long (lI (gr)), .long (lI (bk)), .int (iI (btw)), .int (iI (bhd))])), (ar, .inl (k4 0, 6, .inl (fun i9 => iI (R i9)))), (ab, .inl (k4 0, 19, .inl (fun i9 => iI (B i9)))), (q9, .inl (k4 0, 6, .inl (fun i9 => iI ((shareS ru (fun i => B (7 + i)) (fun i => B (13 + i)) (a, R, fun _ => 0)).2.2 i9))))])
set_option maxHeartbeats 4000000 in
set_option maxRecDepth 100000 in
theorem c_X5_shared (l : Launch) (D : va_G) (k4 : Nat → ClassId) (mo mnw mte mge mus mco mfl mba mdu : Nat) (th : Int) (n p st : Nat) (cc bc pot gr bk btw bhd : Int) (ar ab : Nat) (R B : Nat → Int) (a ru : Int) (hn : n ≤ 6) (hR : rdOK R) (hI : shI n R (a, R, fun _ => 0)) (hB : ∀ k, k < 6 → 0 ≤ B (7 + k) ∧ B (7 + k) ≤ 100) (hK : ∀ k, k < 6 → 0 ≤ B (13 + k) ∧ B (13 + k) ≤ 99) (hru : 0 ≤ ru ∧ ru ≤ 3) : zC l yX5_shared (zW yX5_shared cX5_shared 6 (some (.array .int))) ({ frames := 3, cells := 1 + shX ru a R, slots := 6 + 6 * shX ru a R, locals := 87 } : Room) D k4 [.ref mo, .int (iI (a)), .ref ar, .ref ab, .int (iI (ru))] [(mo, .inr (5, [.int (iI (th)), .int (iI (((n : Nat) : Int))), .ref mnw, .ref mte, .ref mge, .ref mus, .int (iI (((p : Nat) : Int))), .int (iI (((st : Nat) : Int))), .int (iI (cc)), .int (iI (bc)), .ref mco, .ref mfl, .ref mba, .ref mdu, .long (lI (pot)), .long (lI (gr)), .long (lI (bk)), .int (iI (btw)), .int (iI (bhd))])), (ar, .inl (k4 0, 6, .inl (fun i9 => iI (R i9)))), (ab, .inl (k4 0, 19, .inl (fun i9 => iI (B i9))))] (1 + shX ru a R) (6 + 6 * shX ru a R) (q_c_X5_shared k4 mo mnw mte mge mus mco mfl mba mdu th n p st cc bc pot gr bk btw bhd ar ab R B a ru) := by
  refine zC_of (cc := cX5_shared) (by decide) (Nat.le_of_ble_eq_true rfl) (fun pp ee ss mm bl me co AA H locs ls E hr hlocks hin G hl => ?_)
  have hl : lv_has ls 6 [(0, .ref mo), (1, .int (iI (a))), (2, .ref ar), (3, .ref ab), (4, .int (iI (ru)))] := hl
  refine z_bipush E dX5_shared_0 (by decide) ?_
  refine z_newa_int E G (n := 6) rfl zw_31 (by first | exact Nat.le_of_ble_eq_true rfl | omega | (show _ ≤ (1 + shX ru a R); omega)) (by first | exact Nat.le_of_ble_eq_true rfl | omega | (show _ ≤ (6 + 6 * shX ru a R); omega)) (by decide) dX5_shared_2 (fun q1 H G => ?_)
  have G : zG D AA ss.heap [(mo, .inr (5, [.int (iI (th)), .int (iI (((n : Nat) : Int))), .ref mnw, .ref mte, .ref mge, .ref mus, .int (iI (((p : Nat) : Int))), .int (iI (((st : Nat) : Int))), .int (iI (cc)), .int (iI (bc)), .ref mco, .ref mfl, .ref mba, .ref mdu, .long (lI (pot)), .long (lI (gr)), .long (lI (bk)), .int (iI (btw)), .int (iI (bhd))])), (ar, .inl (k4 0, 6, .inl (fun i9 => iI (R i9)))), (ab, .inl (k4 0, 19, .inl (fun i9 => iI (B i9)))), (q1, .inl (k4 0, 6, .inl (fun i9 => iI ((fun _ => 0) i9))))] H locs := G
  refine z_astore E [(5, .ref q1), (0, .ref mo), (1, .int (iI (a))), (2, .ref ar), (3, .ref ab), (4, .int (iI (ru)))] dX5_shared_4 hl (by decide) rfl (fun ls hl => ?_)
  refine z_iload E hl 5 rfl dX5_shared_6 ?_
  refine z_if_ne (tgt := 24) E dX5_shared_8 (by decide) ⟨by omega, by omega⟩ (fun c_8 => ?_) (fun c_8 => ?_)
  · skip
    refine z_iload E hl 5 rfl dX5_shared_24 ?_
    refine z_iconst E dX5_shared_26 ?_
    refine z_icmp_ne (tgt := 42) E dX5_shared_27 (by decide) ⟨by omega, by omega⟩ (by decide) (fun c_27 => ?_) (fun c_27 => ?_)
    · skip
      refine z_iload E hl 5 rfl dX5_shared_42 ?_
      refine z_iconst E dX5_shared_44 ?_
      refine z_icmp_ne (tgt := 59) E dX5_shared_45 (by decide) ⟨by omega, by omega⟩ (by decide) (fun c_45 => ?_) (fun c_45 => ?_)
      · skip
        refine z_aload_n E hl 1 rfl dX5_shared_59 rfl ?_
        refine z_iload_n E hl 2 rfl dX5_shared_60 rfl ?_
        refine z_aload_n E hl 3 rfl dX5_shared_61 rfl ?_
        refine z_aload E hl 0 rfl dX5_shared_62 ?_
        refine z_aload_n E hl 4 rfl dX5_shared_64 rfl ?_
        refine z_callV E G hl.1 (c_X5_byRank l D k4 mo mnw mte mge mus mco mfl mba mdu th n p st cc bc pot gr bk btw bhd ar q1 ab R B a hn hR hI hK) kV_X5_101 ⟨rfl, rfl, Nat.le_of_ble_eq_true rfl, Nat.le_of_ble_eq_true rfl⟩ [0, 1, 3, 2] rfl (by decide) 0 5 rfl rfl rfl rfl rfl (Nat.le_of_ble_eq_true rfl) dX5_shared_65 ⟨(by first | exact Nat.le_of_ble_eq_true rfl | omega | (show _ ≤ (1 + shX ru a R); omega)), (by first | exact Nat.le_of_ble_eq_true rfl | omega | (show _ ≤ (6 + 6 * shX ru a R); omega))⟩ (fun v9 w9 H locs hq G => ?_)
        obtain ⟨rfl, rfl⟩ := hq
        refine W.eq (g2 := F0 mm 68 ls []) rfl ?_
        have G : zG D AA ss.heap [(mo, .inr (5, [.int (iI (th)), .int (iI (((n : Nat) : Int))), .ref mnw, .ref mte, .ref mge, .ref mus, .int (iI (((p : Nat) : Int))), .int (iI (((st : Nat) : Int))), .int (iI (cc)), .int (iI (bc)), .ref mco, .ref mfl, .ref mba, .ref mdu, .long (lI (pot)), .long (lI (gr)), .long (lI (bk)), .int (iI (btw)), .int (iI (bhd))])), (ar, .inl (k4 0, 6, .inl (fun i9 => iI (R i9)))), (ab, .inl (k4 0, 19, .inl (fun i9 => iI (B i9)))), (q1, .inl (k4 0, 6, .inl (fun i9 => iI ((rankS (fun i => B (13 + i)) (a, R, fun _ => 0)).2.2 i9))))] H locs := G
        have e9 : shareS ru (fun i => B (7 + i)) (fun i => B (13 + i)) (a, R, fun _ => 0) = rankS (fun i => B (13 + i)) (a, R, fun _ => 0) := by unfold shareS; rw [if_neg (by omega), if_neg (by omega), if_pos (by omega)]
        rw [← e9] at G
        have G : zG D AA ss.heap [(mo, .inr (5, [.int (iI (th)), .int (iI (((n : Nat) : Int))), .ref mnw, .ref mte, .ref mge, .ref mus, .int (iI (((p : Nat) : Int))), .int (iI (((st : Nat) : Int))), .int (iI (cc)), .int (iI (bc)), .ref mco, .ref mfl, .ref mba, .ref mdu, .long (lI (pot)), .long (lI (gr)), .long (lI (bk)), .int (iI (btw)), .int (iI (bhd))])), (ar, .inl (k4 0, 6, .inl (fun i9 => iI (R i9)))), (ab, .inl (k4 0, 19, .inl (fun i9 => iI (B i9)))), (q1, .inl (k4 0, 6, .inl (fun i9 => iI ((shareS ru (fun i => B (7 + i)) (fun i => B (13 + i)) (a, R, fun _ => 0)).2.2 i9))))] H locs := G
        refine z_aload E hl 0 rfl dX5_shared_68 ?_
        exact z_aret (w' := [(mo, .inr (5, [.int (iI (th)), .int (iI (((n : Nat) : Int))), .ref mnw, .ref mte, .ref mge, .ref mus, .int (iI (((p : Nat) : Int))), .int (iI (((st : Nat) : Int))), .int (iI (cc)), .int (iI (bc)), .ref mco, .ref mfl, .ref mba, .ref mdu, .long (lI (pot)), .long (lI (gr)), .long (lI (bk)), .int (iI (btw)), .int (iI (bhd))])), (ar, .inl (k4 0, 6, .inl (fun i9 => iI (R i9)))), (ab, .inl (k4 0, 19, .inl (fun i9 => iI (B i9)))), (q1, .inl (k4 0, 6, .inl (fun i9 => iI ((shareS ru (fun i => B (7 + i)) (fun i => B (13 + i)) (a, R, fun _ => 0)).2.2 i9))))]) E hr (by first | exact Or.inl ⟨_, rfl⟩ | exact Or.inr ⟨_, rfl⟩) hlocks G dX5_shared_70 (by omega) (by omega) (⟨[_], rfl⟩) ⟨q1, rfl, rfl⟩
      · skip
        have k2 : 1 ≤ shX ru a R := by rw [c_45]; exact Nat.le_refl 1
        refine z_aload_n E hl 1 rfl dX5_shared_48 rfl ?_
        refine z_iload_n E hl 2 rfl dX5_shared_49 rfl ?_
        refine z_aload_n E hl 3 rfl dX5_shared_50 rfl ?_
        refine z_aload E hl 0 rfl dX5_shared_51 ?_
        refine z_callV E G hl.1 (c_X5_byRoom l D k4 mo mnw mte mge mus mco mfl mba mdu th n p st cc bc pot gr bk btw bhd ar q1 R a hn hR hI) kV_X5_97 ⟨rfl, rfl, Nat.le_of_ble_eq_true rfl, Nat.le_of_ble_eq_true rfl⟩ [0, 1, 3] rfl (by decide) 0 5 rfl rfl rfl rfl rfl (Nat.le_of_ble_eq_true rfl) dX5_shared_53 ⟨(by first | exact Nat.le_of_ble_eq_true rfl | omega | (show _ ≤ (1 + shX ru a R); omega)), (by first | exact Nat.le_of_ble_eq_true rfl | omega | (show _ ≤ (6 + 6 * shX ru a R); omega))⟩ (fun v9 w9 H locs hq G => ?_)
        obtain ⟨rfl, rfl⟩ := hq
        refine W.eq (g2 := F0 mm 56 ls []) rfl ?_
        have G : zG D AA ss.heap [(mo, .inr (5, [.int (iI (th)), .int (iI (((n : Nat) : Int))), .ref mnw, .ref mte, .ref mge, .ref mus, .int (iI (((p : Nat) : Int))), .int (iI (((st : Nat) : Int))), .int (iI (cc)), .int (iI (bc)), .ref mco, .ref mfl, .ref mba, .ref mdu, .long (lI (pot)), .long (lI (gr)), .long (lI (bk)), .int (iI (btw)), .int (iI (bhd))])), (ar, .inl (k4 0, 6, .inl (fun i9 => iI (R i9)))), (ab, .inl (k4 0, 19, .inl (fun i9 => iI (B i9)))), (q1, .inl (k4 0, 6, .inl (fun i9 => iI ((roomS (a, R, fun _ => 0)).2.2 i9))))] H locs := G
        have e9 : shareS ru (fun i => B (7 + i)) (fun i => B (13 + i)) (a, R, fun _ => 0) = roomS (a, R, fun _ => 0) := by unfold shareS; rw [if_neg (by omega), if_pos c_45]
        rw [← e9] at G
        have G : zG D AA ss.heap [(mo, .inr (5, [.int (iI (th)), .int (iI (((n : Nat) : Int))), .ref mnw, .ref mte, .ref mge, .ref mus, .int (iI (((p : Nat) : Int))), .int (iI (((st : Nat) : Int))), .int (iI (cc)), .int (iI (bc)), .ref mco, .ref mfl, .ref mba, .ref mdu, .long (lI (pot)), .long (lI (gr)), .long (lI (bk)), .int (iI (btw)), .int (iI (bhd))])), (ar, .inl (k4 0, 6, .inl (fun i9 => iI (R i9)))), (ab, .inl (k4 0, 19, .inl (fun i9 => iI (B i9)))), (q1, .inl (k4 0, 6, .inl (fun i9 => iI ((shareS ru (fun i => B (7 + i)) (fun i => B (13 + i)) (a, R, fun _ => 0)).2.2 i9))))] H locs := G
        refine z_goto (tgt := 68) E dX5_shared_56 (by decide) ?_
        refine z_aload E hl 0 rfl dX5_shared_68 ?_
        exact z_aret (w' := [(mo, .inr (5, [.int (iI (th)), .int (iI (((n : Nat) : Int))), .ref mnw, .ref mte, .ref mge, .ref mus, .int (iI (((p : Nat) : Int))), .int (iI (((st : Nat) : Int))), .int (iI (cc)), .int (iI (bc)), .ref mco, .ref mfl, .ref mba, .ref mdu, .long (lI (pot)), .long (lI (gr)), .long (lI (bk)), .int (iI (btw)), .int (iI (bhd))])), (ar, .inl (k4 0, 6, .inl (fun i9 => iI (R i9)))), (ab, .inl (k4 0, 19, .inl (fun i9 => iI (B i9)))), (q1, .inl (k4 0, 6, .inl (fun i9 => iI ((shareS ru (fun i => B (7 + i)) (fun i => B (13 + i)) (a, R, fun _ => 0)).2.2 i9))))]) E hr (by first | exact Or.inl ⟨_, rfl⟩ | exact Or.inr ⟨_, rfl⟩) hlocks G dX5_shared_70 (by omega) (by omega) (⟨[_], rfl⟩) ⟨q1, rfl, rfl⟩
    · skip
      have k2 : mS (fun i => B (7 + i)) (a, R, fun _ => 0) ≤ shX ru a R := by rw [c_27]; exact shX_S (fun i => B (7 + i)) (a, R, fun _ => 0)
      refine z_aload_n E hl 1 rfl dX5_shared_30 rfl ?_
      refine z_iload_n E hl 2 rfl dX5_shared_31 rfl ?_
      refine z_aload_n E hl 3 rfl dX5_shared_32 rfl ?_
      refine z_aload E hl 0 rfl dX5_shared_33 ?_
      refine z_aload_n E hl 4 rfl dX5_shared_35 rfl ?_
      refine z_callV E G hl.1 (c_X5_byShares l D k4 mo mnw mte mge mus mco mfl mba mdu th n p st cc bc pot gr bk btw bhd ar q1 ab R B ((a, R, fun _ => 0)) hn hR hI hB) kV_X5_93 ⟨rfl, rfl, Nat.le_of_ble_eq_true rfl, Nat.le_of_ble_eq_true rfl⟩ [0, 1, 3, 2] rfl (by decide) 0 5 rfl rfl rfl rfl rfl (Nat.le_of_ble_eq_true rfl) dX5_shared_36 ⟨(by first | exact Nat.le_of_ble_eq_true rfl | omega | (show _ ≤ (1 + shX ru a R); omega)), (by first | exact Nat.le_of_ble_eq_true rfl | omega | (show _ ≤ (6 + 6 * shX ru a R); omega))⟩ (fun v9 w9 H locs hq G => ?_)
      obtain ⟨rfl, rfl⟩ := hq
      refine W.eq (g2 := F0 mm 39 ls []) rfl ?_
      have G : zG D AA ss.heap [(mo, .inr (5, [.int (iI (th)), .int (iI (((n : Nat) : Int))), .ref mnw, .ref mte, .ref mge, .ref mus, .int (iI (((p : Nat) : Int))), .int (iI (((st : Nat) : Int))), .int (iI (cc)), .int (iI (bc)), .ref mco, .ref mfl, .ref mba, .ref mdu, .long (lI (pot)), .long (lI (gr)), .long (lI (bk)), .int (iI (btw)), .int (iI (bhd))])), (ar, .inl (k4 0, 6, .inl (fun i9 => iI (R i9)))), (ab, .inl (k4 0, 19, .inl (fun i9 => iI (B i9)))), (q1, .inl (k4 0, 6, .inl (fun i9 => iI ((eqS (shS (fun i => B (7 + i)) (a, R, fun _ => 0))).2.2 i9))))] H locs := G
      have e9 : shareS ru (fun i => B (7 + i)) (fun i => B (13 + i)) (a, R, fun _ => 0) = eqS (shS (fun i => B (7 + i)) (a, R, fun _ => 0)) := by unfold shareS; rw [if_pos c_27]
      rw [← e9] at G
      have G : zG D AA ss.heap [(mo, .inr (5, [.int (iI (th)), .int (iI (((n : Nat) : Int))), .ref mnw, .ref mte, .ref mge, .ref mus, .int (iI (((p : Nat) : Int))), .int (iI (((st : Nat) : Int))), .int (iI (cc)), .int (iI (bc)), .ref mco, .ref mfl, .ref mba, .ref mdu, .long (lI (pot)), .long (lI (gr)), .long (lI (bk)), .int (iI (btw)), .int (iI (bhd))])), (ar, .inl (k4 0, 6, .inl (fun i9 => iI (R i9)))), (ab, .inl (k4 0, 19, .inl (fun i9 => iI (B i9)))), (q1, .inl (k4 0, 6, .inl (fun i9 => iI ((shareS ru (fun i => B (7 + i)) (fun i => B (13 + i)) (a, R, fun _ => 0)).2.2 i9))))] H locs := G
      refine z_goto (tgt := 68) E dX5_shared_39 (by decide) ?_
      refine z_aload E hl 0 rfl dX5_shared_68 ?_
      exact z_aret (w' := [(mo, .inr (5, [.int (iI (th)), .int (iI (((n : Nat) : Int))), .ref mnw, .ref mte, .ref mge, .ref mus, .int (iI (((p : Nat) : Int))), .int (iI (((st : Nat) : Int))), .int (iI (cc)), .int (iI (bc)), .ref mco, .ref mfl, .ref mba, .ref mdu, .long (lI (pot)), .long (lI (gr)), .long (lI (bk)), .int (iI (btw)), .int (iI (bhd))])), (ar, .inl (k4 0, 6, .inl (fun i9 => iI (R i9)))), (ab, .inl (k4 0, 19, .inl (fun i9 => iI (B i9)))), (q1, .inl (k4 0, 6, .inl (fun i9 => iI ((shareS ru (fun i => B (7 + i)) (fun i => B (13 + i)) (a, R, fun _ => 0)).2.2 i9))))]) E hr (by first | exact Or.inl ⟨_, rfl⟩ | exact Or.inr ⟨_, rfl⟩) hlocks G dX5_shared_70 (by omega) (by omega) (⟨[_], rfl⟩) ⟨q1, rfl, rfl⟩
  · skip
    have k2 : mE (a, R, fun _ => 0) ≤ shX ru a R := by rw [c_8]; exact shX_E (a, R, fun _ => 0)
    refine z_aload_n E hl 1 rfl dX5_shared_11 rfl ?_
    refine z_iload_n E hl 2 rfl dX5_shared_12 rfl ?_
    refine z_aload_n E hl 3 rfl dX5_shared_13 rfl ?_
    refine z_aload E hl 0 rfl dX5_shared_14 ?_
    refine z_aload_n E hl 4 rfl dX5_shared_16 rfl ?_
    refine z_callV E G hl.1 (c_X5_equally l D k4 mo mnw mte mge mus mco mfl mba mdu th n p st cc bc pot gr bk btw bhd ar q1 ab R ((a, R, fun _ => 0)) hn hR hI) kV_X5_89 ⟨rfl, rfl, Nat.le_of_ble_eq_true rfl, Nat.le_of_ble_eq_true rfl⟩ [0, 1, 3] rfl (by decide) 0 5 rfl rfl rfl rfl rfl (Nat.le_of_ble_eq_true rfl) dX5_shared_17 ⟨(by first | exact Nat.le_of_ble_eq_true rfl | omega | (show _ ≤ (1 + shX ru a R); omega)), (by first | exact Nat.le_of_ble_eq_true rfl | omega | (show _ ≤ (6 + 6 * shX ru a R); omega))⟩ (fun v9 w9 H locs hq G => ?_)
    obtain ⟨rfl, rfl⟩ := hq
    refine W.eq (g2 := F0 mm 20 ls [.int (iI (0))]) rfl ?_
    have G : zG D AA ss.heap [(mo, .inr (5, [.int (iI (th)), .int (iI (((n : Nat) : Int))), .ref mnw, .ref mte, .ref mge, .ref mus, .int (iI (((p : Nat) : Int))), .int (iI (((st : Nat) : Int))), .int (iI (cc)), .int (iI (bc)), .ref mco, .ref mfl, .ref mba, .ref mdu, .long (lI (pot)), .long (lI (gr)), .long (lI (bk)), .int (iI (btw)), .int (iI (bhd))])), (ar, .inl (k4 0, 6, .inl (fun i9 => iI (R i9)))), (ab, .inl (k4 0, 19, .inl (fun i9 => iI (B i9)))), (q1, .inl (k4 0, 6, .inl (fun i9 => iI ((eqS (a, R, fun _ => 0)).2.2 i9))))] H locs := G
    have e9 : shareS ru (fun i => B (7 + i)) (fun i => B (13 + i)) (a, R, fun _ => 0) = eqS (a, R, fun _ => 0) := by unfold shareS; rw [if_neg (by omega), if_neg (by omega), if_neg (by omega)]
    rw [← e9] at G
    have G : zG D AA ss.heap [(mo, .inr (5, [.int (iI (th)), .int (iI (((n : Nat) : Int))), .ref mnw, .ref mte, .ref mge, .ref mus, .int (iI (((p : Nat) : Int))), .int (iI (((st : Nat) : Int))), .int (iI (cc)), .int (iI (bc)), .ref mco, .ref mfl, .ref mba, .ref mdu, .long (lI (pot)), .long (lI (gr)), .long (lI (bk)), .int (iI (btw)), .int (iI (bhd))])), (ar, .inl (k4 0, 6, .inl (fun i9 => iI (R i9)))), (ab, .inl (k4 0, 19, .inl (fun i9 => iI (B i9)))), (q1, .inl (k4 0, 6, .inl (fun i9 => iI ((shareS ru (fun i => B (7 + i)) (fun i => B (13 + i)) (a, R, fun _ => 0)).2.2 i9))))] H locs := G
    refine z_pop E dX5_shared_20 rfl ?_
    refine z_goto (tgt := 68) E dX5_shared_21 (by decide) ?_
    refine z_aload E hl 0 rfl dX5_shared_68 ?_
    exact z_aret (w' := [(mo, .inr (5, [.int (iI (th)), .int (iI (((n : Nat) : Int))), .ref mnw, .ref mte, .ref mge, .ref mus, .int (iI (((p : Nat) : Int))), .int (iI (((st : Nat) : Int))), .int (iI (cc)), .int (iI (bc)), .ref mco, .ref mfl, .ref mba, .ref mdu, .long (lI (pot)), .long (lI (gr)), .long (lI (bk)), .int (iI (btw)), .int (iI (bhd))])), (ar, .inl (k4 0, 6, .inl (fun i9 => iI (R i9)))), (ab, .inl (k4 0, 19, .inl (fun i9 => iI (B i9)))), (q1, .inl (k4 0, 6, .inl (fun i9 => iI ((shareS ru (fun i => B (7 + i)) (fun i => B (13 + i)) (a, R, fun _ => 0)).2.2 i9))))]) E hr (by first | exact Or.inl ⟨_, rfl⟩ | exact Or.inr ⟨_, rfl⟩) hlocks G dX5_shared_70 (by omega) (by omega) (⟨[_], rfl⟩) ⟨q1, rfl, rfl⟩

