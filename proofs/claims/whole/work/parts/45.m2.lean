def q_c_X5_equally (k4 : Nat → ClassId) (mo mnw mte mge mus mco mfl mba mdu : Nat) (th : Int) (n p st : Nat) (cc bc pot gr bk btw bhd : Int) (ar ai ab : Nat) (R : Nat → Int) (S : sS) : Option Value → va_W → Prop := (fun (v9 : Option Value) (w9 : va_W) => v9 = some (.int (iI (0))) ∧ w9 = [(mo, .inr (5, [.int (iI (th)), .int (iI (((n : Nat) : Int))), .ref mnw, .ref mte, .ref mge, .ref mus, .int (iI (((p : Nat) : Int))), .int (iI (((st : Nat) : Int))), .int (iI (cc)), .int (iI (bc)), .ref mco, .ref mfl, .ref mba, .ref mdu, .long (lI (pot)), .long (lI (gr)), .long (lI (bk)), .int (iI (btw)), .int (iI (bhd))])), (ar, .inl (k4 0, 6, .inl (fun i9 => iI (R i9)))), (ai, .inl (k4 0, 6, .inl (fun i9 => iI ((eqS S).2.2 i9))))])
set_option maxHeartbeats 4000000 in
set_option maxRecDepth 100000 in
theorem c_X5_equally (l : Launch) (D : va_G) (k4 : Nat → ClassId) (mo mnw mte mge mus mco mfl mba mdu : Nat) (th : Int) (n p st : Nat) (cc bc pot gr bk btw bhd : Int) (ar ai ab : Nat) (R : Nat → Int) (S : sS) (hn : n ≤ 6) (hR : rdOK R) (hI : shI n R S) : zC l yX5_equally (zW yX5_equally cX5_equally 12 (some .int)) ({ frames := 1, cells := mE S, slots := 6 * mE S, locals := 26 } : Room) D k4 [.ref mo, .int (iI (S.1)), .ref ar, .ref ai, .ref ab] [(mo, .inr (5, [.int (iI (th)), .int (iI (((n : Nat) : Int))), .ref mnw, .ref mte, .ref mge, .ref mus, .int (iI (((p : Nat) : Int))), .int (iI (((st : Nat) : Int))), .int (iI (cc)), .int (iI (bc)), .ref mco, .ref mfl, .ref mba, .ref mdu, .long (lI (pot)), .long (lI (gr)), .long (lI (bk)), .int (iI (btw)), .int (iI (bhd))])), (ar, .inl (k4 0, 6, .inl (fun i9 => iI (R i9)))), (ai, .inl (k4 0, 6, .inl (fun i9 => iI (S.2.2 i9))))] (mE S) (6 * mE S) (q_c_X5_equally k4 mo mnw mte mge mus mco mfl mba mdu th n p st cc bc pot gr bk btw bhd ar ai ab R S) := by
  refine zC_of (cc := cX5_equally) (by decide) (Nat.le_of_ble_eq_true rfl) (fun pp ee ss mm bl me co AA H locs ls E hr hlocks hin G hl => ?_)
  have hl : lv_has ls 12 [(0, .ref mo), (1, .int (iI (S.1))), (2, .ref ar), (3, .ref ai), (4, .ref ab)] := hl
  refine z_iload_n E hl 1 rfl dX5_equally_0 rfl ?_
  refine z_istore E [(5, .int (iI (S.1))), (0, .ref mo), (1, .int (iI (S.1))), (2, .ref ar), (3, .ref ai), (4, .ref ab)] dX5_equally_1 hl (by decide) rfl (fun ls hl => ?_)
  have hp3_1 : ∀ (n9 : Nat) (r : Nat) (T : sS) (H : Heap) (locs : List Loc) (ls : Array Slot), (mE T < n9) → (r + mE T ≤ mE S) → (T = iter eqStep r S) → (shI n R T) → zG D AA ss.heap [(mo, .inr (5, [.int (iI (th)), .int (iI (((n : Nat) : Int))), .ref mnw, .ref mte, .ref mge, .ref mus, .int (iI (((p : Nat) : Int))), .int (iI (((st : Nat) : Int))), .int (iI (cc)), .int (iI (bc)), .ref mco, .ref mfl, .ref mba, .ref mdu, .long (lI (pot)), .long (lI (gr)), .long (lI (bk)), .int (iI (btw)), .int (iI (bhd))])), (ar, .inl (k4 0, 6, .inl (fun i9 => iI (R i9)))), (ai, .inl (k4 0, 6, .inl (fun i9 => iI (T.2.2 i9))))] H locs → lv_has ls 12 [(0, .ref mo), (1, .int (iI (S.1))), (2, .ref ar), (3, .ref ai), (4, .ref ab), (5, .int (iI (T.1)))] → W pp l ee ({ frames := 1, cells := mE S, slots := 6 * mE S, locals := 26 } : Room) ss mm ([.ref mo, .int (iI (S.1)), .ref ar, .ref ai, .ref ab] : List Value).toArray bl me co H locs (r) (6 * r) (MQ bl (zQ D [(mo, .inr (5, [.int (iI (th)), .int (iI (((n : Nat) : Int))), .ref mnw, .ref mte, .ref mge, .ref mus, .int (iI (((p : Nat) : Int))), .int (iI (((st : Nat) : Int))), .int (iI (cc)), .int (iI (bc)), .ref mco, .ref mfl, .ref mba, .ref mdu, .long (lI (pot)), .long (lI (gr)), .long (lI (bk)), .int (iI (btw)), .int (iI (bhd))])), (ar, .inl (k4 0, 6, .inl (fun i9 => iI (R i9)))), (ai, .inl (k4 0, 6, .inl (fun i9 => iI (S.2.2 i9))))] AA (q_c_X5_equally k4 mo mnw mte mge mus mco mfl mba mdu th n p st cc bc pot gr bk btw bhd ar ai ab R S)) ([.ref mo, .int (iI (S.1)), .ref ar, .ref ai, .ref ab] : List Value).toArray ss (mE S) (6 * mE S) AA) (F0 mm 3 ls []) := by
    intro n9
    induction n9 with
    | zero => intro r T H locs ls hn9 hr9 hTe hI2 G hl; exact absurd hn9 (by omega)
    | succ n9 ih =>
      intro r T H locs ls hn9 hr9 hTe hI2 G hl
      have ih3_1 := @ih
      have b0 := hI2.1.1
      have b5 := mE_6 S
      refine z_iload E hl 5 rfl dX5_equally_3 ?_
      refine z_if_le (tgt := 157) E dX5_equally_5 (by decide) ⟨by omega, by omega⟩ (fun c_5 => ?_) (fun c_5 => ?_)
      · skip
        have e9 : eqS S = T := (eqS_done hI.1 (r := r) (by omega) (by rw [← hTe]; omega)).trans hTe.symm
        rw [← e9] at G
        have G : zG D AA ss.heap [(mo, .inr (5, [.int (iI (th)), .int (iI (((n : Nat) : Int))), .ref mnw, .ref mte, .ref mge, .ref mus, .int (iI (((p : Nat) : Int))), .int (iI (((st : Nat) : Int))), .int (iI (cc)), .int (iI (bc)), .ref mco, .ref mfl, .ref mba, .ref mdu, .long (lI (pot)), .long (lI (gr)), .long (lI (bk)), .int (iI (btw)), .int (iI (bhd))])), (ar, .inl (k4 0, 6, .inl (fun i9 => iI (R i9)))), (ai, .inl (k4 0, 6, .inl (fun i9 => iI ((eqS S).2.2 i9))))] H locs := G
        refine z_iload E hl 5 rfl dX5_equally_157 ?_
        refine z_eq (y := 0) (by omega) ?_
        exact z_iret (w' := [(mo, .inr (5, [.int (iI (th)), .int (iI (((n : Nat) : Int))), .ref mnw, .ref mte, .ref mge, .ref mus, .int (iI (((p : Nat) : Int))), .int (iI (((st : Nat) : Int))), .int (iI (cc)), .int (iI (bc)), .ref mco, .ref mfl, .ref mba, .ref mdu, .long (lI (pot)), .long (lI (gr)), .long (lI (bk)), .int (iI (btw)), .int (iI (bhd))])), (ar, .inl (k4 0, 6, .inl (fun i9 => iI (R i9)))), (ai, .inl (k4 0, 6, .inl (fun i9 => iI ((eqS S).2.2 i9))))]) (v := 0) E hr hlocks G dX5_equally_159 (by omega) (by omega) (zx0 rfl) ⟨rfl, rfl⟩
      · skip
        have m1 := mE_step hI2.1 hI2.2.2.2 c_5
        refine z_aload_n E hl 0 rfl dX5_equally_8 rfl ?_
        refine z_aload_n E hl 2 rfl dX5_equally_9 rfl ?_
        refine z_aload_n E hl 3 rfl dX5_equally_10 rfl ?_
        refine z_aload E hl 4 rfl dX5_equally_11 ?_
        refine z_iconst E dX5_equally_13 ?_
        refine z_callV E G hl.1 (c_X5_withRoom l D k4 mo mnw mte mge mus mco mfl mba mdu th n p st cc bc pot gr bk btw bhd ar ai R T ab hn hI2.1 hI2.2.1 hR hI2.2.2.1) kV_X5_78 ⟨rfl, rfl, Nat.le_of_ble_eq_true rfl, Nat.le_of_ble_eq_true rfl⟩ [0, 1, 2] rfl (by decide) 0 5 rfl rfl rfl rfl rfl (Nat.le_of_ble_eq_true rfl) dX5_equally_14 ⟨(by first | exact Nat.le_of_ble_eq_true rfl | omega | (show _ ≤ (mE S); omega)), (by first | exact Nat.le_of_ble_eq_true rfl | omega | (show _ ≤ (6 * mE S); omega))⟩ (fun v9 w9 H locs hq G => ?_)
        obtain ⟨aw, rfl, rfl⟩ := hq
        refine W.eq (g2 := F0 mm 17 ls [.ref aw]) rfl ?_
        have G : zG D AA ss.heap [(mo, .inr (5, [.int (iI (th)), .int (iI (((n : Nat) : Int))), .ref mnw, .ref mte, .ref mge, .ref mus, .int (iI (((p : Nat) : Int))), .int (iI (((st : Nat) : Int))), .int (iI (cc)), .int (iI (bc)), .ref mco, .ref mfl, .ref mba, .ref mdu, .long (lI (pot)), .long (lI (gr)), .long (lI (bk)), .int (iI (btw)), .int (iI (bhd))])), (ar, .inl (k4 0, 6, .inl (fun i9 => iI (R i9)))), (ai, .inl (k4 0, 6, .inl (fun i9 => iI (T.2.2 i9)))), (aw, .inl (k4 2, 6, .inl (fun i9 => iI ((rmF T.2.1) i9))))] H locs := G
        refine z_astore E [(6, .ref aw), (0, .ref mo), (1, .int (iI (S.1))), (2, .ref ar), (3, .ref ai), (4, .ref ab), (5, .int (iI (T.1)))] dX5_equally_17 hl (by decide) rfl (fun ls hl => ?_)
        refine z_iconst E dX5_equally_19 ?_
        refine z_istore E [(7, .int (iI (0))), (6, .ref aw), (0, .ref mo), (1, .int (iI (S.1))), (2, .ref ar), (3, .ref ai), (4, .ref ab), (5, .int (iI (T.1)))] dX5_equally_20 hl (by decide) rfl (fun ls hl => ?_)
        refine z_aload E hl 1 rfl dX5_equally_22 ?_
        refine z_astore E [(8, .ref aw), (7, .int (iI (0))), (6, .ref aw), (0, .ref mo), (1, .int (iI (S.1))), (2, .ref ar), (3, .ref ai), (4, .ref ab), (5, .int (iI (T.1)))] dX5_equally_24 hl (by decide) rfl (fun ls hl => ?_)
        refine z_aload E hl 0 rfl dX5_equally_26 ?_
        refine z_alen E G 3 2 rfl rfl dX5_equally_28 ?_
        refine z_istore E [(9, .int (iI (((6 : Nat) : Int)))), (8, .ref aw), (7, .int (iI (0))), (6, .ref aw), (0, .ref mo), (1, .int (iI (S.1))), (2, .ref ar), (3, .ref ai), (4, .ref ab), (5, .int (iI (T.1)))] dX5_equally_29 hl (by decide) rfl (fun ls hl => ?_)
        refine z_iconst E dX5_equally_31 ?_
        refine z_istore E [(10, .int (iI (0))), (9, .int (iI (((6 : Nat) : Int)))), (8, .ref aw), (7, .int (iI (0))), (6, .ref aw), (0, .ref mo), (1, .int (iI (S.1))), (2, .ref ar), (3, .ref ai), (4, .ref ab), (5, .int (iI (T.1)))] dX5_equally_32 hl (by decide) rfl (fun ls hl => ?_)
        have hp34_2 : ∀ (n9 : Nat) (j : Nat) (H : Heap) (locs : List Loc) (ls : Array Slot), (6 - j < n9) → (j ≤ 6) → zG D AA ss.heap [(mo, .inr (5, [.int (iI (th)), .int (iI (((n : Nat) : Int))), .ref mnw, .ref mte, .ref mge, .ref mus, .int (iI (((p : Nat) : Int))), .int (iI (((st : Nat) : Int))), .int (iI (cc)), .int (iI (bc)), .ref mco, .ref mfl, .ref mba, .ref mdu, .long (lI (pot)), .long (lI (gr)), .long (lI (bk)), .int (iI (btw)), .int (iI (bhd))])), (ar, .inl (k4 0, 6, .inl (fun i9 => iI (R i9)))), (ai, .inl (k4 0, 6, .inl (fun i9 => iI (T.2.2 i9)))), (aw, .inl (k4 2, 6, .inl (fun i9 => iI ((rmF T.2.1) i9))))] H locs → lv_has ls 12 [(0, .ref mo), (1, .int (iI (S.1))), (2, .ref ar), (3, .ref ai), (4, .ref ab), (5, .int (iI (T.1))), (6, .ref aw), (7, .int (iI (cntN T.2.1 j))), (8, .ref aw), (9, .int (iI (((6 : Nat) : Int)))), (10, .int (iI (((j : Nat) : Int))))] → W pp l ee ({ frames := 1, cells := mE S, slots := 6 * mE S, locals := 26 } : Room) ss mm ([.ref mo, .int (iI (S.1)), .ref ar, .ref ai, .ref ab] : List Value).toArray bl me co H locs (r + 1) (6 * r + 6) (MQ bl (zQ D [(mo, .inr (5, [.int (iI (th)), .int (iI (((n : Nat) : Int))), .ref mnw, .ref mte, .ref mge, .ref mus, .int (iI (((p : Nat) : Int))), .int (iI (((st : Nat) : Int))), .int (iI (cc)), .int (iI (bc)), .ref mco, .ref mfl, .ref mba, .ref mdu, .long (lI (pot)), .long (lI (gr)), .long (lI (bk)), .int (iI (btw)), .int (iI (bhd))])), (ar, .inl (k4 0, 6, .inl (fun i9 => iI (R i9)))), (ai, .inl (k4 0, 6, .inl (fun i9 => iI (S.2.2 i9))))] AA (q_c_X5_equally k4 mo mnw mte mge mus mco mfl mba mdu th n p st cc bc pot gr bk btw bhd ar ai ab R S)) ([.ref mo, .int (iI (S.1)), .ref ar, .ref ai, .ref ab] : List Value).toArray ss (mE S) (6 * mE S) AA) (F0 mm 34 ls []) := by
          intro n9
          induction n9 with
          | zero => intro j H locs ls hn9 hj G hl; exact absurd hn9 (by omega)
          | succ n9 ih =>
            intro j H locs ls hn9 hj G hl
            have ih34_2 := @ih
            have b6 := cntN_b (R := T.2.1) j
            have b7 := rmF_01 T.2.1 j
            refine z_iload E hl 10 rfl dX5_equally_34 ?_
            refine z_iload E hl 9 rfl dX5_equally_36 ?_
            refine z_icmp_ge (tgt := 69) E dX5_equally_38 (by decide) ⟨by omega, by omega⟩ ⟨by omega, by omega⟩ (fun c_38 => ?_) (fun c_38 => ?_)
            · skip
              obtain rfl : j = 6 := by omega
              have d1 : 0 < cntN T.2.1 6 := by rw [cntN_cB]; have := en_cnt hI2.1 hI2.2.2.2 c_5; omega
              have d2 := (cntN_b (R := T.2.1) 6).2
              have d3 : 0 ≤ T.1 / cntN T.2.1 6 := divN (by omega) (by omega)
              have d4 : T.1 / cntN T.2.1 6 ≤ T.1 := Int.ediv_le_self _ (by omega)
              refine z_iload E hl 5 rfl dX5_equally_69 ?_
              refine z_iload E hl 7 rfl dX5_equally_71 ?_
              refine z_idiv E dX5_equally_73 ⟨by omega, by omega⟩ ⟨by omega, by omega⟩ ?_
              refine z_istore E [(8, .int (iI ((T.1) / (cntN T.2.1 6)))), (0, .ref mo), (1, .int (iI (S.1))), (2, .ref ar), (3, .ref ai), (4, .ref ab), (5, .int (iI (T.1))), (6, .ref aw), (7, .int (iI (cntN T.2.1 6))), (9, .int (iI (((6 : Nat) : Int)))), (10, .int (iI (((6 : Nat) : Int))))] dX5_equally_74 hl (by decide) rfl (fun ls hl => ?_)
              refine z_iload E hl 0 rfl dX5_equally_76 ?_
              refine z_if_ne (tgt := 93) E dX5_equally_78 (by decide) ⟨by omega, by omega⟩ (fun c_78 => ?_) (fun c_78 => ?_)
              · skip
                have e1 : eqStep T = giveTo (fun _ => T.1 / cntN T.2.1 6) 6 T := by show giveTo (fun _ => max 1 (T.1 / cntN T.2.1 6)) 6 T = _; rw [show max 1 (T.1 / cntN T.2.1 6) = T.1 / cntN T.2.1 6 by omega]
                obtain ⟨e, he⟩ : ∃ e : Int, e = T.1 / cntN T.2.1 6 := ⟨_, rfl⟩
                have hee := eq_en e d1 he
                rw [← he] at hl e1 d3 d4
                have hfe : ∀ k, k < 6 → (0 : Int) ≤ (fun _ : Nat => e) k := fun _ _ => d3
                have hl : lv_has ls 12 [(8, .int (iI (e))), (0, .ref mo), (1, .int (iI (S.1))), (2, .ref ar), (3, .ref ai), (4, .ref ab), (5, .int (iI (T.1))), (6, .ref aw), (7, .int (iI (cntN T.2.1 6))), (9, .int (iI (((6 : Nat) : Int)))), (10, .int (iI (((6 : Nat) : Int))))] := hl
                refine z_iconst E dX5_equally_93 ?_
                refine z_istore E [(9, .int (iI (0))), (8, .int (iI (e))), (0, .ref mo), (1, .int (iI (S.1))), (2, .ref ar), (3, .ref ai), (4, .ref ab), (5, .int (iI (T.1))), (6, .ref aw), (7, .int (iI (cntN T.2.1 6))), (10, .int (iI (((6 : Nat) : Int))))] dX5_equally_94 hl (by decide) rfl (fun ls hl => ?_)
                have hp96_3 : ∀ (n9 : Nat) (i : Nat) (H : Heap) (locs : List Loc) (ls : Array Slot), (n - i < n9) → (i ≤ n) → zG D AA ss.heap [(mo, .inr (5, [.int (iI (th)), .int (iI (((n : Nat) : Int))), .ref mnw, .ref mte, .ref mge, .ref mus, .int (iI (((p : Nat) : Int))), .int (iI (((st : Nat) : Int))), .int (iI (cc)), .int (iI (bc)), .ref mco, .ref mfl, .ref mba, .ref mdu, .long (lI (pot)), .long (lI (gr)), .long (lI (bk)), .int (iI (btw)), .int (iI (bhd))])), (ar, .inl (k4 0, 6, .inl (fun i9 => iI (R i9)))), (ai, .inl (k4 0, 6, .inl (fun i9 => iI ((giveTo (fun _ => e) i T).2.2 i9)))), (aw, .inl (k4 2, 6, .inl (fun i9 => iI ((rmF T.2.1) i9))))] H locs → lv_has ls 12 [(0, .ref mo), (1, .int (iI (S.1))), (2, .ref ar), (3, .ref ai), (4, .ref ab), (5, .int (iI ((giveTo (fun _ => e) i T).1))), (6, .ref aw), (8, .int (iI (e))), (9, .int (iI (((i : Nat) : Int))))] → W pp l ee ({ frames := 1, cells := mE S, slots := 6 * mE S, locals := 26 } : Room) ss mm ([.ref mo, .int (iI (S.1)), .ref ar, .ref ai, .ref ab] : List Value).toArray bl me co H locs (r + 1) (6 * r + 6) (MQ bl (zQ D [(mo, .inr (5, [.int (iI (th)), .int (iI (((n : Nat) : Int))), .ref mnw, .ref mte, .ref mge, .ref mus, .int (iI (((p : Nat) : Int))), .int (iI (((st : Nat) : Int))), .int (iI (cc)), .int (iI (bc)), .ref mco, .ref mfl, .ref mba, .ref mdu, .long (lI (pot)), .long (lI (gr)), .long (lI (bk)), .int (iI (btw)), .int (iI (bhd))])), (ar, .inl (k4 0, 6, .inl (fun i9 => iI (R i9)))), (ai, .inl (k4 0, 6, .inl (fun i9 => iI (S.2.2 i9))))] AA (q_c_X5_equally k4 mo mnw mte mge mus mco mfl mba mdu th n p st cc bc pot gr bk btw bhd ar ai ab R S)) ([.ref mo, .int (iI (S.1)), .ref ar, .ref ai, .ref ab] : List Value).toArray ss (mE S) (6 * mE S) AA) (F0 mm 96 ls []) := by
                  intro n9
                  induction n9 with
                  | zero => intro i H locs ls hn9 hi G hl; exact absurd hn9 (by omega)
                  | succ n9 ih =>
                    intro i H locs ls hn9 hi G hl
                    have ih96_3 := @ih
                    refine z_iload E hl 8 rfl dX5_equally_96 ?_
                    refine z_aload_n E hl 0 rfl dX5_equally_98 rfl ?_
                    refine kg_X5_39 E G 0 rfl rfl dX5_equally_99 ?_
                    refine z_icmp_ge (tgt := 154) E dX5_equally_102 (by decide) ⟨by omega, by omega⟩ ⟨by omega, by omega⟩ (fun c_102 => ?_) (fun c_102 => ?_)
                    · skip
                      have hin2 : i = n := by omega
                      have e9 : eqStep T = (giveTo (fun _ => e) i T) := by rw [e1, hin2]; exact (giveTo_n6 hI2.1 hfe hn hI2.2.2.1).symm
                      rw [← e9] at G hl
                      have hl : lv_has ls 12 [(0, .ref mo), (1, .int (iI (S.1))), (2, .ref ar), (3, .ref ai), (4, .ref ab), (5, .int (iI ((eqStep T).1))), (6, .ref aw), (8, .int (iI (e))), (9, .int (iI (((i : Nat) : Int))))] := hl
                      have G : zG D AA ss.heap [(mo, .inr (5, [.int (iI (th)), .int (iI (((n : Nat) : Int))), .ref mnw, .ref mte, .ref mge, .ref mus, .int (iI (((p : Nat) : Int))), .int (iI (((st : Nat) : Int))), .int (iI (cc)), .int (iI (bc)), .ref mco, .ref mfl, .ref mba, .ref mdu, .long (lI (pot)), .long (lI (gr)), .long (lI (bk)), .int (iI (btw)), .int (iI (bhd))])), (ar, .inl (k4 0, 6, .inl (fun i9 => iI (R i9)))), (ai, .inl (k4 0, 6, .inl (fun i9 => iI ((eqStep T).2.2 i9)))), (aw, .inl (k4 2, 6, .inl (fun i9 => iI ((rmF T.2.1) i9))))] H locs := G
                      refine z_goto (tgt := 3) E dX5_equally_154 (by decide) ?_
                      exact ih3_1 (r + 1) (eqStep T) _ _ _ (by omega) (by omega) (by rw [hTe]; rfl) (shI_eq hI2) ((G.drop [0, 1, 2] rfl rfl)) (lv_sub hl [0, 1, 2, 3, 4, 5] rfl)
                    · skip
                      have y0 := shI_to hI2 hfe (j := i) (by omega)
                      have y1 := y0.2.1 i (by omega)
                      have y2 := y0.1.2 i (by omega)
                      have y3 := hR i (by omega)
                      have y4 := y0.1.1
                      have y5 : (giveTo (fun _ => e) i T).2.1 i = T.2.1 i := giveTo_room i i (Nat.le_refl _)
                      have y6 := rmF_01 T.2.1 i
                      refine z_aload E hl 6 rfl dX5_equally_105 ?_
                      refine z_iload E hl 8 rfl dX5_equally_107 ?_
                      refine z_zald E G 3 rfl (i) rfl (by omega) (by decide) dX5_equally_109 ?_
                      refine z_if_ne (tgt := 116) E dX5_equally_110 (by decide) ⟨by omega, by omega⟩ (fun c_110 => ?_) (fun c_110 => ?_)
                      · skip
                        have y7 := rm_p c_110
                        have y8 : e ≤ (giveTo (fun _ => e) i T).1 := give_lim hI2.1 hfe hee (by omega) y7
                        refine z_iload E hl 7 rfl dX5_equally_116 ?_
                        refine z_aload_n E hl 2 rfl dX5_equally_118 rfl ?_
                        refine z_iload E hl 8 rfl dX5_equally_119 ?_
                        refine z_iald E G 1 rfl (i) rfl (by omega) (by decide) dX5_equally_121 ?_
                        refine z_aload_n E hl 3 rfl dX5_equally_122 rfl ?_
                        refine z_iload E hl 8 rfl dX5_equally_123 ?_
                        refine z_iald E G 2 rfl (i) rfl (by omega) (by decide) dX5_equally_125 ?_
                        refine z_isub E dX5_equally_126 ?_
                        refine z_min E hl.1 zw_426 zw_184 zw_183 zw_185 (Nat.le_of_ble_eq_true rfl) (Nat.le_of_ble_eq_true rfl) (by first | exact Nat.le_of_ble_eq_true rfl | omega | (show _ ≤ (mE S); omega)) (by first | exact Nat.le_of_ble_eq_true rfl | omega | (show _ ≤ (6 * mE S); omega)) ⟨by omega, by omega⟩ ⟨by omega, by omega⟩ dX5_equally_127 ?_
                        refine z_eq (y := min e (min ((giveTo (fun _ => e) i T).2.1 i) (giveTo (fun _ => e) i T).1)) (by omega) ?_
                        refine z_istore E [(10, .int (iI (min e (min ((giveTo (fun _ => e) i T).2.1 i) (giveTo (fun _ => e) i T).1)))), (0, .ref mo), (1, .int (iI (S.1))), (2, .ref ar), (3, .ref ai), (4, .ref ab), (5, .int (iI ((giveTo (fun _ => e) i T).1))), (6, .ref aw), (8, .int (iI (e))), (9, .int (iI (((i : Nat) : Int))))] dX5_equally_130 hl (by decide) rfl (fun ls hl => ?_)
                        refine z_aload_n E hl 4 rfl dX5_equally_132 rfl ?_
                        refine z_iload E hl 9 rfl dX5_equally_133 ?_
                        refine lv_dup2_11 E.1 E.2.1 dX5_equally_135 rfl rfl ?_
                        refine z_iald E G 2 rfl (i) rfl (by omega) (by decide) dX5_equally_136 ?_
                        refine z_iload E hl 0 rfl dX5_equally_137 ?_
                        refine z_iadd E dX5_equally_139 ?_
                        refine z_iast E G 2 rfl (i) rfl (by omega) (by decide) dX5_equally_140 (fun H locs G => ?_)
                        have G : zG D AA ss.heap [(mo, .inr (5, [.int (iI (th)), .int (iI (((n : Nat) : Int))), .ref mnw, .ref mte, .ref mge, .ref mus, .int (iI (((p : Nat) : Int))), .int (iI (((st : Nat) : Int))), .int (iI (cc)), .int (iI (bc)), .ref mco, .ref mfl, .ref mba, .ref mdu, .long (lI (pot)), .long (lI (gr)), .long (lI (bk)), .int (iI (btw)), .int (iI (bhd))])), (ar, .inl (k4 0, 6, .inl (fun i9 => iI (R i9)))), (ai, .inl (k4 0, 6, .inl (fun i9 => iI ((up (giveTo (fun _ => e) i T).2.2 (i) (((giveTo (fun _ => e) i T).2.2 i) + (min e (min ((giveTo (fun _ => e) i T).2.1 i) (giveTo (fun _ => e) i T).1)))) i9)))), (aw, .inl (k4 2, 6, .inl (fun i9 => iI ((rmF T.2.1) i9))))] H locs := G
                        refine z_iload E hl 6 rfl dX5_equally_141 ?_
                        refine z_iload E hl 0 rfl dX5_equally_143 ?_
                        refine z_isub E dX5_equally_145 ?_
                        refine z_istore E [(5, .int (iI (((giveTo (fun _ => e) i T).1) - (min e (min ((giveTo (fun _ => e) i T).2.1 i) (giveTo (fun _ => e) i T).1))))), (10, .int (iI (min e (min ((giveTo (fun _ => e) i T).2.1 i) (giveTo (fun _ => e) i T).1)))), (0, .ref mo), (1, .int (iI (S.1))), (2, .ref ar), (3, .ref ai), (4, .ref ab), (6, .ref aw), (8, .int (iI (e))), (9, .int (iI (((i : Nat) : Int))))] dX5_equally_146 hl (by decide) rfl (fun ls hl => ?_)
                        refine z_iinc E [(9, .int (iI (((i : Nat) : Int) + 1))), (5, .int (iI (((giveTo (fun _ => e) i T).1) - (min e (min ((giveTo (fun _ => e) i T).2.1 i) (giveTo (fun _ => e) i T).1))))), (10, .int (iI (min e (min ((giveTo (fun _ => e) i T).2.1 i) (giveTo (fun _ => e) i T).1)))), (0, .ref mo), (1, .int (iI (S.1))), (2, .ref ar), (3, .ref ai), (4, .ref ab), (6, .ref aw), (8, .int (iI (e)))] dX5_equally_148 hl (k := 9) rfl (by decide) rfl (fun ls hl => ?_)
                        refine z_goto (tgt := 96) E dX5_equally_151 (by decide) ?_
                        exact ih96_3 (i + 1) _ _ _ (by omega) (by omega) G (lv_sub hl [3, 4, 5, 6, 7, 1, 8, 9, 0] rfl)
                      · skip
                        have y7 := rm_n c_110
                        have e9 : (giveTo (fun _ => e) (i + 1) T) = (giveTo (fun _ => e) i T) := giveS_0 (by show min e (min ((giveTo (fun _ => e) i T).2.1 i) (giveTo (fun _ => e) i T).1) = 0; rw [y5]; omega)
                        rw [← e9] at G hl
                        have hl : lv_has ls 12 [(0, .ref mo), (1, .int (iI (S.1))), (2, .ref ar), (3, .ref ai), (4, .ref ab), (5, .int (iI ((giveTo (fun _ => e) (i + 1) T).1))), (6, .ref aw), (8, .int (iI (e))), (9, .int (iI (((i : Nat) : Int))))] := hl
                        have G : zG D AA ss.heap [(mo, .inr (5, [.int (iI (th)), .int (iI (((n : Nat) : Int))), .ref mnw, .ref mte, .ref mge, .ref mus, .int (iI (((p : Nat) : Int))), .int (iI (((st : Nat) : Int))), .int (iI (cc)), .int (iI (bc)), .ref mco, .ref mfl, .ref mba, .ref mdu, .long (lI (pot)), .long (lI (gr)), .long (lI (bk)), .int (iI (btw)), .int (iI (bhd))])), (ar, .inl (k4 0, 6, .inl (fun i9 => iI (R i9)))), (ai, .inl (k4 0, 6, .inl (fun i9 => iI ((giveTo (fun _ => e) (i + 1) T).2.2 i9)))), (aw, .inl (k4 2, 6, .inl (fun i9 => iI ((rmF T.2.1) i9))))] H locs := G
                        refine z_goto (tgt := 148) E dX5_equally_113 (by decide) ?_
                        refine z_iinc E [(9, .int (iI (((i : Nat) : Int) + 1))), (0, .ref mo), (1, .int (iI (S.1))), (2, .ref ar), (3, .ref ai), (4, .ref ab), (5, .int (iI ((giveTo (fun _ => e) (i + 1) T).1))), (6, .ref aw), (8, .int (iI (e)))] dX5_equally_148 hl (k := 8) rfl (by decide) rfl (fun ls hl => ?_)
                        refine z_goto (tgt := 96) E dX5_equally_151 (by decide) ?_
                        exact ih96_3 (i + 1) _ _ _ (by omega) (by omega) G (lv_sub hl [1, 2, 3, 4, 5, 6, 7, 8, 0] rfl)
                exact hp96_3 (n + 1) 0 _ _ _ (by omega) (by omega) G (lv_sub hl [2, 3, 4, 5, 6, 7, 8, 1, 0] rfl)
              · skip
                have e9 := eq_last hI.1 hI2 (r := r) (by omega) hTe d1 c_78
                refine z_aload_n E hl 1 rfl dX5_equally_81 rfl ?_
                refine z_iload E hl 6 rfl dX5_equally_82 ?_
                refine z_aload_n E hl 3 rfl dX5_equally_84 rfl ?_
                refine z_aload_n E hl 4 rfl dX5_equally_85 rfl ?_
                refine z_aload E hl 7 rfl dX5_equally_86 ?_
                refine z_callV E G hl.1 (c_X5_byOne l D k4 mo mnw mte mge mus mco mfl mba mdu th n p st cc bc pot gr bk btw bhd ar ai R T aw ((rmF T.2.1)) hn hI2.1 hI2.2.1 hR hI2.2.2.1 (fun k _ => rmF_01 _ k) (fun k hk h => by have := rm_n h; have := hI2.1.2 k (by omega); omega) (eq_one hI2.1 d1 c_78)) kV_X5_82 ⟨rfl, rfl, Nat.le_of_ble_eq_true rfl, Nat.le_of_ble_eq_true rfl⟩ [0, 1, 2, 3] rfl (by decide) 0 5 rfl rfl rfl rfl rfl (Nat.le_of_ble_eq_true rfl) dX5_equally_88 ⟨(by first | exact Nat.le_of_ble_eq_true rfl | omega | (show _ ≤ (mE S); omega)), (by first | exact Nat.le_of_ble_eq_true rfl | omega | (show _ ≤ (6 * mE S); omega))⟩ (fun v9 w9 H locs hq G => ?_)
                obtain ⟨rfl, rfl⟩ := hq
                refine W.eq (g2 := F0 mm 91 ls []) rfl ?_
                have G : zG D AA ss.heap [(mo, .inr (5, [.int (iI (th)), .int (iI (((n : Nat) : Int))), .ref mnw, .ref mte, .ref mge, .ref mus, .int (iI (((p : Nat) : Int))), .int (iI (((st : Nat) : Int))), .int (iI (cc)), .int (iI (bc)), .ref mco, .ref mfl, .ref mba, .ref mdu, .long (lI (pot)), .long (lI (gr)), .long (lI (bk)), .int (iI (btw)), .int (iI (bhd))])), (ar, .inl (k4 0, 6, .inl (fun i9 => iI (R i9)))), (ai, .inl (k4 0, 6, .inl (fun i9 => iI ((giveTo (fun _ => 1) 6 T).2.2 i9)))), (aw, .inl (k4 2, 6, .inl (fun i9 => iI ((rmF T.2.1) i9))))] H locs := G
                refine z_iconst E dX5_equally_91 ?_
                rw [← e9] at G
                have G : zG D AA ss.heap [(mo, .inr (5, [.int (iI (th)), .int (iI (((n : Nat) : Int))), .ref mnw, .ref mte, .ref mge, .ref mus, .int (iI (((p : Nat) : Int))), .int (iI (((st : Nat) : Int))), .int (iI (cc)), .int (iI (bc)), .ref mco, .ref mfl, .ref mba, .ref mdu, .long (lI (pot)), .long (lI (gr)), .long (lI (bk)), .int (iI (btw)), .int (iI (bhd))])), (ar, .inl (k4 0, 6, .inl (fun i9 => iI (R i9)))), (ai, .inl (k4 0, 6, .inl (fun i9 => iI ((eqS S).2.2 i9))))] H locs := G.drop [0, 1, 2] rfl rfl
                exact z_iret (w' := [(mo, .inr (5, [.int (iI (th)), .int (iI (((n : Nat) : Int))), .ref mnw, .ref mte, .ref mge, .ref mus, .int (iI (((p : Nat) : Int))), .int (iI (((st : Nat) : Int))), .int (iI (cc)), .int (iI (bc)), .ref mco, .ref mfl, .ref mba, .ref mdu, .long (lI (pot)), .long (lI (gr)), .long (lI (bk)), .int (iI (btw)), .int (iI (bhd))])), (ar, .inl (k4 0, 6, .inl (fun i9 => iI (R i9)))), (ai, .inl (k4 0, 6, .inl (fun i9 => iI ((eqS S).2.2 i9))))]) (v := 0) E hr hlocks G dX5_equally_92 (by omega) (by omega) (zx0 rfl) ⟨rfl, rfl⟩
            · skip
              refine z_aload E hl 8 rfl dX5_equally_41 ?_
              refine z_iload E hl 10 rfl dX5_equally_43 ?_
              refine z_zald E G 3 rfl (j) rfl (by omega) (by decide) dX5_equally_45 ?_
              refine z_istore E [(11, .int (iI ((rmF T.2.1) j))), (0, .ref mo), (1, .int (iI (S.1))), (2, .ref ar), (3, .ref ai), (4, .ref ab), (5, .int (iI (T.1))), (6, .ref aw), (7, .int (iI (cntN T.2.1 j))), (8, .ref aw), (9, .int (iI (((6 : Nat) : Int)))), (10, .int (iI (((j : Nat) : Int))))] dX5_equally_46 hl (by decide) rfl (fun ls hl => ?_)
              refine z_iload E hl 8 rfl dX5_equally_48 ?_
              refine z_iload E hl 0 rfl dX5_equally_50 ?_
              refine z_if_eq (tgt := 59) E dX5_equally_52 (by decide) ⟨by omega, by omega⟩ (fun c_52 => ?_) (fun c_52 => ?_)
              · skip
                refine z_iconst E dX5_equally_59 ?_
                refine z_iadd E dX5_equally_60 ?_
                refine z_eq (y := cntN T.2.1 (j + 1)) (by first | exact cnt_s0 c_52 | exact cnt_s1 c_52) ?_
                refine z_istore E [(7, .int (iI (cntN T.2.1 (j + 1)))), (11, .int (iI ((rmF T.2.1) j))), (0, .ref mo), (1, .int (iI (S.1))), (2, .ref ar), (3, .ref ai), (4, .ref ab), (5, .int (iI (T.1))), (6, .ref aw), (8, .ref aw), (9, .int (iI (((6 : Nat) : Int)))), (10, .int (iI (((j : Nat) : Int))))] dX5_equally_61 hl (by decide) rfl (fun ls hl => ?_)
                refine z_iinc E [(10, .int (iI (((j : Nat) : Int) + 1))), (7, .int (iI (cntN T.2.1 (j + 1)))), (11, .int (iI ((rmF T.2.1) j))), (0, .ref mo), (1, .int (iI (S.1))), (2, .ref ar), (3, .ref ai), (4, .ref ab), (5, .int (iI (T.1))), (6, .ref aw), (8, .ref aw), (9, .int (iI (((6 : Nat) : Int))))] dX5_equally_63 hl (k := 11) rfl (by decide) rfl (fun ls hl => ?_)
                refine z_goto (tgt := 34) E dX5_equally_66 (by decide) ?_
                exact ih34_2 (j + 1) _ _ _ (by omega) (by omega) G (lv_sub hl [3, 4, 5, 6, 7, 8, 9, 1, 10, 11, 0] rfl)
              · skip
                refine z_iconst E dX5_equally_55 ?_
                refine z_goto (tgt := 60) E dX5_equally_56 (by decide) ?_
                refine z_iadd E dX5_equally_60 ?_
                refine z_eq (y := cntN T.2.1 (j + 1)) (by first | exact cnt_s0 c_52 | exact cnt_s1 c_52) ?_
                refine z_istore E [(7, .int (iI (cntN T.2.1 (j + 1)))), (11, .int (iI ((rmF T.2.1) j))), (0, .ref mo), (1, .int (iI (S.1))), (2, .ref ar), (3, .ref ai), (4, .ref ab), (5, .int (iI (T.1))), (6, .ref aw), (8, .ref aw), (9, .int (iI (((6 : Nat) : Int)))), (10, .int (iI (((j : Nat) : Int))))] dX5_equally_61 hl (by decide) rfl (fun ls hl => ?_)
                refine z_iinc E [(10, .int (iI (((j : Nat) : Int) + 1))), (7, .int (iI (cntN T.2.1 (j + 1)))), (11, .int (iI ((rmF T.2.1) j))), (0, .ref mo), (1, .int (iI (S.1))), (2, .ref ar), (3, .ref ai), (4, .ref ab), (5, .int (iI (T.1))), (6, .ref aw), (8, .ref aw), (9, .int (iI (((6 : Nat) : Int))))] dX5_equally_63 hl (k := 11) rfl (by decide) rfl (fun ls hl => ?_)
                refine z_goto (tgt := 34) E dX5_equally_66 (by decide) ?_
                exact ih34_2 (j + 1) _ _ _ (by omega) (by omega) G (lv_sub hl [3, 4, 5, 6, 7, 8, 9, 1, 10, 11, 0] rfl)
        exact hp34_2 7 0 _ _ _ (by decide) (by decide) G (lv_sub hl [5, 6, 7, 8, 9, 10, 4, 3, 2, 1, 0] rfl)
  exact hp3_1 (mE S + 1) 0 S _ _ _ (Nat.lt_succ_self _) (Nat.le_of_eq (Nat.zero_add _)) rfl hI G (lv_sub hl [1, 2, 3, 4, 5, 0] rfl)

