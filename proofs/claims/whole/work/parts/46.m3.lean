def q_c_X5_byShares (k4 : Nat → ClassId) (mo mnw mte mge mus mco mfl mba mdu : Nat) (th : Int) (n p st : Nat) (cc bc pot gr bk btw bhd : Int) (ar ai ab : Nat) (R B : Nat → Int) (S : sS) : Option Value → va_W → Prop := (fun (v9 : Option Value) (w9 : va_W) => v9 = none ∧ w9 = [(mo, .inr (5, [.int (iI (th)), .int (iI (((n : Nat) : Int))), .ref mnw, .ref mte, .ref mge, .ref mus, .int (iI (((p : Nat) : Int))), .int (iI (((st : Nat) : Int))), .int (iI (cc)), .int (iI (bc)), .ref mco, .ref mfl, .ref mba, .ref mdu, .long (lI (pot)), .long (lI (gr)), .long (lI (bk)), .int (iI (btw)), .int (iI (bhd))])), (ar, .inl (k4 0, 6, .inl (fun i9 => iI (R i9)))), (ai, .inl (k4 0, 6, .inl (fun i9 => iI ((eqS (shS (fun i => B (7 + i)) S)).2.2 i9)))), (ab, .inl (k4 0, 19, .inl (fun i9 => iI (B i9))))])
set_option maxHeartbeats 4000000 in
set_option maxRecDepth 100000 in
theorem c_X5_byShares (l : Launch) (D : va_G) (k4 : Nat → ClassId) (mo mnw mte mge mus mco mfl mba mdu : Nat) (th : Int) (n p st : Nat) (cc bc pot gr bk btw bhd : Int) (ar ai ab : Nat) (R B : Nat → Int) (S : sS) (hn : n ≤ 6) (hR : rdOK R) (hI : shI n R S) (hB : ∀ k, k < 6 → 0 ≤ B (7 + k) ∧ B (7 + k) ≤ 100) : zC l yX5_byShares (zW yX5_byShares cX5_byShares 11 none) ({ frames := 2, cells := mS (fun i => B (7 + i)) S, slots := 6 * mS (fun i => B (7 + i)) S, locals := 57 } : Room) D k4 [.ref mo, .int (iI (S.1)), .ref ar, .ref ai, .ref ab] [(mo, .inr (5, [.int (iI (th)), .int (iI (((n : Nat) : Int))), .ref mnw, .ref mte, .ref mge, .ref mus, .int (iI (((p : Nat) : Int))), .int (iI (((st : Nat) : Int))), .int (iI (cc)), .int (iI (bc)), .ref mco, .ref mfl, .ref mba, .ref mdu, .long (lI (pot)), .long (lI (gr)), .long (lI (bk)), .int (iI (btw)), .int (iI (bhd))])), (ar, .inl (k4 0, 6, .inl (fun i9 => iI (R i9)))), (ai, .inl (k4 0, 6, .inl (fun i9 => iI (S.2.2 i9)))), (ab, .inl (k4 0, 19, .inl (fun i9 => iI (B i9))))] (mS (fun i => B (7 + i)) S) (6 * mS (fun i => B (7 + i)) S) (q_c_X5_byShares k4 mo mnw mte mge mus mco mfl mba mdu th n p st cc bc pot gr bk btw bhd ar ai ab R B S) := by
  refine zC_of (cc := cX5_byShares) (by decide) (Nat.le_of_ble_eq_true rfl) (fun pp ee ss mm bl me co AA H locs ls E hr hlocks hin G hl => ?_)
  have hl : lv_has ls 11 [(0, .ref mo), (1, .int (iI (S.1))), (2, .ref ar), (3, .ref ai), (4, .ref ab)] := hl
  refine z_iload_n E hl 1 rfl dX5_byShares_0 rfl ?_
  refine z_istore E [(5, .int (iI (S.1))), (0, .ref mo), (1, .int (iI (S.1))), (2, .ref ar), (3, .ref ai), (4, .ref ab)] dX5_byShares_1 hl (by decide) rfl (fun ls hl => ?_)
  have hp3_1 : ∀ (n9 : Nat) (u : Nat) (T : sS) (H : Heap) (locs : List Loc) (ls : Array Slot), (mS (fun i => B (7 + i)) T < n9) → (u + mS (fun i => B (7 + i)) T ≤ mS (fun i => B (7 + i)) S) → (((∃ r, r ≤ u ∧ T = iter (shStep (fun i => B (7 + i))) r S) ∨ (T.1 = 0 ∧ T = (eqS (shS (fun i => B (7 + i)) S))))) → (shI n R T) → zG D AA ss.heap [(mo, .inr (5, [.int (iI (th)), .int (iI (((n : Nat) : Int))), .ref mnw, .ref mte, .ref mge, .ref mus, .int (iI (((p : Nat) : Int))), .int (iI (((st : Nat) : Int))), .int (iI (cc)), .int (iI (bc)), .ref mco, .ref mfl, .ref mba, .ref mdu, .long (lI (pot)), .long (lI (gr)), .long (lI (bk)), .int (iI (btw)), .int (iI (bhd))])), (ar, .inl (k4 0, 6, .inl (fun i9 => iI (R i9)))), (ai, .inl (k4 0, 6, .inl (fun i9 => iI (T.2.2 i9)))), (ab, .inl (k4 0, 19, .inl (fun i9 => iI (B i9))))] H locs → lv_has ls 11 [(0, .ref mo), (1, .int (iI (S.1))), (2, .ref ar), (3, .ref ai), (4, .ref ab), (5, .int (iI (T.1)))] → W pp l ee ({ frames := 2, cells := mS (fun i => B (7 + i)) S, slots := 6 * mS (fun i => B (7 + i)) S, locals := 57 } : Room) ss mm ([.ref mo, .int (iI (S.1)), .ref ar, .ref ai, .ref ab] : List Value).toArray bl me co H locs (u) (6 * u) (MQ bl (zQ D [(mo, .inr (5, [.int (iI (th)), .int (iI (((n : Nat) : Int))), .ref mnw, .ref mte, .ref mge, .ref mus, .int (iI (((p : Nat) : Int))), .int (iI (((st : Nat) : Int))), .int (iI (cc)), .int (iI (bc)), .ref mco, .ref mfl, .ref mba, .ref mdu, .long (lI (pot)), .long (lI (gr)), .long (lI (bk)), .int (iI (btw)), .int (iI (bhd))])), (ar, .inl (k4 0, 6, .inl (fun i9 => iI (R i9)))), (ai, .inl (k4 0, 6, .inl (fun i9 => iI (S.2.2 i9)))), (ab, .inl (k4 0, 19, .inl (fun i9 => iI (B i9))))] AA (q_c_X5_byShares k4 mo mnw mte mge mus mco mfl mba mdu th n p st cc bc pot gr bk btw bhd ar ai ab R B S)) ([.ref mo, .int (iI (S.1)), .ref ar, .ref ai, .ref ab] : List Value).toArray ss (mS (fun i => B (7 + i)) S) (6 * mS (fun i => B (7 + i)) S) AA) (F0 mm 3 ls []) := by
    intro n9
    induction n9 with
    | zero => intro u T H locs ls hn9 hu9 hTe hI2 G hl; exact absurd hn9 (by omega)
    | succ n9 ih =>
      intro u T H locs ls hn9 hu9 hTe hI2 G hl
      have ih3_1 := @ih
      have b0 := hI2.1.1
      have b5 : mS (fun i => B (7 + i)) S ≤ 7 := Nat.le_trans (mS_b _ _) (by have := cB_max (b := bR S.2.1) 6; omega)
      refine z_iload E hl 5 rfl dX5_byShares_3 ?_
      refine z_if_le (tgt := 220) E dX5_byShares_5 (by decide) ⟨by omega, by omega⟩ (fun c_5 => ?_) (fun c_5 => ?_)
      · skip
        have e9 : (eqS (shS (fun i => B (7 + i)) S)) = T := by
          rcases hTe with ⟨r, hr9, e⟩ | ⟨_, e⟩
          · have e2 : shS (fun i => B (7 + i)) S = T := (shS_done hB hI.1 (r := r) (by omega) (Or.inl (by rw [← e]; omega))).trans e.symm
            rw [e2]; exact eqS_z hI2.1 (by omega)
          · exact e.symm
        rw [← e9] at G
        have G : zG D AA ss.heap [(mo, .inr (5, [.int (iI (th)), .int (iI (((n : Nat) : Int))), .ref mnw, .ref mte, .ref mge, .ref mus, .int (iI (((p : Nat) : Int))), .int (iI (((st : Nat) : Int))), .int (iI (cc)), .int (iI (bc)), .ref mco, .ref mfl, .ref mba, .ref mdu, .long (lI (pot)), .long (lI (gr)), .long (lI (bk)), .int (iI (btw)), .int (iI (bhd))])), (ar, .inl (k4 0, 6, .inl (fun i9 => iI (R i9)))), (ai, .inl (k4 0, 6, .inl (fun i9 => iI ((eqS (shS (fun i => B (7 + i)) S)).2.2 i9)))), (ab, .inl (k4 0, 19, .inl (fun i9 => iI (B i9))))] H locs := G
        exact z_vret (w' := [(mo, .inr (5, [.int (iI (th)), .int (iI (((n : Nat) : Int))), .ref mnw, .ref mte, .ref mge, .ref mus, .int (iI (((p : Nat) : Int))), .int (iI (((st : Nat) : Int))), .int (iI (cc)), .int (iI (bc)), .ref mco, .ref mfl, .ref mba, .ref mdu, .long (lI (pot)), .long (lI (gr)), .long (lI (bk)), .int (iI (btw)), .int (iI (bhd))])), (ar, .inl (k4 0, 6, .inl (fun i9 => iI (R i9)))), (ai, .inl (k4 0, 6, .inl (fun i9 => iI ((eqS (shS (fun i => B (7 + i)) S)).2.2 i9)))), (ab, .inl (k4 0, 19, .inl (fun i9 => iI (B i9))))]) E hr hlocks G dX5_byShares_220 (by omega) (by omega) (zx0 rfl) ⟨rfl, rfl⟩
      · skip
        have m0 : 1 ≤ mS (fun i => B (7 + i)) T := by unfold mS; rw [if_pos c_5]; omega
        refine z_aload_n E hl 0 rfl dX5_byShares_8 rfl ?_
        refine z_aload_n E hl 2 rfl dX5_byShares_9 rfl ?_
        refine z_aload_n E hl 3 rfl dX5_byShares_10 rfl ?_
        refine z_aload E hl 4 rfl dX5_byShares_11 ?_
        refine z_iconst E dX5_byShares_13 ?_
        refine z_callV E G hl.1 (c_X5_withRoomS l D k4 mo mnw mte mge mus mco mfl mba mdu th n p st cc bc pot gr bk btw bhd ar ai R T ab B hn hI2.1 hI2.2.1 hR hI2.2.2.1 hB) kV_X5_78 ⟨rfl, rfl, Nat.le_of_ble_eq_true rfl, Nat.le_of_ble_eq_true rfl⟩ [0, 1, 2, 3] rfl (by decide) 0 5 rfl rfl rfl rfl rfl (Nat.le_of_ble_eq_true rfl) dX5_byShares_14 ⟨(by first | exact Nat.le_of_ble_eq_true rfl | omega | (show _ ≤ (mS (fun i => B (7 + i)) S); omega)), (by first | exact Nat.le_of_ble_eq_true rfl | omega | (show _ ≤ (6 * mS (fun i => B (7 + i)) S); omega))⟩ (fun v9 w9 H locs hq G => ?_)
        obtain ⟨aw, rfl, rfl⟩ := hq
        refine W.eq (g2 := F0 mm 17 ls [.ref aw]) rfl ?_
        have G : zG D AA ss.heap [(mo, .inr (5, [.int (iI (th)), .int (iI (((n : Nat) : Int))), .ref mnw, .ref mte, .ref mge, .ref mus, .int (iI (((p : Nat) : Int))), .int (iI (((st : Nat) : Int))), .int (iI (cc)), .int (iI (bc)), .ref mco, .ref mfl, .ref mba, .ref mdu, .long (lI (pot)), .long (lI (gr)), .long (lI (bk)), .int (iI (btw)), .int (iI (bhd))])), (ar, .inl (k4 0, 6, .inl (fun i9 => iI (R i9)))), (ai, .inl (k4 0, 6, .inl (fun i9 => iI (T.2.2 i9)))), (ab, .inl (k4 0, 19, .inl (fun i9 => iI (B i9)))), (aw, .inl (k4 2, 6, .inl (fun i9 => iI ((rsF (fun i => B (7 + i)) T.2.1) i9))))] H locs := G
        refine z_astore E [(6, .ref aw), (0, .ref mo), (1, .int (iI (S.1))), (2, .ref ar), (3, .ref ai), (4, .ref ab), (5, .int (iI (T.1)))] dX5_byShares_17 hl (by decide) rfl (fun ls hl => ?_)
        refine z_iconst E dX5_byShares_19 ?_
        refine z_istore E [(7, .int (iI (0))), (6, .ref aw), (0, .ref mo), (1, .int (iI (S.1))), (2, .ref ar), (3, .ref ai), (4, .ref ab), (5, .int (iI (T.1)))] dX5_byShares_20 hl (by decide) rfl (fun ls hl => ?_)
        refine z_iconst E dX5_byShares_22 ?_
        refine z_istore E [(8, .int (iI (0))), (7, .int (iI (0))), (6, .ref aw), (0, .ref mo), (1, .int (iI (S.1))), (2, .ref ar), (3, .ref ai), (4, .ref ab), (5, .int (iI (T.1)))] dX5_byShares_23 hl (by decide) rfl (fun ls hl => ?_)
        have hp25_2 : ∀ (n9 : Nat) (j : Nat) (H : Heap) (locs : List Loc) (ls : Array Slot), (n - j < n9) → (j ≤ n) → zG D AA ss.heap [(mo, .inr (5, [.int (iI (th)), .int (iI (((n : Nat) : Int))), .ref mnw, .ref mte, .ref mge, .ref mus, .int (iI (((p : Nat) : Int))), .int (iI (((st : Nat) : Int))), .int (iI (cc)), .int (iI (bc)), .ref mco, .ref mfl, .ref mba, .ref mdu, .long (lI (pot)), .long (lI (gr)), .long (lI (bk)), .int (iI (btw)), .int (iI (bhd))])), (ar, .inl (k4 0, 6, .inl (fun i9 => iI (R i9)))), (ai, .inl (k4 0, 6, .inl (fun i9 => iI (T.2.2 i9)))), (ab, .inl (k4 0, 19, .inl (fun i9 => iI (B i9)))), (aw, .inl (k4 2, 6, .inl (fun i9 => iI ((rsF (fun i => B (7 + i)) T.2.1) i9))))] H locs → lv_has ls 11 [(0, .ref mo), (1, .int (iI (S.1))), (2, .ref ar), (3, .ref ai), (4, .ref ab), (5, .int (iI (T.1))), (6, .ref aw), (7, .int (iI (ssumN (fun i => B (7 + i)) T.2.1 j))), (8, .int (iI (((j : Nat) : Int))))] → W pp l ee ({ frames := 2, cells := mS (fun i => B (7 + i)) S, slots := 6 * mS (fun i => B (7 + i)) S, locals := 57 } : Room) ss mm ([.ref mo, .int (iI (S.1)), .ref ar, .ref ai, .ref ab] : List Value).toArray bl me co H locs (u + 1) (6 * u + 6) (MQ bl (zQ D [(mo, .inr (5, [.int (iI (th)), .int (iI (((n : Nat) : Int))), .ref mnw, .ref mte, .ref mge, .ref mus, .int (iI (((p : Nat) : Int))), .int (iI (((st : Nat) : Int))), .int (iI (cc)), .int (iI (bc)), .ref mco, .ref mfl, .ref mba, .ref mdu, .long (lI (pot)), .long (lI (gr)), .long (lI (bk)), .int (iI (btw)), .int (iI (bhd))])), (ar, .inl (k4 0, 6, .inl (fun i9 => iI (R i9)))), (ai, .inl (k4 0, 6, .inl (fun i9 => iI (S.2.2 i9)))), (ab, .inl (k4 0, 19, .inl (fun i9 => iI (B i9))))] AA (q_c_X5_byShares k4 mo mnw mte mge mus mco mfl mba mdu th n p st cc bc pot gr bk btw bhd ar ai ab R B S)) ([.ref mo, .int (iI (S.1)), .ref ar, .ref ai, .ref ab] : List Value).toArray ss (mS (fun i => B (7 + i)) S) (6 * mS (fun i => B (7 + i)) S) AA) (F0 mm 25 ls []) := by
          intro n9
          induction n9 with
          | zero => intro j H locs ls hn9 hj G hl; exact absurd hn9 (by omega)
          | succ n9 ih =>
            intro j H locs ls hn9 hj G hl
            have ih25_2 := @ih
            refine z_iload E hl 8 rfl dX5_byShares_25 ?_
            refine z_aload_n E hl 0 rfl dX5_byShares_27 rfl ?_
            refine kg_X5_39 E G 0 rfl rfl dX5_byShares_28 ?_
            refine z_icmp_ge (tgt := 65) E dX5_byShares_31 (by decide) ⟨by omega, by omega⟩ ⟨by omega, by omega⟩ (fun c_31 => ?_) (fun c_31 => ?_)
            · skip
              have hjn : j = n := by omega
              have e9 : ssumN (fun i => B (7 + i)) T.2.1 j = ssumN (fun i => B (7 + i)) T.2.1 6 := by rw [hjn]; exact ssumN_6 hn hI2.2.2.1
              rw [e9] at hl
              have y8 := ssumN_b (sh := (fun i => B (7 + i))) (R := T.2.1) hB 6 (by omega)
              have hl : lv_has ls 11 [(0, .ref mo), (1, .int (iI (S.1))), (2, .ref ar), (3, .ref ai), (4, .ref ab), (5, .int (iI (T.1))), (6, .ref aw), (7, .int (iI (ssumN (fun i => B (7 + i)) T.2.1 6))), (8, .int (iI (((j : Nat) : Int))))] := hl
              refine z_iload E hl 7 rfl dX5_byShares_65 ?_
              refine z_if_ne (tgt := 85) E dX5_byShares_67 (by decide) ⟨by omega, by omega⟩ (fun c_67 => ?_) (fun c_67 => ?_)
              · skip
                have m1 := mS_step (sh := (fun i => B (7 + i))) hB hI2.1 c_5 (by omega)
                have hfs := fS_nn hB hI2.1
                have hft := fS_T (sh := (fun i => B (7 + i))) (S := T) (by omega)
                refine z_iload E hl 5 rfl dX5_byShares_85 ?_
                refine z_istore E [(8, .int (iI (T.1))), (0, .ref mo), (1, .int (iI (S.1))), (2, .ref ar), (3, .ref ai), (4, .ref ab), (5, .int (iI (T.1))), (6, .ref aw), (7, .int (iI (ssumN (fun i => B (7 + i)) T.2.1 6)))] dX5_byShares_87 hl (by decide) rfl (fun ls hl => ?_)
                refine z_iconst E dX5_byShares_89 ?_
                refine z_istore E [(9, .int (iI (0))), (8, .int (iI (T.1))), (0, .ref mo), (1, .int (iI (S.1))), (2, .ref ar), (3, .ref ai), (4, .ref ab), (5, .int (iI (T.1))), (6, .ref aw), (7, .int (iI (ssumN (fun i => B (7 + i)) T.2.1 6)))] dX5_byShares_90 hl (by decide) rfl (fun ls hl => ?_)
                have hp92_3 : ∀ (n9 : Nat) (i : Nat) (H : Heap) (locs : List Loc) (ls : Array Slot), (n - i < n9) → (i ≤ n) → zG D AA ss.heap [(mo, .inr (5, [.int (iI (th)), .int (iI (((n : Nat) : Int))), .ref mnw, .ref mte, .ref mge, .ref mus, .int (iI (((p : Nat) : Int))), .int (iI (((st : Nat) : Int))), .int (iI (cc)), .int (iI (bc)), .ref mco, .ref mfl, .ref mba, .ref mdu, .long (lI (pot)), .long (lI (gr)), .long (lI (bk)), .int (iI (btw)), .int (iI (bhd))])), (ar, .inl (k4 0, 6, .inl (fun i9 => iI (R i9)))), (ai, .inl (k4 0, 6, .inl (fun i9 => iI ((giveTo (fS (fun i => B (7 + i)) T) i T).2.2 i9)))), (ab, .inl (k4 0, 19, .inl (fun i9 => iI (B i9)))), (aw, .inl (k4 2, 6, .inl (fun i9 => iI ((rsF (fun i => B (7 + i)) T.2.1) i9))))] H locs → lv_has ls 11 [(0, .ref mo), (1, .int (iI (S.1))), (2, .ref ar), (3, .ref ai), (4, .ref ab), (5, .int (iI ((giveTo (fS (fun i => B (7 + i)) T) i T).1))), (6, .ref aw), (7, .int (iI (ssumN (fun i => B (7 + i)) T.2.1 6))), (8, .int (iI (T.1))), (9, .int (iI (((i : Nat) : Int))))] → W pp l ee ({ frames := 2, cells := mS (fun i => B (7 + i)) S, slots := 6 * mS (fun i => B (7 + i)) S, locals := 57 } : Room) ss mm ([.ref mo, .int (iI (S.1)), .ref ar, .ref ai, .ref ab] : List Value).toArray bl me co H locs (u + 1) (6 * u + 6) (MQ bl (zQ D [(mo, .inr (5, [.int (iI (th)), .int (iI (((n : Nat) : Int))), .ref mnw, .ref mte, .ref mge, .ref mus, .int (iI (((p : Nat) : Int))), .int (iI (((st : Nat) : Int))), .int (iI (cc)), .int (iI (bc)), .ref mco, .ref mfl, .ref mba, .ref mdu, .long (lI (pot)), .long (lI (gr)), .long (lI (bk)), .int (iI (btw)), .int (iI (bhd))])), (ar, .inl (k4 0, 6, .inl (fun i9 => iI (R i9)))), (ai, .inl (k4 0, 6, .inl (fun i9 => iI (S.2.2 i9)))), (ab, .inl (k4 0, 19, .inl (fun i9 => iI (B i9))))] AA (q_c_X5_byShares k4 mo mnw mte mge mus mco mfl mba mdu th n p st cc bc pot gr bk btw bhd ar ai ab R B S)) ([.ref mo, .int (iI (S.1)), .ref ar, .ref ai, .ref ab] : List Value).toArray ss (mS (fun i => B (7 + i)) S) (6 * mS (fun i => B (7 + i)) S) AA) (F0 mm 92 ls []) := by
                  intro n9
                  induction n9 with
                  | zero => intro i H locs ls hn9 hi G hl; exact absurd hn9 (by omega)
                  | succ n9 ih =>
                    intro i H locs ls hn9 hi G hl
                    have ih92_3 := @ih
                    refine z_iload E hl 9 rfl dX5_byShares_92 ?_
                    refine z_aload_n E hl 0 rfl dX5_byShares_94 rfl ?_
                    refine kg_X5_39 E G 0 rfl rfl dX5_byShares_95 ?_
                    refine z_icmp_ge (tgt := 162) E dX5_byShares_98 (by decide) ⟨by omega, by omega⟩ ⟨by omega, by omega⟩ (fun c_98 => ?_) (fun c_98 => ?_)
                    · skip
                      have hin2 : i = n := by omega
                      have e9 : (giveTo (fS (fun i => B (7 + i)) T) i T) = (giveTo (fS (fun i => B (7 + i)) T) 6 T) := by rw [hin2]; exact giveTo_n6 hI2.1 hfs hn hI2.2.2.1
                      rw [e9] at G hl
                      have z0 := (shI_to hI2 hfs (j := 6) (by omega)).1.1
                      have hl : lv_has ls 11 [(0, .ref mo), (1, .int (iI (S.1))), (2, .ref ar), (3, .ref ai), (4, .ref ab), (5, .int (iI ((giveTo (fS (fun i => B (7 + i)) T) 6 T).1))), (6, .ref aw), (7, .int (iI (ssumN (fun i => B (7 + i)) T.2.1 6))), (8, .int (iI (T.1))), (9, .int (iI (((i : Nat) : Int))))] := hl
                      have G : zG D AA ss.heap [(mo, .inr (5, [.int (iI (th)), .int (iI (((n : Nat) : Int))), .ref mnw, .ref mte, .ref mge, .ref mus, .int (iI (((p : Nat) : Int))), .int (iI (((st : Nat) : Int))), .int (iI (cc)), .int (iI (bc)), .ref mco, .ref mfl, .ref mba, .ref mdu, .long (lI (pot)), .long (lI (gr)), .long (lI (bk)), .int (iI (btw)), .int (iI (bhd))])), (ar, .inl (k4 0, 6, .inl (fun i9 => iI (R i9)))), (ai, .inl (k4 0, 6, .inl (fun i9 => iI ((giveTo (fS (fun i => B (7 + i)) T) 6 T).2.2 i9)))), (ab, .inl (k4 0, 19, .inl (fun i9 => iI (B i9)))), (aw, .inl (k4 2, 6, .inl (fun i9 => iI ((rsF (fun i => B (7 + i)) T.2.1) i9))))] H locs := G
                      refine z_iload E hl 5 rfl dX5_byShares_162 ?_
                      refine z_iload E hl 8 rfl dX5_byShares_164 ?_
                      refine z_icmp_ge (tgt := 172) E dX5_byShares_166 (by decide) ⟨by omega, by omega⟩ ⟨by omega, by omega⟩ (fun c_166 => ?_) (fun c_166 => ?_)
                      · skip
                        have z1 := (giveTo_mono hI2.1 hfs 6 (by omega)).1
                        have z2 : (giveTo (fS (fun i => B (7 + i)) T) 6 T).1 = T.1 := by omega
                        have z3 := (give_same hI2.1 hfs 6 (by omega) z2).1
                        have z4 : shStep (fun i => B (7 + i)) T = giveOne (fun i => B (7 + i)) 6 T := by
                          show (if (giveTo (fS (fun i => B (7 + i)) T) 6 T).1 = T.1 then giveOne (fun i => B (7 + i)) 6 (giveTo (fS (fun i => B (7 + i)) T) 6 T) else (giveTo (fS (fun i => B (7 + i)) T) 6 T)) = _
                          rw [if_pos z2, z3]
                        rw [z3] at G hl
                        have hl : lv_has ls 11 [(0, .ref mo), (1, .int (iI (S.1))), (2, .ref ar), (3, .ref ai), (4, .ref ab), (5, .int (iI (T.1))), (6, .ref aw), (7, .int (iI (ssumN (fun i => B (7 + i)) T.2.1 6))), (8, .int (iI (T.1))), (9, .int (iI (((i : Nat) : Int))))] := hl
                        have G : zG D AA ss.heap [(mo, .inr (5, [.int (iI (th)), .int (iI (((n : Nat) : Int))), .ref mnw, .ref mte, .ref mge, .ref mus, .int (iI (((p : Nat) : Int))), .int (iI (((st : Nat) : Int))), .int (iI (cc)), .int (iI (bc)), .ref mco, .ref mfl, .ref mba, .ref mdu, .long (lI (pot)), .long (lI (gr)), .long (lI (bk)), .int (iI (btw)), .int (iI (bhd))])), (ar, .inl (k4 0, 6, .inl (fun i9 => iI (R i9)))), (ai, .inl (k4 0, 6, .inl (fun i9 => iI (T.2.2 i9)))), (ab, .inl (k4 0, 19, .inl (fun i9 => iI (B i9)))), (aw, .inl (k4 2, 6, .inl (fun i9 => iI ((rsF (fun i => B (7 + i)) T.2.1) i9))))] H locs := G
                        refine z_iconst E dX5_byShares_172 ?_
                        refine z_istore E [(9, .int (iI (0))), (0, .ref mo), (1, .int (iI (S.1))), (2, .ref ar), (3, .ref ai), (4, .ref ab), (5, .int (iI (T.1))), (6, .ref aw), (7, .int (iI (ssumN (fun i => B (7 + i)) T.2.1 6))), (8, .int (iI (T.1)))] dX5_byShares_173 hl (by decide) rfl (fun ls hl => ?_)
                        have hp175_4 : ∀ (n9 : Nat) (i : Nat) (H : Heap) (locs : List Loc) (ls : Array Slot), (n - i < n9) → (i ≤ n) → zG D AA ss.heap [(mo, .inr (5, [.int (iI (th)), .int (iI (((n : Nat) : Int))), .ref mnw, .ref mte, .ref mge, .ref mus, .int (iI (((p : Nat) : Int))), .int (iI (((st : Nat) : Int))), .int (iI (cc)), .int (iI (bc)), .ref mco, .ref mfl, .ref mba, .ref mdu, .long (lI (pot)), .long (lI (gr)), .long (lI (bk)), .int (iI (btw)), .int (iI (bhd))])), (ar, .inl (k4 0, 6, .inl (fun i9 => iI (R i9)))), (ai, .inl (k4 0, 6, .inl (fun i9 => iI ((giveOne (fun i => B (7 + i)) i T).2.2 i9)))), (ab, .inl (k4 0, 19, .inl (fun i9 => iI (B i9)))), (aw, .inl (k4 2, 6, .inl (fun i9 => iI ((rsF (fun i => B (7 + i)) T.2.1) i9))))] H locs → lv_has ls 11 [(0, .ref mo), (1, .int (iI (S.1))), (2, .ref ar), (3, .ref ai), (4, .ref ab), (5, .int (iI ((giveOne (fun i => B (7 + i)) i T).1))), (6, .ref aw), (9, .int (iI (((i : Nat) : Int))))] → W pp l ee ({ frames := 2, cells := mS (fun i => B (7 + i)) S, slots := 6 * mS (fun i => B (7 + i)) S, locals := 57 } : Room) ss mm ([.ref mo, .int (iI (S.1)), .ref ar, .ref ai, .ref ab] : List Value).toArray bl me co H locs (u + 1) (6 * u + 6) (MQ bl (zQ D [(mo, .inr (5, [.int (iI (th)), .int (iI (((n : Nat) : Int))), .ref mnw, .ref mte, .ref mge, .ref mus, .int (iI (((p : Nat) : Int))), .int (iI (((st : Nat) : Int))), .int (iI (cc)), .int (iI (bc)), .ref mco, .ref mfl, .ref mba, .ref mdu, .long (lI (pot)), .long (lI (gr)), .long (lI (bk)), .int (iI (btw)), .int (iI (bhd))])), (ar, .inl (k4 0, 6, .inl (fun i9 => iI (R i9)))), (ai, .inl (k4 0, 6, .inl (fun i9 => iI (S.2.2 i9)))), (ab, .inl (k4 0, 19, .inl (fun i9 => iI (B i9))))] AA (q_c_X5_byShares k4 mo mnw mte mge mus mco mfl mba mdu th n p st cc bc pot gr bk btw bhd ar ai ab R B S)) ([.ref mo, .int (iI (S.1)), .ref ar, .ref ai, .ref ab] : List Value).toArray ss (mS (fun i => B (7 + i)) S) (6 * mS (fun i => B (7 + i)) S) AA) (F0 mm 175 ls []) := by
                          intro n9
                          induction n9 with
                          | zero => intro i H locs ls hn9 hi G hl; exact absurd hn9 (by omega)
                          | succ n9 ih =>
                            intro i H locs ls hn9 hi G hl
                            have ih175_4 := @ih
                            refine z_iload E hl 7 rfl dX5_byShares_175 ?_
                            refine z_aload_n E hl 0 rfl dX5_byShares_177 rfl ?_
                            refine kg_X5_39 E G 0 rfl rfl dX5_byShares_178 ?_
                            refine z_icmp_ge (tgt := 217) E dX5_byShares_181 (by decide) ⟨by omega, by omega⟩ ⟨by omega, by omega⟩ (fun c_181 => ?_) (fun c_181 => ?_)
                            · skip
                              have hin2 : i = n := by omega
                              have e9 : shStep (fun i => B (7 + i)) T = (giveOne (fun i => B (7 + i)) i T) := by rw [z4, hin2]; exact (giveOne_n6 hI2.1 hn hI2.2.2.1).symm
                              rw [← e9] at G hl
                              have hl : lv_has ls 11 [(0, .ref mo), (1, .int (iI (S.1))), (2, .ref ar), (3, .ref ai), (4, .ref ab), (5, .int (iI ((shStep (fun i => B (7 + i)) T).1))), (6, .ref aw), (9, .int (iI (((i : Nat) : Int))))] := hl
                              have G : zG D AA ss.heap [(mo, .inr (5, [.int (iI (th)), .int (iI (((n : Nat) : Int))), .ref mnw, .ref mte, .ref mge, .ref mus, .int (iI (((p : Nat) : Int))), .int (iI (((st : Nat) : Int))), .int (iI (cc)), .int (iI (bc)), .ref mco, .ref mfl, .ref mba, .ref mdu, .long (lI (pot)), .long (lI (gr)), .long (lI (bk)), .int (iI (btw)), .int (iI (bhd))])), (ar, .inl (k4 0, 6, .inl (fun i9 => iI (R i9)))), (ai, .inl (k4 0, 6, .inl (fun i9 => iI ((shStep (fun i => B (7 + i)) T).2.2 i9)))), (ab, .inl (k4 0, 19, .inl (fun i9 => iI (B i9)))), (aw, .inl (k4 2, 6, .inl (fun i9 => iI ((rsF (fun i => B (7 + i)) T.2.1) i9))))] H locs := G
                              refine z_goto (tgt := 3) E dX5_byShares_217 (by decide) ?_
                              have hTs : (∃ r, r ≤ u + 1 ∧ shStep (fun i => B (7 + i)) T = iter (shStep (fun i => B (7 + i))) r S) ∨ ((shStep (fun i => B (7 + i)) T).1 = 0 ∧ shStep (fun i => B (7 + i)) T = (eqS (shS (fun i => B (7 + i)) S))) := by
                                rcases hTe with ⟨r, hr9, e⟩ | ⟨h, _⟩
                                · exact Or.inl ⟨r + 1, by omega, by rw [e]; rfl⟩
                                · omega
                              exact ih3_1 (u + 1) (shStep (fun i => B (7 + i)) T) _ _ _ (by omega) (by omega) hTs (shI_sh hB hI2) ((G.drop [0, 1, 2, 3] rfl rfl)) (lv_sub hl [0, 1, 2, 3, 4, 5] rfl)
                            · skip
                              have y0 := shI_one hI2 (sh := (fun i => B (7 + i))) (j := i) (by omega)
                              have y1 := y0.2.1 i (by omega)
                              have y2 := y0.1.2 i (by omega)
                              have y3 := hR i (by omega)
                              have y4 := y0.1.1
                              have y5 : (giveOne (fun i => B (7 + i)) i T).2.1 i = T.2.1 i := giveOne_room i i (Nat.le_refl _)
                              have y6 := rsF_01 (fun i => B (7 + i)) T.2.1 i
                              refine z_iload E hl 5 rfl dX5_byShares_184 ?_
                              refine z_if_le (tgt := 217) E dX5_byShares_186 (by decide) ⟨by omega, by omega⟩ (fun c_186 => ?_) (fun c_186 => ?_)
                              · skip
                                have e8 := giveOne_stop6 (sh := (fun i => B (7 + i))) (S := T) hI2.1 (j := i) (by omega) (by omega)
                                have e9 : shStep (fun i => B (7 + i)) T = (giveOne (fun i => B (7 + i)) i T) := by rw [z4]; exact e8
                                rw [← e9] at G hl
                                have hl : lv_has ls 11 [(0, .ref mo), (1, .int (iI (S.1))), (2, .ref ar), (3, .ref ai), (4, .ref ab), (5, .int (iI ((shStep (fun i => B (7 + i)) T).1))), (6, .ref aw), (9, .int (iI (((i : Nat) : Int))))] := hl
                                have G : zG D AA ss.heap [(mo, .inr (5, [.int (iI (th)), .int (iI (((n : Nat) : Int))), .ref mnw, .ref mte, .ref mge, .ref mus, .int (iI (((p : Nat) : Int))), .int (iI (((st : Nat) : Int))), .int (iI (cc)), .int (iI (bc)), .ref mco, .ref mfl, .ref mba, .ref mdu, .long (lI (pot)), .long (lI (gr)), .long (lI (bk)), .int (iI (btw)), .int (iI (bhd))])), (ar, .inl (k4 0, 6, .inl (fun i9 => iI (R i9)))), (ai, .inl (k4 0, 6, .inl (fun i9 => iI ((shStep (fun i => B (7 + i)) T).2.2 i9)))), (ab, .inl (k4 0, 19, .inl (fun i9 => iI (B i9)))), (aw, .inl (k4 2, 6, .inl (fun i9 => iI ((rsF (fun i => B (7 + i)) T.2.1) i9))))] H locs := G
                                refine z_goto (tgt := 3) E dX5_byShares_217 (by decide) ?_
                                have hTs : (∃ r, r ≤ u + 1 ∧ shStep (fun i => B (7 + i)) T = iter (shStep (fun i => B (7 + i))) r S) ∨ ((shStep (fun i => B (7 + i)) T).1 = 0 ∧ shStep (fun i => B (7 + i)) T = (eqS (shS (fun i => B (7 + i)) S))) := by
                                  rcases hTe with ⟨r, hr9, e⟩ | ⟨h, _⟩
                                  · exact Or.inl ⟨r + 1, by omega, by rw [e]; rfl⟩
                                  · omega
                                exact ih3_1 (u + 1) (shStep (fun i => B (7 + i)) T) _ _ _ (by omega) (by omega) hTs (shI_sh hB hI2) ((G.drop [0, 1, 2, 3] rfl rfl)) (lv_sub hl [0, 1, 2, 3, 4, 5] rfl)
                              · skip
                                refine z_aload E hl 6 rfl dX5_byShares_189 ?_
                                refine z_iload E hl 7 rfl dX5_byShares_191 ?_
                                refine z_zald E G 4 rfl (i) rfl (by omega) (by decide) dX5_byShares_193 ?_
                                refine z_if_ne (tgt := 200) E dX5_byShares_194 (by decide) ⟨by omega, by omega⟩ (fun c_194 => ?_) (fun c_194 => ?_)
                                · skip
                                  have y7 := rs_p c_194
                                  have e7 : (giveOne (fun i => B (7 + i)) (i + 1) T) = giveS i 1 (giveOne (fun i => B (7 + i)) i T) := if_pos y7.2
                                  refine z_aload_n E hl 3 rfl dX5_byShares_200 rfl ?_
                                  refine z_iload E hl 7 rfl dX5_byShares_201 ?_
                                  refine lv_dup2_11 E.1 E.2.1 dX5_byShares_203 rfl rfl ?_
                                  refine z_iald E G 2 rfl (i) rfl (by omega) (by decide) dX5_byShares_204 ?_
                                  refine z_iconst E dX5_byShares_205 ?_
                                  refine z_iadd E dX5_byShares_206 ?_
                                  refine z_eq (y := (giveOne (fun i => B (7 + i)) i T).2.2 i + min 1 (min ((giveOne (fun i => B (7 + i)) i T).2.1 i) (giveOne (fun i => B (7 + i)) i T).1)) (by omega) ?_
                                  refine z_iast E G 2 rfl (i) rfl (by omega) (by decide) dX5_byShares_207 (fun H locs G => ?_)
                                  have G : zG D AA ss.heap [(mo, .inr (5, [.int (iI (th)), .int (iI (((n : Nat) : Int))), .ref mnw, .ref mte, .ref mge, .ref mus, .int (iI (((p : Nat) : Int))), .int (iI (((st : Nat) : Int))), .int (iI (cc)), .int (iI (bc)), .ref mco, .ref mfl, .ref mba, .ref mdu, .long (lI (pot)), .long (lI (gr)), .long (lI (bk)), .int (iI (btw)), .int (iI (bhd))])), (ar, .inl (k4 0, 6, .inl (fun i9 => iI (R i9)))), (ai, .inl (k4 0, 6, .inl (fun i9 => iI ((up (giveOne (fun i => B (7 + i)) i T).2.2 (i) ((giveOne (fun i => B (7 + i)) i T).2.2 i + min 1 (min ((giveOne (fun i => B (7 + i)) i T).2.1 i) (giveOne (fun i => B (7 + i)) i T).1))) i9)))), (ab, .inl (k4 0, 19, .inl (fun i9 => iI (B i9)))), (aw, .inl (k4 2, 6, .inl (fun i9 => iI ((rsF (fun i => B (7 + i)) T.2.1) i9))))] H locs := G
                                  refine z_iinc E [(5, .int (iI ((giveOne (fun i => B (7 + i)) i T).1 + (-1)))), (0, .ref mo), (1, .int (iI (S.1))), (2, .ref ar), (3, .ref ai), (4, .ref ab), (6, .ref aw), (9, .int (iI (((i : Nat) : Int))))] dX5_byShares_208 hl (k := 5) rfl (by decide) rfl (fun ls hl => ?_)
                                  refine z_iinc E [(9, .int (iI (((i : Nat) : Int) + 1))), (5, .int (iI ((giveOne (fun i => B (7 + i)) i T).1 + (-1)))), (0, .ref mo), (1, .int (iI (S.1))), (2, .ref ar), (3, .ref ai), (4, .ref ab), (6, .ref aw)] dX5_byShares_211 hl (k := 7) rfl (by decide) rfl (fun ls hl => ?_)
                                  refine z_goto (tgt := 175) E dX5_byShares_214 (by decide) ?_
                                  first | (have e8 : (giveOne (fun i => B (7 + i)) i T).1 + (-1) = (giveOne (fun i => B (7 + i)) (i + 1) T).1 := (by rw [e7]; show _ = (giveOne (fun i => B (7 + i)) i T).1 - min 1 (min ((giveOne (fun i => B (7 + i)) i T).2.1 i) (giveOne (fun i => B (7 + i)) i T).1); omega); rw [e8] at hl; have G : zG D AA ss.heap [(mo, .inr (5, [.int (iI (th)), .int (iI (((n : Nat) : Int))), .ref mnw, .ref mte, .ref mge, .ref mus, .int (iI (((p : Nat) : Int))), .int (iI (((st : Nat) : Int))), .int (iI (cc)), .int (iI (bc)), .ref mco, .ref mfl, .ref mba, .ref mdu, .long (lI (pot)), .long (lI (gr)), .long (lI (bk)), .int (iI (btw)), .int (iI (bhd))])), (ar, .inl (k4 0, 6, .inl (fun i9 => iI (R i9)))), (ai, .inl (k4 0, 6, .inl (fun i9 => iI ((giveOne (fun i => B (7 + i)) (i + 1) T).2.2 i9)))), (ab, .inl (k4 0, 19, .inl (fun i9 => iI (B i9)))), (aw, .inl (k4 2, 6, .inl (fun i9 => iI ((rsF (fun i => B (7 + i)) T.2.1) i9))))] H locs := (by rw [e7]; exact G); have G0 := G) | skip
                                  exact ih175_4 (i + 1) _ _ _ (by omega) (by omega) G (lv_sub hl [2, 3, 4, 5, 6, 1, 7, 0] rfl)
                                · skip
                                  have y7 := rs_n c_194
                                  have e9 : (giveOne (fun i => B (7 + i)) (i + 1) T) = (giveOne (fun i => B (7 + i)) i T) := by
                                    show (if 0 < B (7 + i) then giveS i 1 (giveOne (fun i => B (7 + i)) i T) else (giveOne (fun i => B (7 + i)) i T)) = _
                                    split
                                    · rename_i hx; exact giveS_0 (by rw [y5]; by_cases hy : 0 < T.2.1 i; exact absurd ⟨hy, hx⟩ y7; omega)
                                    · rfl
                                  rw [← e9] at G hl
                                  have hl : lv_has ls 11 [(0, .ref mo), (1, .int (iI (S.1))), (2, .ref ar), (3, .ref ai), (4, .ref ab), (5, .int (iI ((giveOne (fun i => B (7 + i)) (i + 1) T).1))), (6, .ref aw), (9, .int (iI (((i : Nat) : Int))))] := hl
                                  have G : zG D AA ss.heap [(mo, .inr (5, [.int (iI (th)), .int (iI (((n : Nat) : Int))), .ref mnw, .ref mte, .ref mge, .ref mus, .int (iI (((p : Nat) : Int))), .int (iI (((st : Nat) : Int))), .int (iI (cc)), .int (iI (bc)), .ref mco, .ref mfl, .ref mba, .ref mdu, .long (lI (pot)), .long (lI (gr)), .long (lI (bk)), .int (iI (btw)), .int (iI (bhd))])), (ar, .inl (k4 0, 6, .inl (fun i9 => iI (R i9)))), (ai, .inl (k4 0, 6, .inl (fun i9 => iI ((giveOne (fun i => B (7 + i)) (i + 1) T).2.2 i9)))), (ab, .inl (k4 0, 19, .inl (fun i9 => iI (B i9)))), (aw, .inl (k4 2, 6, .inl (fun i9 => iI ((rsF (fun i => B (7 + i)) T.2.1) i9))))] H locs := G
                                  refine z_goto (tgt := 211) E dX5_byShares_197 (by decide) ?_
                                  refine z_iinc E [(9, .int (iI (((i : Nat) : Int) + 1))), (0, .ref mo), (1, .int (iI (S.1))), (2, .ref ar), (3, .ref ai), (4, .ref ab), (5, .int (iI ((giveOne (fun i => B (7 + i)) (i + 1) T).1))), (6, .ref aw)] dX5_byShares_211 hl (k := 7) rfl (by decide) rfl (fun ls hl => ?_)
                                  refine z_goto (tgt := 175) E dX5_byShares_214 (by decide) ?_
                                  first | (have e8 : (giveOne (fun i => B (7 + i)) i T).1 + (-1) = (giveOne (fun i => B (7 + i)) (i + 1) T).1 := (by rw [e7]; show _ = (giveOne (fun i => B (7 + i)) i T).1 - min 1 (min ((giveOne (fun i => B (7 + i)) i T).2.1 i) (giveOne (fun i => B (7 + i)) i T).1); omega); rw [e8] at hl; have G : zG D AA ss.heap [(mo, .inr (5, [.int (iI (th)), .int (iI (((n : Nat) : Int))), .ref mnw, .ref mte, .ref mge, .ref mus, .int (iI (((p : Nat) : Int))), .int (iI (((st : Nat) : Int))), .int (iI (cc)), .int (iI (bc)), .ref mco, .ref mfl, .ref mba, .ref mdu, .long (lI (pot)), .long (lI (gr)), .long (lI (bk)), .int (iI (btw)), .int (iI (bhd))])), (ar, .inl (k4 0, 6, .inl (fun i9 => iI (R i9)))), (ai, .inl (k4 0, 6, .inl (fun i9 => iI ((giveOne (fun i => B (7 + i)) (i + 1) T).2.2 i9)))), (ab, .inl (k4 0, 19, .inl (fun i9 => iI (B i9)))), (aw, .inl (k4 2, 6, .inl (fun i9 => iI ((rsF (fun i => B (7 + i)) T.2.1) i9))))] H locs := (by rw [e7]; exact G); have G0 := G) | skip
                                  exact ih175_4 (i + 1) _ _ _ (by omega) (by omega) G (lv_sub hl [1, 2, 3, 4, 5, 6, 7, 0] rfl)
                        exact hp175_4 (n + 1) 0 _ _ _ (by omega) (by omega) G (lv_sub hl [1, 2, 3, 4, 5, 6, 7, 0] rfl)
                      · skip
                        have e9 : shStep (fun i => B (7 + i)) T = (giveTo (fS (fun i => B (7 + i)) T) 6 T) := if_neg (show ¬ (giveTo (fS (fun i => B (7 + i)) T) 6 T).1 = T.1 by omega)
                        rw [← e9] at G hl
                        have hl : lv_has ls 11 [(0, .ref mo), (1, .int (iI (S.1))), (2, .ref ar), (3, .ref ai), (4, .ref ab), (5, .int (iI ((shStep (fun i => B (7 + i)) T).1))), (6, .ref aw), (7, .int (iI (ssumN (fun i => B (7 + i)) T.2.1 6))), (8, .int (iI (T.1))), (9, .int (iI (((i : Nat) : Int))))] := hl
                        have G : zG D AA ss.heap [(mo, .inr (5, [.int (iI (th)), .int (iI (((n : Nat) : Int))), .ref mnw, .ref mte, .ref mge, .ref mus, .int (iI (((p : Nat) : Int))), .int (iI (((st : Nat) : Int))), .int (iI (cc)), .int (iI (bc)), .ref mco, .ref mfl, .ref mba, .ref mdu, .long (lI (pot)), .long (lI (gr)), .long (lI (bk)), .int (iI (btw)), .int (iI (bhd))])), (ar, .inl (k4 0, 6, .inl (fun i9 => iI (R i9)))), (ai, .inl (k4 0, 6, .inl (fun i9 => iI ((shStep (fun i => B (7 + i)) T).2.2 i9)))), (ab, .inl (k4 0, 19, .inl (fun i9 => iI (B i9)))), (aw, .inl (k4 2, 6, .inl (fun i9 => iI ((rsF (fun i => B (7 + i)) T.2.1) i9))))] H locs := G
                        refine z_goto (tgt := 3) E dX5_byShares_169 (by decide) ?_
                        have hTs : (∃ r, r ≤ u + 1 ∧ shStep (fun i => B (7 + i)) T = iter (shStep (fun i => B (7 + i))) r S) ∨ ((shStep (fun i => B (7 + i)) T).1 = 0 ∧ shStep (fun i => B (7 + i)) T = (eqS (shS (fun i => B (7 + i)) S))) := by
                          rcases hTe with ⟨r, hr9, e⟩ | ⟨h, _⟩
                          · exact Or.inl ⟨r + 1, by omega, by rw [e]; rfl⟩
                          · omega
                        exact ih3_1 (u + 1) (shStep (fun i => B (7 + i)) T) _ _ _ (by omega) (by omega) hTs (shI_sh hB hI2) ((G.drop [0, 1, 2, 3] rfl rfl)) (lv_sub hl [0, 1, 2, 3, 4, 5] rfl)
                    · skip
                      have y0 := shI_to hI2 hfs (j := i) (by omega)
                      have y1 := y0.2.1 i (by omega)
                      have y2 := y0.1.2 i (by omega)
                      have y3 := hR i (by omega)
                      have y4 := y0.1.1
                      have y5 : (giveTo (fS (fun i => B (7 + i)) T) i T).2.1 i = T.2.1 i := giveTo_room i i (Nat.le_refl _)
                      have y6 := rsF_01 (fun i => B (7 + i)) T.2.1 i
                      have y9 := hB i (by omega)
                      have w1 := mulB (a := T.1) (b := B (7 + i)) b0.1 b0.2 y9.1 y9.2
                      have w2 := divN (a := T.1 * B (7 + i)) (b := ssumN (fun i => B (7 + i)) T.2.1 6) w1.1 (by omega)
                      have w3 := Int.ediv_le_self (a := T.1 * B (7 + i)) (ssumN (fun i => B (7 + i)) T.2.1 6) w1.1
                      refine z_aload E hl 6 rfl dX5_byShares_101 ?_
                      refine z_iload E hl 9 rfl dX5_byShares_103 ?_
                      refine z_zald E G 4 rfl (i) rfl (by omega) (by decide) dX5_byShares_105 ?_
                      refine z_if_ne (tgt := 112) E dX5_byShares_106 (by decide) ⟨by omega, by omega⟩ (fun c_106 => ?_) (fun c_106 => ?_)
                      · skip
                        have y7 := rs_p c_106
                        have y8 : T.1 * B (7 + i) / ssumN (fun i => B (7 + i)) T.2.1 6 ≤ (giveTo (fS (fun i => B (7 + i)) T) i T).1 := give_lim hI2.1 hfs hft (by omega) y7.1
                        refine z_iload E hl 8 rfl dX5_byShares_112 ?_
                        refine z_aload E hl 4 rfl dX5_byShares_114 ?_
                        refine z_bipush E dX5_byShares_116 (by decide) ?_
                        refine z_iload E hl 9 rfl dX5_byShares_118 ?_
                        refine z_iadd E dX5_byShares_120 ?_
                        refine z_iald E G 3 rfl ((7 + i)) (by omega) (by omega) (by decide) dX5_byShares_121 ?_
                        refine z_imul E dX5_byShares_122 ?_
                        refine z_iload E hl 7 rfl dX5_byShares_123 ?_
                        refine z_idiv E dX5_byShares_125 ⟨by omega, by omega⟩ ⟨by omega, by omega⟩ ?_
                        refine z_aload_n E hl 2 rfl dX5_byShares_126 rfl ?_
                        refine z_iload E hl 9 rfl dX5_byShares_127 ?_
                        refine z_iald E G 1 rfl (i) rfl (by omega) (by decide) dX5_byShares_129 ?_
                        refine z_aload_n E hl 3 rfl dX5_byShares_130 rfl ?_
                        refine z_iload E hl 9 rfl dX5_byShares_131 ?_
                        refine z_iald E G 2 rfl (i) rfl (by omega) (by decide) dX5_byShares_133 ?_
                        refine z_isub E dX5_byShares_134 ?_
                        refine z_min E hl.1 zw_426 zw_184 zw_183 zw_185 (Nat.le_of_ble_eq_true rfl) (Nat.le_of_ble_eq_true rfl) (by first | exact Nat.le_of_ble_eq_true rfl | omega | (show _ ≤ (mS (fun i => B (7 + i)) S); omega)) (by first | exact Nat.le_of_ble_eq_true rfl | omega | (show _ ≤ (6 * mS (fun i => B (7 + i)) S); omega)) ⟨by omega, by omega⟩ ⟨by omega, by omega⟩ dX5_byShares_135 ?_
                        refine z_eq (y := min (T.1 * B (7 + i) / ssumN (fun i => B (7 + i)) T.2.1 6) (min ((giveTo (fS (fun i => B (7 + i)) T) i T).2.1 i) (giveTo (fS (fun i => B (7 + i)) T) i T).1)) (by omega) ?_
                        refine z_istore E [(10, .int (iI (min (T.1 * B (7 + i) / ssumN (fun i => B (7 + i)) T.2.1 6) (min ((giveTo (fS (fun i => B (7 + i)) T) i T).2.1 i) (giveTo (fS (fun i => B (7 + i)) T) i T).1)))), (0, .ref mo), (1, .int (iI (S.1))), (2, .ref ar), (3, .ref ai), (4, .ref ab), (5, .int (iI ((giveTo (fS (fun i => B (7 + i)) T) i T).1))), (6, .ref aw), (7, .int (iI (ssumN (fun i => B (7 + i)) T.2.1 6))), (8, .int (iI (T.1))), (9, .int (iI (((i : Nat) : Int))))] dX5_byShares_138 hl (by decide) rfl (fun ls hl => ?_)
                        refine z_aload_n E hl 4 rfl dX5_byShares_140 rfl ?_
                        refine z_iload E hl 10 rfl dX5_byShares_141 ?_
                        refine lv_dup2_11 E.1 E.2.1 dX5_byShares_143 rfl rfl ?_
                        refine z_iald E G 2 rfl (i) rfl (by omega) (by decide) dX5_byShares_144 ?_
                        refine z_iload E hl 0 rfl dX5_byShares_145 ?_
                        refine z_iadd E dX5_byShares_147 ?_
                        refine z_iast E G 2 rfl (i) rfl (by omega) (by decide) dX5_byShares_148 (fun H locs G => ?_)
                        have G : zG D AA ss.heap [(mo, .inr (5, [.int (iI (th)), .int (iI (((n : Nat) : Int))), .ref mnw, .ref mte, .ref mge, .ref mus, .int (iI (((p : Nat) : Int))), .int (iI (((st : Nat) : Int))), .int (iI (cc)), .int (iI (bc)), .ref mco, .ref mfl, .ref mba, .ref mdu, .long (lI (pot)), .long (lI (gr)), .long (lI (bk)), .int (iI (btw)), .int (iI (bhd))])), (ar, .inl (k4 0, 6, .inl (fun i9 => iI (R i9)))), (ai, .inl (k4 0, 6, .inl (fun i9 => iI ((up (giveTo (fS (fun i => B (7 + i)) T) i T).2.2 (i) (((giveTo (fS (fun i => B (7 + i)) T) i T).2.2 i) + (min (T.1 * B (7 + i) / ssumN (fun i => B (7 + i)) T.2.1 6) (min ((giveTo (fS (fun i => B (7 + i)) T) i T).2.1 i) (giveTo (fS (fun i => B (7 + i)) T) i T).1)))) i9)))), (ab, .inl (k4 0, 19, .inl (fun i9 => iI (B i9)))), (aw, .inl (k4 2, 6, .inl (fun i9 => iI ((rsF (fun i => B (7 + i)) T.2.1) i9))))] H locs := G
                        refine z_iload E hl 6 rfl dX5_byShares_149 ?_
                        refine z_iload E hl 0 rfl dX5_byShares_151 ?_
                        refine z_isub E dX5_byShares_153 ?_
                        refine z_istore E [(5, .int (iI (((giveTo (fS (fun i => B (7 + i)) T) i T).1) - (min (T.1 * B (7 + i) / ssumN (fun i => B (7 + i)) T.2.1 6) (min ((giveTo (fS (fun i => B (7 + i)) T) i T).2.1 i) (giveTo (fS (fun i => B (7 + i)) T) i T).1))))), (10, .int (iI (min (T.1 * B (7 + i) / ssumN (fun i => B (7 + i)) T.2.1 6) (min ((giveTo (fS (fun i => B (7 + i)) T) i T).2.1 i) (giveTo (fS (fun i => B (7 + i)) T) i T).1)))), (0, .ref mo), (1, .int (iI (S.1))), (2, .ref ar), (3, .ref ai), (4, .ref ab), (6, .ref aw), (7, .int (iI (ssumN (fun i => B (7 + i)) T.2.1 6))), (8, .int (iI (T.1))), (9, .int (iI (((i : Nat) : Int))))] dX5_byShares_154 hl (by decide) rfl (fun ls hl => ?_)
                        refine z_iinc E [(9, .int (iI (((i : Nat) : Int) + 1))), (5, .int (iI (((giveTo (fS (fun i => B (7 + i)) T) i T).1) - (min (T.1 * B (7 + i) / ssumN (fun i => B (7 + i)) T.2.1 6) (min ((giveTo (fS (fun i => B (7 + i)) T) i T).2.1 i) (giveTo (fS (fun i => B (7 + i)) T) i T).1))))), (10, .int (iI (min (T.1 * B (7 + i) / ssumN (fun i => B (7 + i)) T.2.1 6) (min ((giveTo (fS (fun i => B (7 + i)) T) i T).2.1 i) (giveTo (fS (fun i => B (7 + i)) T) i T).1)))), (0, .ref mo), (1, .int (iI (S.1))), (2, .ref ar), (3, .ref ai), (4, .ref ab), (6, .ref aw), (7, .int (iI (ssumN (fun i => B (7 + i)) T.2.1 6))), (8, .int (iI (T.1)))] dX5_byShares_156 hl (k := 10) rfl (by decide) rfl (fun ls hl => ?_)
                        refine z_goto (tgt := 92) E dX5_byShares_159 (by decide) ?_
                        exact ih92_3 (i + 1) _ _ _ (by omega) (by omega) G (lv_sub hl [3, 4, 5, 6, 7, 1, 8, 9, 10, 0] rfl)
                      · skip
                        have y7 := rs_n c_106
                        have e9 : (giveTo (fS (fun i => B (7 + i)) T) (i + 1) T) = (giveTo (fS (fun i => B (7 + i)) T) i T) := giveS_0 (by
                          show min (T.1 * B (7 + i) / ssumN (fun i => B (7 + i)) T.2.1 6) (min ((giveTo (fS (fun i => B (7 + i)) T) i T).2.1 i) (giveTo (fS (fun i => B (7 + i)) T) i T).1) = 0
                          rw [y5]
                          by_cases hx : 0 < T.2.1 i
                          · have hz : B (7 + i) = 0 := by have := y9.1; by_cases hy : 0 < B (7 + i); exact absurd ⟨hx, hy⟩ y7; omega
                            rw [hz, Int.mul_zero, Int.zero_ediv]; omega
                          · omega)
                        rw [← e9] at G hl
                        have hl : lv_has ls 11 [(0, .ref mo), (1, .int (iI (S.1))), (2, .ref ar), (3, .ref ai), (4, .ref ab), (5, .int (iI ((giveTo (fS (fun i => B (7 + i)) T) (i + 1) T).1))), (6, .ref aw), (7, .int (iI (ssumN (fun i => B (7 + i)) T.2.1 6))), (8, .int (iI (T.1))), (9, .int (iI (((i : Nat) : Int))))] := hl
                        have G : zG D AA ss.heap [(mo, .inr (5, [.int (iI (th)), .int (iI (((n : Nat) : Int))), .ref mnw, .ref mte, .ref mge, .ref mus, .int (iI (((p : Nat) : Int))), .int (iI (((st : Nat) : Int))), .int (iI (cc)), .int (iI (bc)), .ref mco, .ref mfl, .ref mba, .ref mdu, .long (lI (pot)), .long (lI (gr)), .long (lI (bk)), .int (iI (btw)), .int (iI (bhd))])), (ar, .inl (k4 0, 6, .inl (fun i9 => iI (R i9)))), (ai, .inl (k4 0, 6, .inl (fun i9 => iI ((giveTo (fS (fun i => B (7 + i)) T) (i + 1) T).2.2 i9)))), (ab, .inl (k4 0, 19, .inl (fun i9 => iI (B i9)))), (aw, .inl (k4 2, 6, .inl (fun i9 => iI ((rsF (fun i => B (7 + i)) T.2.1) i9))))] H locs := G
                        refine z_goto (tgt := 156) E dX5_byShares_109 (by decide) ?_
                        refine z_iinc E [(9, .int (iI (((i : Nat) : Int) + 1))), (0, .ref mo), (1, .int (iI (S.1))), (2, .ref ar), (3, .ref ai), (4, .ref ab), (5, .int (iI ((giveTo (fS (fun i => B (7 + i)) T) (i + 1) T).1))), (6, .ref aw), (7, .int (iI (ssumN (fun i => B (7 + i)) T.2.1 6))), (8, .int (iI (T.1)))] dX5_byShares_156 hl (k := 9) rfl (by decide) rfl (fun ls hl => ?_)
                        refine z_goto (tgt := 92) E dX5_byShares_159 (by decide) ?_
                        exact ih92_3 (i + 1) _ _ _ (by omega) (by omega) G (lv_sub hl [1, 2, 3, 4, 5, 6, 7, 8, 9, 0] rfl)
                exact hp92_3 (n + 1) 0 _ _ _ (by omega) (by omega) G (lv_sub hl [2, 3, 4, 5, 6, 7, 8, 9, 1, 0] rfl)
              · skip
                have m1 := mS_E (sh := (fun i => B (7 + i))) hB c_5 c_67
                have z9 := eqS_left hI2.1 hI2.2.2.2
                have e9 : eqS T = (eqS (shS (fun i => B (7 + i)) S)) := by
                  rcases hTe with ⟨r, hr9, e⟩ | ⟨h, _⟩
                  · have e2 : shS (fun i => B (7 + i)) S = T := (shS_done hB hI.1 (r := r) (by omega) (Or.inr (by rw [← e]; exact c_67))).trans e.symm
                    rw [e2]
                  · omega
                refine z_aload_n E hl 0 rfl dX5_byShares_70 rfl ?_
                refine z_iload E hl 5 rfl dX5_byShares_71 ?_
                refine z_aload_n E hl 2 rfl dX5_byShares_73 rfl ?_
                refine z_aload_n E hl 3 rfl dX5_byShares_74 rfl ?_
                refine z_aload E hl 4 rfl dX5_byShares_75 ?_
                refine z_callV E G hl.1 (c_X5_equally l D k4 mo mnw mte mge mus mco mfl mba mdu th n p st cc bc pot gr bk btw bhd ar ai ab R T hn hR hI2) kV_X5_89 ⟨rfl, rfl, Nat.le_of_ble_eq_true rfl, Nat.le_of_ble_eq_true rfl⟩ [0, 1, 2] rfl (by decide) 0 5 rfl rfl rfl rfl rfl (Nat.le_of_ble_eq_true rfl) dX5_byShares_77 ⟨(by first | exact Nat.le_of_ble_eq_true rfl | omega | (show _ ≤ (mS (fun i => B (7 + i)) S); omega)), (by first | exact Nat.le_of_ble_eq_true rfl | omega | (show _ ≤ (6 * mS (fun i => B (7 + i)) S); omega))⟩ (fun v9 w9 H locs hq G => ?_)
                obtain ⟨rfl, rfl⟩ := hq
                refine W.eq (g2 := F0 mm 80 ls [.int (iI (0))]) rfl ?_
                have G : zG D AA ss.heap [(mo, .inr (5, [.int (iI (th)), .int (iI (((n : Nat) : Int))), .ref mnw, .ref mte, .ref mge, .ref mus, .int (iI (((p : Nat) : Int))), .int (iI (((st : Nat) : Int))), .int (iI (cc)), .int (iI (bc)), .ref mco, .ref mfl, .ref mba, .ref mdu, .long (lI (pot)), .long (lI (gr)), .long (lI (bk)), .int (iI (btw)), .int (iI (bhd))])), (ar, .inl (k4 0, 6, .inl (fun i9 => iI (R i9)))), (ai, .inl (k4 0, 6, .inl (fun i9 => iI ((eqS T).2.2 i9)))), (ab, .inl (k4 0, 19, .inl (fun i9 => iI (B i9)))), (aw, .inl (k4 2, 6, .inl (fun i9 => iI ((rsF (fun i => B (7 + i)) T.2.1) i9))))] H locs := G
                refine z_eq (y := (eqS T).1) z9.symm ?_
                refine z_istore E [(5, .int (iI ((eqS T).1))), (0, .ref mo), (1, .int (iI (S.1))), (2, .ref ar), (3, .ref ai), (4, .ref ab), (6, .ref aw), (7, .int (iI (ssumN (fun i => B (7 + i)) T.2.1 6))), (8, .int (iI (((j : Nat) : Int))))] dX5_byShares_80 hl (by decide) rfl (fun ls hl => ?_)
                refine z_goto (tgt := 3) E dX5_byShares_82 (by decide) ?_
                refine W.cs (cells' := u + 1 + mE T) (slots' := 6 * (u + 1 + mE T)) (by omega) (by omega) ?_
                exact ih3_1 (u + 1 + mE T) (eqS T) _ _ _ (by rw [mS_0 (by omega)]; omega) (by rw [mS_0 (by omega)]; omega) (Or.inr ⟨z9, e9⟩) (shI_eqS hI2) ((G.drop [0, 1, 2, 3] rfl rfl)) (lv_sub hl [1, 2, 3, 4, 5, 0] rfl)
            · skip
              have y9 := hB j (by omega)
              have y8 := ssumN_b (sh := (fun i => B (7 + i))) (R := T.2.1) hB j (by omega)
              have y7 := rsF_01 (fun i => B (7 + i)) T.2.1 j
              refine z_iload E hl 7 rfl dX5_byShares_34 ?_
              refine z_aload E hl 6 rfl dX5_byShares_36 ?_
              refine z_iload E hl 8 rfl dX5_byShares_38 ?_
              refine z_zald E G 4 rfl (j) rfl (by omega) (by decide) dX5_byShares_40 ?_
              refine z_if_eq (tgt := 55) E dX5_byShares_41 (by decide) ⟨by omega, by omega⟩ (fun c_41 => ?_) (fun c_41 => ?_)
              · skip
                refine z_iconst E dX5_byShares_55 ?_
                refine z_iadd E dX5_byShares_56 ?_
                refine z_eq (y := ssumN (fun i => B (7 + i)) T.2.1 (j + 1)) (by first | exact ssum_s0 (sh := (fun i => B (7 + i))) y9.1 c_41 | exact ssum_s1 (sh := (fun i => B (7 + i))) c_41) ?_
                refine z_istore E [(7, .int (iI (ssumN (fun i => B (7 + i)) T.2.1 (j + 1)))), (0, .ref mo), (1, .int (iI (S.1))), (2, .ref ar), (3, .ref ai), (4, .ref ab), (5, .int (iI (T.1))), (6, .ref aw), (8, .int (iI (((j : Nat) : Int))))] dX5_byShares_57 hl (by decide) rfl (fun ls hl => ?_)
                refine z_iinc E [(8, .int (iI (((j : Nat) : Int) + 1))), (7, .int (iI (ssumN (fun i => B (7 + i)) T.2.1 (j + 1)))), (0, .ref mo), (1, .int (iI (S.1))), (2, .ref ar), (3, .ref ai), (4, .ref ab), (5, .int (iI (T.1))), (6, .ref aw)] dX5_byShares_59 hl (k := 8) rfl (by decide) rfl (fun ls hl => ?_)
                refine z_goto (tgt := 25) E dX5_byShares_62 (by decide) ?_
                exact ih25_2 (j + 1) _ _ _ (by omega) (by omega) G (lv_sub hl [2, 3, 4, 5, 6, 7, 8, 1, 0] rfl)
              · skip
                refine z_aload E hl 4 rfl dX5_byShares_44 ?_
                refine z_bipush E dX5_byShares_46 (by decide) ?_
                refine z_iload E hl 8 rfl dX5_byShares_48 ?_
                refine z_iadd E dX5_byShares_50 ?_
                refine z_iald E G 3 rfl ((7 + j)) (by omega) (by omega) (by decide) dX5_byShares_51 ?_
                refine z_goto (tgt := 56) E dX5_byShares_52 (by decide) ?_
                refine z_iadd E dX5_byShares_56 ?_
                refine z_eq (y := ssumN (fun i => B (7 + i)) T.2.1 (j + 1)) (by first | exact ssum_s0 (sh := (fun i => B (7 + i))) y9.1 c_41 | exact ssum_s1 (sh := (fun i => B (7 + i))) c_41) ?_
                refine z_istore E [(7, .int (iI (ssumN (fun i => B (7 + i)) T.2.1 (j + 1)))), (0, .ref mo), (1, .int (iI (S.1))), (2, .ref ar), (3, .ref ai), (4, .ref ab), (5, .int (iI (T.1))), (6, .ref aw), (8, .int (iI (((j : Nat) : Int))))] dX5_byShares_57 hl (by decide) rfl (fun ls hl => ?_)
                refine z_iinc E [(8, .int (iI (((j : Nat) : Int) + 1))), (7, .int (iI (ssumN (fun i => B (7 + i)) T.2.1 (j + 1)))), (0, .ref mo), (1, .int (iI (S.1))), (2, .ref ar), (3, .ref ai), (4, .ref ab), (5, .int (iI (T.1))), (6, .ref aw)] dX5_byShares_59 hl (k := 8) rfl (by decide) rfl (fun ls hl => ?_)
                refine z_goto (tgt := 25) E dX5_byShares_62 (by decide) ?_
                exact ih25_2 (j + 1) _ _ _ (by omega) (by omega) G (lv_sub hl [2, 3, 4, 5, 6, 7, 8, 1, 0] rfl)
        exact hp25_2 (n + 1) 0 _ _ _ (by omega) (by omega) G (lv_sub hl [3, 4, 5, 6, 7, 8, 2, 1, 0] rfl)
  exact hp3_1 (mS (fun i => B (7 + i)) S + 1) 0 S _ _ _ (Nat.lt_succ_self _) (Nat.le_of_eq (Nat.zero_add _)) (Or.inl ⟨0, Nat.le_refl 0, rfl⟩) hI G (lv_sub hl [1, 2, 3, 4, 5, 0] rfl)

