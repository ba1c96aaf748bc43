set_option maxHeartbeats 4000000 in
set_option maxRecDepth 100000 in
theorem t_slot {pp : Program} {l : Launch} {ee : Env} {ss : State} {mm : MethodId} {bl : List Frame} {me : Method} {co : Code} {AA : Nat → Prop} {H : Heap} {locs : List Loc} {ls : Array Slot} {Q9 : State → Prop} {D : va_G} {k4 : Nat → ClassId} {bs Ls : Nat} {xs : Nat → Int32} {cl9 sl9 : Nat} (E : zE pp mm co cL_law 18 ss #[Value.ref bs] RL D k4) (S9 : zSc bs Ls xs ss AA) (lo lnow lsl lcl lba ldu nsh nrk h1 r1 q1 h2 r2 q2 : Nat) (ta : Nat → Nat) (sa : Nat → Nat → Nat) (n t : Nat) (cc bc pot gr : Int) (nw bal : Nat → Int) (S1 S2 : sS) (tx : Nat → Nat → Int) (sg : Nat → Nat → Nat → Int) (ea pa ao : Nat) (EF CP T : Nat → Int) (x : Int) (hI : LH n (t + 1) bc pot gr nw bal T EF CP S1 S2 tx sg) (hc9 : cl9 + 84 ≤ room_1.cells) (hs9 : sl9 + 672 ≤ room_1.slots) (G : zG D AA ss.heap ((ea, .inl (k4 0, 48, .inl (fun i9 => iI (EF i9)))) :: (pa, .inl (k4 0, 48, .inl (fun i9 => iI (CP i9)))) :: (ao, .inl (k4 0, 19, .inl (fun i9 => iI (T i9)))) :: (xW k4 lo lnow lsl lcl lba ldu nsh nrk h1 r1 q1 h2 r2 q2 ta sa n (t + 1) 0 cc bc pot gr 0 nw bal (fun _ => 0) S1 S2 tx sg)) H locs) (hl : lv_has ls 18 [(10, .int (iI (0))), (9, .int (iI (0))), (8, .int (iI (((t : Nat) : Int)))), (7, .int (iI (x))), (6, .int (iI (((t : Nat) : Int)))), (5, .ref pa), (4, .ref ea), (3, .int (iI (((n : Nat) : Int)))), (2, .ref ao), (1, .ref lo), (0, .ref bs)]) (kk : ∀  (H : Heap) (locs : List Loc) (ls : Array Slot), zG D AA ss.heap ((ea, .inl (k4 0, 48, .inl (fun i9 => iI (EF i9)))) :: (pa, .inl (k4 0, 48, .inl (fun i9 => iI (CP i9)))) :: (ao, .inl (k4 0, 19, .inl (fun i9 => iI (T i9)))) :: (xW k4 lo lnow lsl lcl lba ldu nsh nrk h1 r1 q1 h2 r2 q2 ta sa n (t + 1) 0 cc bc pot gr 0 nw bal (fun _ => 0) S1 S2 tx sg)) H locs → lv_has ls 18 [(9, .int (iI (con sg (t + 1)))), (8, .int (iI (((t : Nat) : Int)))), (7, .int (iI (x))), (6, .int (iI (((t : Nat) : Int)))), (5, .ref pa), (4, .ref ea), (3, .int (iI (((n : Nat) : Int)))), (2, .ref ao), (1, .ref lo), (0, .ref bs)] → W pp l ee room_1 ss mm #[Value.ref bs] bl me co H locs (cl9 + 84) (sl9 + 672) Q9 (F0 mm 521 ls [])) : W pp l ee room_1 ss mm #[Value.ref bs] bl me co H locs (cl9) (sl9) Q9 (F0 mm 218 ls []) := by
  obtain ⟨⟨⟨i1, i2⟩, hX, i4, i5, i6, i7⟩, i8, i9⟩ := id hI
  obtain ⟨y1, y2, y3, y4, y5, y6, y7, y8, y9⟩ := id hX
  have hp218_1 : ∀ (n9 : Nat) (k : Nat) (H : Heap) (locs : List Loc) (ls : Array Slot), (t + 1 - k < n9) → (k ≤ t + 1) → zG D AA ss.heap ((ea, .inl (k4 0, 48, .inl (fun i9 => iI (EF i9)))) :: (pa, .inl (k4 0, 48, .inl (fun i9 => iI (CP i9)))) :: (ao, .inl (k4 0, 19, .inl (fun i9 => iI (T i9)))) :: (xW k4 lo lnow lsl lcl lba ldu nsh nrk h1 r1 q1 h2 r2 q2 ta sa n (t + 1) 0 cc bc pot gr 0 nw bal (fun _ => 0) S1 S2 tx sg)) H locs → lv_has ls 18 [(10, .int (iI (((k : Nat) : Int)))), (9, .int (iI (con sg k))), (8, .int (iI (((t : Nat) : Int)))), (7, .int (iI (x))), (6, .int (iI (((t : Nat) : Int)))), (5, .ref pa), (4, .ref ea), (3, .int (iI (((n : Nat) : Int)))), (2, .ref ao), (1, .ref lo), (0, .ref bs)] → W pp l ee room_1 ss mm #[Value.ref bs] bl me co H locs (cl9 + 6 * k) (sl9 + 48 * k) Q9 (F0 mm 218 ls []) := by
    intro n9
    induction n9 with
    | zero => intro k H locs ls hn9 hk G hl; exact absurd hn9 (by omega)
    | succ n9 ih =>
      intro k H locs ls hn9 hk G hl
      have ih218_1 := @ih
      refine z_iload E hl 0 rfl dL_law_218 ?_
      refine z_iload E hl 2 rfl dL_law_220 ?_
      refine z_icmp_gt (tgt := 521) E dL_law_222 (by decide) ⟨by omega, by omega⟩ ⟨by omega, by omega⟩ (fun c_222 => ?_) (fun c_222 => ?_)
      · skip
        obtain rfl : k = t + 1 := by omega
        refine W.widen (show cl9 + 6 * (t + 1) ≤ cl9 + 84 by omega) (show sl9 + 48 * (t + 1) ≤ sl9 + 672 by omega) ?_
        exact kk _ _ _ G (lv_sub hl [1, 2, 3, 4, 5, 6, 7, 8, 9, 10] rfl)
      · skip
        obtain ⟨⟨hfc, hch⟩, hef, hcp⟩ := i6 k (by omega)
        have hsl := y9 k (by omega)
        have hz := i5 k (by omega)
        obtain ⟨u1, u2, u3, u4, u5⟩ := fc_sums y1 hsl hfc hz
        have hab := afX_b hsl
        have hte := hsl.1.2.2.2.2.2.2.1
        have htc := hsl.1.2.2.2.2.1
        have hs4 := hsl.2.2.2.2
        have hcb := con_b y9 k (by omega)
        have e9 : con sg (k + 1) = afX (sg k) := rfl
        have hb1 := sumN_b (F := fun i8 => sg k 3 (i8 * 8 + 1)) (B := 5000) n (fun j hj => hsl.2.2.2.1.1 j (by omega) 1 (by omega))
        have hb4 := sumN_b (F := fun i8 => sg k 3 (i8 * 8 + 4)) (B := 5000) n (fun j hj => hsl.2.2.2.1.1 j (by omega) 4 (by omega))
        have hmu := mulB u2.1 u2.2 (show 0 ≤ sg k 0 6 by omega) hte.2
        refine z_iload E hl 1 rfl dL_law_225 ?_
        refine z_aload E hl 5 rfl dL_law_227 ?_
        refine z_iload E hl 0 rfl dL_law_229 ?_
        refine z_iald E G 1 rfl (k) rfl (by omega) (by decide) dL_law_231 ?_
        refine z_eq (y := sg k 0 4) hcp ?_
        refine z_min E hl.1 zw_4 zw_6 zw_5 zw_7 (Nat.le_of_ble_eq_true rfl) (Nat.le_of_ble_eq_true rfl) (by omega) (by omega) ⟨by omega, by omega⟩ ⟨by omega, by omega⟩ dL_law_232 ?_
        refine z_eq (y := sg k 4 0) hch.symm ?_
        refine z_istore E [(9, .int (iI (sg k 4 0))), (10, .int (iI (((k : Nat) : Int)))), (8, .int (iI (((t : Nat) : Int)))), (7, .int (iI (x))), (6, .int (iI (((t : Nat) : Int)))), (5, .ref pa), (4, .ref ea), (3, .int (iI (((n : Nat) : Int)))), (2, .ref ao), (1, .ref lo), (0, .ref bs)] dL_law_235 hl (by decide) rfl (fun ls hl => ?_)
        refine z_aload_n E hl 9 rfl dL_law_237 rfl ?_
        refine z_iload E hl 1 rfl dL_law_238 ?_
        refine z_callVs (pre := [(ea, .inl (k4 0, 48, .inl (fun i9 => iI (EF i9)))), (pa, .inl (k4 0, 48, .inl (fun i9 => iI (CP i9)))), (ao, .inl (k4 0, 19, .inl (fun i9 => iI (T i9))))]) E G hl.1 (c_X4_contentAt l D k4 lo lnow lsl lcl lba ldu nsh nrk h1 r1 q1 h2 r2 q2 ta sa n (t + 1) 0 cc bc pot gr 0 nw bal (fun _ => 0) S1 S2 tx sg k hX (by omega)) kV_L_73 ⟨rfl, rfl, Nat.le_of_ble_eq_true rfl, Nat.le_of_ble_eq_true rfl⟩ 3 4 rfl rfl rfl rfl rfl (Nat.le_of_ble_eq_true rfl) dL_law_240 ⟨(by omega), (by omega)⟩ (fun v9 w9 H locs hq G => ?_)
        obtain ⟨rfl, rfl⟩ := hq
        refine W.eq (g2 := F0 mm 243 ls [.int (iI (if k < (t + 1) then sg k 4 0 else -1))]) rfl ?_
        have G : zG D AA ss.heap ((ea, .inl (k4 0, 48, .inl (fun i9 => iI (EF i9)))) :: (pa, .inl (k4 0, 48, .inl (fun i9 => iI (CP i9)))) :: (ao, .inl (k4 0, 19, .inl (fun i9 => iI (T i9)))) :: (xW k4 lo lnow lsl lcl lba ldu nsh nrk h1 r1 q1 h2 r2 q2 ta sa n (t + 1) 0 cc bc pot gr 0 nw bal (fun _ => 0) S1 S2 tx sg)) H locs := G
        refine z_eq (y := sg k 4 0) (if_pos (by omega)) ?_
        refine z_iload E hl 0 rfl dL_law_243 ?_
        refine z_icmp_eq (tgt := 250) E dL_law_245 (by decide) ⟨by omega, by omega⟩ ⟨by omega, by omega⟩ (fun c_245 => ?_) (fun c_245 => absurd c_245 (by omega))
        refine z_iconst E dL_law_250 ?_
        refine z_istore E [(11, .int (iI (0))), (9, .int (iI (sg k 4 0))), (10, .int (iI (((k : Nat) : Int)))), (8, .int (iI (((t : Nat) : Int)))), (7, .int (iI (x))), (6, .int (iI (((t : Nat) : Int)))), (5, .ref pa), (4, .ref ea), (3, .int (iI (((n : Nat) : Int)))), (2, .ref ao), (1, .ref lo), (0, .ref bs)] dL_law_251 hl (by decide) rfl (fun ls hl => ?_)
        refine z_iconst E dL_law_253 ?_
        refine z_istore E [(12, .int (iI (0))), (11, .int (iI (0))), (9, .int (iI (sg k 4 0))), (10, .int (iI (((k : Nat) : Int)))), (8, .int (iI (((t : Nat) : Int)))), (7, .int (iI (x))), (6, .int (iI (((t : Nat) : Int)))), (5, .ref pa), (4, .ref ea), (3, .int (iI (((n : Nat) : Int)))), (2, .ref ao), (1, .ref lo), (0, .ref bs)] dL_law_254 hl (by decide) rfl (fun ls hl => ?_)
        refine z_iconst E dL_law_256 ?_
        refine z_istore E [(13, .int (iI (0))), (12, .int (iI (0))), (11, .int (iI (0))), (9, .int (iI (sg k 4 0))), (10, .int (iI (((k : Nat) : Int)))), (8, .int (iI (((t : Nat) : Int)))), (7, .int (iI (x))), (6, .int (iI (((t : Nat) : Int)))), (5, .ref pa), (4, .ref ea), (3, .int (iI (((n : Nat) : Int)))), (2, .ref ao), (1, .ref lo), (0, .ref bs)] dL_law_257 hl (by decide) rfl (fun ls hl => ?_)
        refine z_iconst E dL_law_259 ?_
        refine z_istore E [(14, .int (iI (0))), (13, .int (iI (0))), (12, .int (iI (0))), (11, .int (iI (0))), (9, .int (iI (sg k 4 0))), (10, .int (iI (((k : Nat) : Int)))), (8, .int (iI (((t : Nat) : Int)))), (7, .int (iI (x))), (6, .int (iI (((t : Nat) : Int)))), (5, .ref pa), (4, .ref ea), (3, .int (iI (((n : Nat) : Int)))), (2, .ref ao), (1, .ref lo), (0, .ref bs)] dL_law_260 hl (by decide) rfl (fun ls hl => ?_)
        refine z_iconst E dL_law_262 ?_
        refine z_istore E [(15, .int (iI (0))), (14, .int (iI (0))), (13, .int (iI (0))), (12, .int (iI (0))), (11, .int (iI (0))), (9, .int (iI (sg k 4 0))), (10, .int (iI (((k : Nat) : Int)))), (8, .int (iI (((t : Nat) : Int)))), (7, .int (iI (x))), (6, .int (iI (((t : Nat) : Int)))), (5, .ref pa), (4, .ref ea), (3, .int (iI (((n : Nat) : Int)))), (2, .ref ao), (1, .ref lo), (0, .ref bs)] dL_law_263 hl (by decide) rfl (fun ls hl => ?_)
        refine t_mem E S9 lo lnow lsl lcl lba ldu nsh nrk h1 r1 q1 h2 r2 q2 ta sa n t cc bc pot gr nw bal S1 S2 tx sg ea pa ao EF CP T k x (sg k 4 0) hX hsl hfc y1 (by omega) (by omega) (by omega) (by omega) G (lv_sub hl [0, 1, 2, 3, 4, 6, 5, 7, 8, 9, 10, 11, 12, 13, 14, 15] rfl) (fun H locs ls G hl => ?_)
        have G : zG D AA ss.heap ((ea, .inl (k4 0, 48, .inl (fun i9 => iI (EF i9)))) :: (pa, .inl (k4 0, 48, .inl (fun i9 => iI (CP i9)))) :: (ao, .inl (k4 0, 19, .inl (fun i9 => iI (T i9)))) :: (xW k4 lo lnow lsl lcl lba ldu nsh nrk h1 r1 q1 h2 r2 q2 ta sa n (t + 1) 0 cc bc pot gr 0 nw bal (fun _ => 0) S1 S2 tx sg)) H locs := G
        refine z_iload E hl 3 rfl dL_law_460 ?_
        refine z_iload E hl 2 rfl dL_law_462 ?_
        refine z_icmp_ne (tgt := 477) E dL_law_464 (by decide) ⟨by omega, by omega⟩ ⟨by omega, by omega⟩ (fun c_464 => absurd c_464 (by omega)) (fun c_464 => ?_)
        refine z_iload E hl 1 rfl dL_law_467 ?_
        refine z_if_le (tgt := 479) E dL_law_469 (by decide) ⟨by omega, by omega⟩ (fun c_469 => ?_) (fun c_469 => ?_)
        · skip
          refine z_iload E hl 5 rfl dL_law_479 ?_
          refine z_iload E hl 1 rfl dL_law_481 ?_
          refine z_aload E hl 10 rfl dL_law_483 ?_
          refine z_iload E hl 4 rfl dL_law_485 ?_
          refine z_iald E G 0 rfl (k) rfl (by omega) (by decide) dL_law_487 ?_
          refine z_eq (y := sg k 0 6) hef ?_
          refine z_imul E dL_law_488 ?_
          refine z_bipush E dL_law_489 (by decide) ?_
          refine z_idiv E dL_law_491 ⟨by omega, by omega⟩ ⟨by omega, by omega⟩ ?_
          refine z_iload E hl 0 rfl dL_law_492 ?_
          refine z_isub E dL_law_494 ?_
          refine z_iadd E dL_law_495 ?_
          refine z_eq (y := con sg (k + 1)) (by omega) ?_
          refine z_istore E [(9, .int (iI (con sg (k + 1)))), (14, .int (iI (sumN (fun i8 => sg k 3 (i8 * 8 + 2)) n))), (13, .int (iI (sumN (fun i8 => sg k 3 (i8 * 8 + 5)) n))), (12, .int (iI (sumN (fun i8 => sg k 3 (i8 * 8 + 4)) n))), (11, .int (iI (sumN (fun i8 => sg k 3 (i8 * 8 + 1)) n))), (10, .int (iI (((k : Nat) : Int)))), (8, .int (iI (((t : Nat) : Int)))), (7, .int (iI (x))), (6, .int (iI (((t : Nat) : Int)))), (5, .ref pa), (4, .ref ea), (3, .int (iI (((n : Nat) : Int)))), (2, .ref ao), (1, .ref lo), (0, .ref bs)] dL_law_496 hl (by decide) rfl (fun ls hl => ?_)
          refine z_iload E hl 0 rfl dL_law_498 ?_
          refine z_if_lt (tgt := 513) E dL_law_500 (by decide) ⟨by omega, by omega⟩ (fun c_500 => absurd c_500 (by omega)) (fun c_500 => ?_)
          refine z_iload E hl 0 rfl dL_law_503 ?_
          refine z_aload E hl 9 rfl dL_law_505 ?_
          refine z_iload E hl 5 rfl dL_law_507 ?_
          refine z_iald E G 1 rfl (k) rfl (by omega) (by decide) dL_law_509 ?_
          refine z_eq (y := sg k 0 4) hcp ?_
          refine z_icmp_le (tgt := 515) E dL_law_510 (by decide) ⟨by omega, by omega⟩ ⟨by omega, by omega⟩ (fun c_510 => ?_) (fun c_510 => absurd c_510 (by omega))
          refine z_iinc E [(10, .int (iI (((k : Nat) : Int) + 1))), (9, .int (iI (con sg (k + 1)))), (14, .int (iI (sumN (fun i8 => sg k 3 (i8 * 8 + 2)) n))), (13, .int (iI (sumN (fun i8 => sg k 3 (i8 * 8 + 5)) n))), (12, .int (iI (sumN (fun i8 => sg k 3 (i8 * 8 + 4)) n))), (11, .int (iI (sumN (fun i8 => sg k 3 (i8 * 8 + 1)) n))), (8, .int (iI (((t : Nat) : Int)))), (7, .int (iI (x))), (6, .int (iI (((t : Nat) : Int)))), (5, .ref pa), (4, .ref ea), (3, .int (iI (((n : Nat) : Int)))), (2, .ref ao), (1, .ref lo), (0, .ref bs)] dL_law_515 hl (k := 5) rfl (by decide) rfl (fun ls hl => ?_)
          refine z_goto (tgt := 218) E dL_law_518 (by decide) ?_
          refine W.cs (cells' := cl9 + 6 * (k + 1)) (slots' := sl9 + 48 * (k + 1)) (by omega) (by omega) ?_
          exact ih218_1 (k + 1) _ _ _ (by omega) (by omega) G (lv_sub hl [0, 1, 6, 7, 8, 9, 10, 11, 12, 13, 14] rfl)
        · skip
          refine z_iload E hl 0 rfl dL_law_472 ?_
          refine z_if_le (tgt := 479) E dL_law_474 (by decide) ⟨by omega, by omega⟩ (fun c_474 => ?_) (fun c_474 => absurd c_474 (by omega))
          refine z_iload E hl 5 rfl dL_law_479 ?_
          refine z_iload E hl 1 rfl dL_law_481 ?_
          refine z_aload E hl 10 rfl dL_law_483 ?_
          refine z_iload E hl 4 rfl dL_law_485 ?_
          refine z_iald E G 0 rfl (k) rfl (by omega) (by decide) dL_law_487 ?_
          refine z_eq (y := sg k 0 6) hef ?_
          refine z_imul E dL_law_488 ?_
          refine z_bipush E dL_law_489 (by decide) ?_
          refine z_idiv E dL_law_491 ⟨by omega, by omega⟩ ⟨by omega, by omega⟩ ?_
          refine z_iload E hl 0 rfl dL_law_492 ?_
          refine z_isub E dL_law_494 ?_
          refine z_iadd E dL_law_495 ?_
          refine z_eq (y := con sg (k + 1)) (by omega) ?_
          refine z_istore E [(9, .int (iI (con sg (k + 1)))), (14, .int (iI (sumN (fun i8 => sg k 3 (i8 * 8 + 2)) n))), (13, .int (iI (sumN (fun i8 => sg k 3 (i8 * 8 + 5)) n))), (12, .int (iI (sumN (fun i8 => sg k 3 (i8 * 8 + 4)) n))), (11, .int (iI (sumN (fun i8 => sg k 3 (i8 * 8 + 1)) n))), (10, .int (iI (((k : Nat) : Int)))), (8, .int (iI (((t : Nat) : Int)))), (7, .int (iI (x))), (6, .int (iI (((t : Nat) : Int)))), (5, .ref pa), (4, .ref ea), (3, .int (iI (((n : Nat) : Int)))), (2, .ref ao), (1, .ref lo), (0, .ref bs)] dL_law_496 hl (by decide) rfl (fun ls hl => ?_)
          refine z_iload E hl 0 rfl dL_law_498 ?_
          refine z_if_lt (tgt := 513) E dL_law_500 (by decide) ⟨by omega, by omega⟩ (fun c_500 => absurd c_500 (by omega)) (fun c_500 => ?_)
          refine z_iload E hl 0 rfl dL_law_503 ?_
          refine z_aload E hl 9 rfl dL_law_505 ?_
          refine z_iload E hl 5 rfl dL_law_507 ?_
          refine z_iald E G 1 rfl (k) rfl (by omega) (by decide) dL_law_509 ?_
          refine z_eq (y := sg k 0 4) hcp ?_
          refine z_icmp_le (tgt := 515) E dL_law_510 (by decide) ⟨by omega, by omega⟩ ⟨by omega, by omega⟩ (fun c_510 => ?_) (fun c_510 => absurd c_510 (by omega))
          refine z_iinc E [(10, .int (iI (((k : Nat) : Int) + 1))), (9, .int (iI (con sg (k + 1)))), (14, .int (iI (sumN (fun i8 => sg k 3 (i8 * 8 + 2)) n))), (13, .int (iI (sumN (fun i8 => sg k 3 (i8 * 8 + 5)) n))), (12, .int (iI (sumN (fun i8 => sg k 3 (i8 * 8 + 4)) n))), (11, .int (iI (sumN (fun i8 => sg k 3 (i8 * 8 + 1)) n))), (8, .int (iI (((t : Nat) : Int)))), (7, .int (iI (x))), (6, .int (iI (((t : Nat) : Int)))), (5, .ref pa), (4, .ref ea), (3, .int (iI (((n : Nat) : Int)))), (2, .ref ao), (1, .ref lo), (0, .ref bs)] dL_law_515 hl (k := 5) rfl (by decide) rfl (fun ls hl => ?_)
          refine z_goto (tgt := 218) E dL_law_518 (by decide) ?_
          refine W.cs (cells' := cl9 + 6 * (k + 1)) (slots' := sl9 + 48 * (k + 1)) (by omega) (by omega) ?_
          exact ih218_1 (k + 1) _ _ _ (by omega) (by omega) G (lv_sub hl [0, 1, 6, 7, 8, 9, 10, 11, 12, 13, 14] rfl)
  exact hp218_1 (t + 2) 0 _ _ _ (by omega) (by omega) G (lv_sub hl [0, 1, 2, 3, 4, 5, 6, 7, 8, 9, 10] rfl)
