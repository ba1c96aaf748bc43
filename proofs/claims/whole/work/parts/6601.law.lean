set_option maxHeartbeats 4000000 in
set_option maxRecDepth 100000 in
theorem s_setBattery {pp : Program} {l : Launch} {ee : Env} {ss : State} {mm : MethodId} {bl : List Frame} {me : Method} {co : Code} {AA : Nat → Prop} {H : Heap} {locs : List Loc} {ls : Array Slot} {Q9 : State → Prop} {D : va_G} {k4 : Nat → ClassId} {bs Ls : Nat} {xs : Nat → Int32} {cl9 sl9 : Nat} (hl9 : l.stackTraces = false) (E : zE pp mm co cL_law 9 ss #[Value.ref bs] RL D k4) (X : zEL ss AA) (S9 : zSc bs Ls xs ss AA) (i : Nat) (hi5 : i + 4 < Ls) (lo lnow lsl lcl lba ldu nsh nrk h1 r1 q1 h2 r2 q2 : Nat) (ta : Nat → Nat) (sa : Nat → Nat → Nat) (n p st : Nat) (cc bc pot gr bk : Int) (nw bal due : Nat → Int) (S1 S2 : sS) (tx : Nat → Nat → Int) (sg : Nat → Nat → Nat → Int) (a b d : Int) (mo mnw mte mge mus mco mfl mba mdu : Nat) (th btw bhd : Int) (NW TE GE US CO FL BA DU : Nat → Int) (ao : Nat) (O : Nat → Int) (hX : xOK n p st bc nw S1 S2 tx sg) (ha : 0 ≤ a ∧ a ≤ 20000) (hb : 0 ≤ b ∧ b ≤ 5000) (hd : 1 ≤ d ∧ d ≤ 100) (hn9 : n ≤ 6) (hp9 : p ≤ 48) (hs9 : st ≤ 48) (hcc : rng cc) (hb9 : 0 ≤ bc ∧ bc ≤ 20000) (hx1 : (xs (i + 1)).toInt = a) (hx2 : (xs (i + 2)).toInt = b) (hx3 : (xs (i + 3)).toInt = d) (hrb : rng (bc - min bc a)) (hc9 : cl9 + ((0) + (0)) ≤ room_1.cells) (hs99 : sl9 + ((0) + (0)) ≤ room_1.slots) (G : zG D AA ss.heap ((mo, .inr (5, [.int (iI (th)), .int (iI (((n : Nat) : Int))), .ref mnw, .ref mte, .ref mge, .ref mus, .int (iI (((p : Nat) : Int))), .int (iI (((st : Nat) : Int))), .int (iI (cc)), .int (iI (bc)), .ref mco, .ref mfl, .ref mba, .ref mdu, .long (lI (pot)), .long (lI (gr)), .long (lI (bk)), .int (iI (btw)), .int (iI (bhd))])) :: (mnw, .inl (k4 0, 19, .inl (fun i9 => iI (NW i9)))) :: (mte, .inl (k4 0, 912, .inl (fun i9 => iI (TE i9)))) :: (mge, .inl (k4 0, 288, .inl (fun i9 => iI (GE i9)))) :: (mus, .inl (k4 0, 288, .inl (fun i9 => iI (US i9)))) :: (mco, .inl (k4 0, 48, .inl (fun i9 => iI (CO i9)))) :: (mfl, .inl (k4 0, 2304, .inl (fun i9 => iI (FL i9)))) :: (mba, .inl (k4 1, 6, .inr (.inl (fun i9 => lI (BA i9))))) :: (mdu, .inl (k4 1, 6, .inr (.inl (fun i9 => lI (DU i9))))) :: (ao, .inl (k4 1, 1, .inr (.inl (fun i9 => lI (O i9))))) :: (xW k4 lo lnow lsl lcl lba ldu nsh nrk h1 r1 q1 h2 r2 q2 ta sa n p st cc bc pot gr bk nw bal due S1 S2 tx sg)) H locs) (hl : lv_has ls 9 [(0, .ref bs), (1, .ref lo), (2, .ref mo), (3, .ref ao), (4, .int (iI (((i : Nat) : Int))))]) (kk : ∀ (H : Heap) (locs : List Loc) (ls : Array Slot), zG D AA ss.heap ((mo, .inr (5, [.int (iI (0)), .int (iI (((n : Nat) : Int))), .ref mnw, .ref mte, .ref mge, .ref mus, .int (iI (((p : Nat) : Int))), .int (iI (((st : Nat) : Int))), .int (iI (cc)), .int (iI ((min bc a))), .ref mco, .ref mfl, .ref mba, .ref mdu, .long (lI (pot)), .long (lI (gr)), .long (lI (bk)), .int (iI (btw)), .int (iI (bhd))])) :: (mnw, .inl (k4 0, 19, .inl (fun i9 => iI ((up (up (up NW 4 a) 5 b) 6 d) i9)))) :: (mte, .inl (k4 0, 912, .inl (fun i9 => iI (TE i9)))) :: (mge, .inl (k4 0, 288, .inl (fun i9 => iI (GE i9)))) :: (mus, .inl (k4 0, 288, .inl (fun i9 => iI (US i9)))) :: (mco, .inl (k4 0, 48, .inl (fun i9 => iI (CO i9)))) :: (mfl, .inl (k4 0, 2304, .inl (fun i9 => iI (FL i9)))) :: (mba, .inl (k4 1, 6, .inr (.inl (fun i9 => lI (BA i9))))) :: (mdu, .inl (k4 1, 6, .inr (.inl (fun i9 => lI (DU i9))))) :: (ao, .inl (k4 1, 1, .inr (.inl (fun i9 => lI ((up O 0 (bc - min bc a)) i9))))) :: (xW k4 lo lnow lsl lcl lba ldu nsh nrk h1 r1 q1 h2 r2 q2 ta sa n p st cc (min bc a) pot gr bk (up (up (up nw 4 (a)) 5 (b)) 6 (d)) bal due S1 S2 tx sg)) H locs → lv_has ls 9 [(0, .ref bs), (1, .ref lo), (2, .ref mo), (3, .ref ao), (4, .int (iI (((i : Nat) : Int))))] → W pp l ee room_1 ss mm #[Value.ref bs] bl me co H locs (cl9 + ((0) + (0))) (sl9 + ((0) + (0))) Q9 (F0 mm 1502 ls [])) : W pp l ee room_1 ss mm #[Value.ref bs] bl me co H locs (cl9) (sl9) Q9 (F0 mm 408 ls []) := by
  refine z_aload_n E hl 1 rfl dL_law_408 rfl ?_
  refine z_aload_n E hl 0 rfl dL_law_409 rfl ?_
  refine z_iload E hl 4 rfl dL_law_410 ?_
  refine z_iconst E dL_law_412 ?_
  refine z_iadd E dL_law_413 ?_
  refine z_sld E S9 G (i + 1) (by omega) (by omega) dL_law_414 ?_
  refine z_eq (y := a) hx1 ?_
  refine z_aload_n E hl 0 rfl dL_law_415 rfl ?_
  refine z_iload E hl 4 rfl dL_law_416 ?_
  refine z_iconst E dL_law_418 ?_
  refine z_iadd E dL_law_419 ?_
  refine z_sld E S9 G (i + 2) (by omega) (by omega) dL_law_420 ?_
  refine z_eq (y := b) hx2 ?_
  refine z_aload_n E hl 0 rfl dL_law_421 rfl ?_
  refine z_iload E hl 4 rfl dL_law_422 ?_
  refine z_iconst E dL_law_424 ?_
  refine z_iadd E dL_law_425 ?_
  refine z_sld E S9 G (i + 3) (by omega) (by omega) dL_law_426 ?_
  refine z_eq (y := d) hx3 ?_
  refine z_aload_n E hl 3 rfl dL_law_427 rfl ?_
  refine z_callL (n := 5) (pre := [(mo, .inr (5, [.int (iI (th)), .int (iI (((n : Nat) : Int))), .ref mnw, .ref mte, .ref mge, .ref mus, .int (iI (((p : Nat) : Int))), .int (iI (((st : Nat) : Int))), .int (iI (cc)), .int (iI (bc)), .ref mco, .ref mfl, .ref mba, .ref mdu, .long (lI (pot)), .long (lI (gr)), .long (lI (bk)), .int (iI (btw)), .int (iI (bhd))])), (mnw, .inl (k4 0, 19, .inl (fun i9 => iI (NW i9)))), (mte, .inl (k4 0, 912, .inl (fun i9 => iI (TE i9)))), (mge, .inl (k4 0, 288, .inl (fun i9 => iI (GE i9)))), (mus, .inl (k4 0, 288, .inl (fun i9 => iI (US i9)))), (mco, .inl (k4 0, 48, .inl (fun i9 => iI (CO i9)))), (mfl, .inl (k4 0, 2304, .inl (fun i9 => iI (FL i9)))), (mba, .inl (k4 1, 6, .inr (.inl (fun i9 => lI (BA i9))))), (mdu, .inl (k4 1, 6, .inr (.inl (fun i9 => lI (DU i9)))))]) E X G hl.1 (w_setBattery l D k4 lo lnow lsl lcl lba ldu nsh nrk h1 r1 q1 h2 r2 q2 ta sa n p st cc bc pot gr bk nw bal due S1 S2 tx sg a b d ao O hX ha hb hd) zw_171 zw_172 zw_74 zw_173 (by decide +kernel) (by decide +kernel) ⟨rfl, rfl, Nat.le_of_ble_eq_true rfl, Nat.le_of_ble_eq_true rfl⟩ rfl rfl (Nat.le_of_ble_eq_true rfl) dL_law_428 ⟨by omega, by omega⟩ (fun v9 w9 H locs hq G => ?_)
  obtain ⟨rfl, rfl⟩ := hq
  refine W.eq (g2 := F0 mm 431 ls [.int (iI (0))]) rfl ?_
  have G : zG D AA ss.heap ((mo, .inr (5, [.int (iI (th)), .int (iI (((n : Nat) : Int))), .ref mnw, .ref mte, .ref mge, .ref mus, .int (iI (((p : Nat) : Int))), .int (iI (((st : Nat) : Int))), .int (iI (cc)), .int (iI (bc)), .ref mco, .ref mfl, .ref mba, .ref mdu, .long (lI (pot)), .long (lI (gr)), .long (lI (bk)), .int (iI (btw)), .int (iI (bhd))])) :: (mnw, .inl (k4 0, 19, .inl (fun i9 => iI (NW i9)))) :: (mte, .inl (k4 0, 912, .inl (fun i9 => iI (TE i9)))) :: (mge, .inl (k4 0, 288, .inl (fun i9 => iI (GE i9)))) :: (mus, .inl (k4 0, 288, .inl (fun i9 => iI (US i9)))) :: (mco, .inl (k4 0, 48, .inl (fun i9 => iI (CO i9)))) :: (mfl, .inl (k4 0, 2304, .inl (fun i9 => iI (FL i9)))) :: (mba, .inl (k4 1, 6, .inr (.inl (fun i9 => lI (BA i9))))) :: (mdu, .inl (k4 1, 6, .inr (.inl (fun i9 => lI (DU i9))))) :: (ao, .inl (k4 1, 1, .inr (.inl (fun i9 => lI ((up O 0 (bc - min bc a)) i9))))) :: (xW k4 lo lnow lsl lcl lba ldu nsh nrk h1 r1 q1 h2 r2 q2 ta sa n p st cc (min bc a) pot gr bk (up (up (up nw 4 (a)) 5 (b)) 6 (d)) bal due S1 S2 tx sg)) H locs := G
  refine z_istore E [(5, .int (iI (0))), (0, .ref bs), (1, .ref lo), (2, .ref mo), (3, .ref ao), (4, .int (iI (((i : Nat) : Int))))] dL_law_431 hl (by decide) rfl (fun ls hl => ?_)
  refine z_aload_n E hl 3 rfl dL_law_433 rfl ?_
  refine z_aload_n E hl 1 rfl dL_law_434 rfl ?_
  refine z_iload E hl 5 rfl dL_law_435 ?_
  refine z_iconst E dL_law_437 ?_
  refine z_iadd E dL_law_438 ?_
  refine z_sld E S9 G (i + 1) (by omega) (by omega) dL_law_439 ?_
  refine z_eq (y := a) hx1 ?_
  refine z_aload_n E hl 1 rfl dL_law_440 rfl ?_
  refine z_iload E hl 5 rfl dL_law_441 ?_
  refine z_iconst E dL_law_443 ?_
  refine z_iadd E dL_law_444 ?_
  refine z_sld E S9 G (i + 2) (by omega) (by omega) dL_law_445 ?_
  refine z_eq (y := b) hx2 ?_
  refine z_aload_n E hl 1 rfl dL_law_446 rfl ?_
  refine z_iload E hl 5 rfl dL_law_447 ?_
  refine z_iconst E dL_law_449 ?_
  refine z_iadd E dL_law_450 ?_
  refine z_sld E S9 G (i + 3) (by omega) (by omega) dL_law_451 ?_
  refine z_eq (y := d) hx3 ?_
  refine z_callV E G hl.1 (c_X5_setBattery l D k4 mo mnw mte mge mus mco mfl mba mdu th n p st cc bc pot gr bk btw bhd a b d NW (by omega) (by omega) (by omega) (by omega) (by omega)) kV_L_105 ⟨rfl, rfl, Nat.le_of_ble_eq_true rfl, Nat.le_of_ble_eq_true rfl⟩ [0, 1] rfl (by decide) 0 5 rfl rfl rfl rfl rfl (Nat.le_of_ble_eq_true rfl) dL_law_452 ⟨by omega, by omega⟩ (fun v9 w9 H locs hq G => ?_)
  obtain ⟨rfl, rfl⟩ := hq
  refine W.eq (g2 := F0 mm 455 ls [.int (iI (bc - min bc a))]) rfl ?_
  have G : zG D AA ss.heap ((mo, .inr (5, [.int (iI (0)), .int (iI (((n : Nat) : Int))), .ref mnw, .ref mte, .ref mge, .ref mus, .int (iI (((p : Nat) : Int))), .int (iI (((st : Nat) : Int))), .int (iI (cc)), .int (iI (min bc a)), .ref mco, .ref mfl, .ref mba, .ref mdu, .long (lI (pot)), .long (lI (gr)), .long (lI (bk)), .int (iI (btw)), .int (iI (bhd))])) :: (mnw, .inl (k4 0, 19, .inl (fun i9 => iI ((up (up (up NW 4 a) 5 b) 6 d) i9)))) :: (mte, .inl (k4 0, 912, .inl (fun i9 => iI (TE i9)))) :: (mge, .inl (k4 0, 288, .inl (fun i9 => iI (GE i9)))) :: (mus, .inl (k4 0, 288, .inl (fun i9 => iI (US i9)))) :: (mco, .inl (k4 0, 48, .inl (fun i9 => iI (CO i9)))) :: (mfl, .inl (k4 0, 2304, .inl (fun i9 => iI (FL i9)))) :: (mba, .inl (k4 1, 6, .inr (.inl (fun i9 => lI (BA i9))))) :: (mdu, .inl (k4 1, 6, .inr (.inl (fun i9 => lI (DU i9))))) :: (ao, .inl (k4 1, 1, .inr (.inl (fun i9 => lI ((up O 0 (bc - min bc a)) i9))))) :: (xW k4 lo lnow lsl lcl lba ldu nsh nrk h1 r1 q1 h2 r2 q2 ta sa n p st cc (min bc a) pot gr bk (up (up (up nw 4 (a)) 5 (b)) 6 (d)) bal due S1 S2 tx sg)) H locs := G
  refine z_istore E [(6, .int (iI (bc - min bc a))), (5, .int (iI (0))), (0, .ref bs), (1, .ref lo), (2, .ref mo), (3, .ref ao), (4, .int (iI (((i : Nat) : Int))))] dL_law_455 hl (by decide) rfl (fun ls hl => ?_)
  refine z_aload_n E hl 4 rfl dL_law_457 rfl ?_
  refine z_callV E G hl.1 (c_X5_thrown l D k4 mo mnw mte mge mus mco mfl mba mdu 0 n p st cc (min bc a) pot gr bk btw bhd ) kV_L_89 ⟨rfl, rfl, Nat.le_of_ble_eq_true rfl, Nat.le_of_ble_eq_true rfl⟩ [0] rfl (by decide) 0 5 rfl rfl rfl rfl rfl (Nat.le_of_ble_eq_true rfl) dL_law_458 ⟨by omega, by omega⟩ (fun v9 w9 H locs hq G => ?_)
  obtain ⟨rfl, rfl⟩ := hq
  refine W.eq (g2 := F0 mm 461 ls [.int (iI (0))]) rfl ?_
  have G : zG D AA ss.heap ((mo, .inr (5, [.int (iI (0)), .int (iI (((n : Nat) : Int))), .ref mnw, .ref mte, .ref mge, .ref mus, .int (iI (((p : Nat) : Int))), .int (iI (((st : Nat) : Int))), .int (iI (cc)), .int (iI ((min bc a))), .ref mco, .ref mfl, .ref mba, .ref mdu, .long (lI (pot)), .long (lI (gr)), .long (lI (bk)), .int (iI (btw)), .int (iI (bhd))])) :: (mnw, .inl (k4 0, 19, .inl (fun i9 => iI ((up (up (up NW 4 a) 5 b) 6 d) i9)))) :: (mte, .inl (k4 0, 912, .inl (fun i9 => iI (TE i9)))) :: (mge, .inl (k4 0, 288, .inl (fun i9 => iI (GE i9)))) :: (mus, .inl (k4 0, 288, .inl (fun i9 => iI (US i9)))) :: (mco, .inl (k4 0, 48, .inl (fun i9 => iI (CO i9)))) :: (mfl, .inl (k4 0, 2304, .inl (fun i9 => iI (FL i9)))) :: (mba, .inl (k4 1, 6, .inr (.inl (fun i9 => lI (BA i9))))) :: (mdu, .inl (k4 1, 6, .inr (.inl (fun i9 => lI (DU i9))))) :: (ao, .inl (k4 1, 1, .inr (.inl (fun i9 => lI ((up O 0 (bc - min bc a)) i9))))) :: (xW k4 lo lnow lsl lcl lba ldu nsh nrk h1 r1 q1 h2 r2 q2 ta sa n p st cc (min bc a) pot gr bk (up (up (up nw 4 (a)) 5 (b)) 6 (d)) bal due S1 S2 tx sg)) H locs := G
  refine z_iload E hl 1 rfl dL_law_461 ?_
  refine z_icmp_eq (tgt := 468) E dL_law_463 (by decide) (by decide) (by decide) (fun c_463 => ?_) (fun c_463 => absurd c_463 (by decide))
  refine z_iload E hl 1 rfl dL_law_468 ?_
  refine z_if_ne (tgt := 485) E dL_law_470 (by decide) (by decide) (fun c_470 => absurd c_470 (by decide)) (fun c_470 => ?_)
  refine z_aload_n E hl 5 rfl dL_law_473 rfl ?_
  refine z_iconst E dL_law_474 ?_
  refine z_lald E G 9 rfl (0) rfl (by decide) (by decide) dL_law_475 ?_
  refine z_eql (y := bc - min bc a) up_s ?_
  refine z_iload E hl 0 rfl dL_law_476 ?_
  refine z_i2l E dL_law_478 hrb ?_
  refine z_lcmp E dL_law_479 ?_
  refine z_if_eq (tgt := 485) E dL_law_480 (by decide) (lcI_rng _ _) (fun c_480 => ?_) (fun c_480 => absurd c_480 (by rw [lcI_self]; decide))
  refine z_goto (tgt := 1502) E dL_law_485 (by decide) ?_
  refine W.cs (cells' := cl9 + ((0) + (0))) (slots' := sl9 + ((0) + (0))) (by omega) (by omega) ?_
  exact kk _ _ _ G (lv_sub hl [2, 3, 4, 5, 6] rfl)

set_option maxHeartbeats 4000000 in
set_option maxRecDepth 100000 in
theorem s_setBattery_0 {pp : Program} {l : Launch} {ee : Env} {ss : State} {mm : MethodId} {bl : List Frame} {me : Method} {co : Code} {AA : Nat → Prop} {H : Heap} {locs : List Loc} {ls : Array Slot} {Q9 : State → Prop} {D : va_G} {k4 : Nat → ClassId} {bs Ls : Nat} {xs : Nat → Int32} {cl9 sl9 : Nat} (hl9 : l.stackTraces = false) (E : zE pp mm co cL_law 9 ss #[Value.ref bs] RL D k4) (X : zEL ss AA) (S9 : zSc bs Ls xs ss AA) (i : Nat) (hi5 : i + 4 < Ls) (lo lnow lsl lcl lba ldu nsh nrk h1 r1 q1 h2 r2 q2 : Nat) (ta : Nat → Nat) (sa : Nat → Nat → Nat) (n p st : Nat) (cc bc pot gr bk : Int) (nw bal due : Nat → Int) (S1 S2 : sS) (tx : Nat → Nat → Int) (sg : Nat → Nat → Nat → Int) (a : Int) (b : Int) (d : Int) (mo mnw mte mge mus mco mfl mba mdu : Nat) (th btw bhd : Int) (NW TE GE US CO FL BA DU : Nat → Int) (ao : Nat) (O : Nat → Int) (hX : xOK n p st bc nw S1 S2 tx sg) (ha : -2147483648 ≤ a ∧ a ≤ 2147483647 ∧ (a < 0 ∨ 20000 < a)) (hn9 : n ≤ 6) (hp9 : p ≤ 48) (hs9 : st ≤ 48) (hcc : rng cc) (hb9 : 0 ≤ bc ∧ bc ≤ 20000) (hx1 : (xs (i + 1)).toInt = a) (hx2 : (xs (i + 2)).toInt = b) (hx3 : (xs (i + 3)).toInt = d) (hc9 : cl9 + ((1) + (0)) ≤ room_1.cells) (hs99 : sl9 + ((6) + (0)) ≤ room_1.slots) (G : zG D AA ss.heap ((mo, .inr (5, [.int (iI (th)), .int (iI (((n : Nat) : Int))), .ref mnw, .ref mte, .ref mge, .ref mus, .int (iI (((p : Nat) : Int))), .int (iI (((st : Nat) : Int))), .int (iI (cc)), .int (iI (bc)), .ref mco, .ref mfl, .ref mba, .ref mdu, .long (lI (pot)), .long (lI (gr)), .long (lI (bk)), .int (iI (btw)), .int (iI (bhd))])) :: (mnw, .inl (k4 0, 19, .inl (fun i9 => iI (NW i9)))) :: (mte, .inl (k4 0, 912, .inl (fun i9 => iI (TE i9)))) :: (mge, .inl (k4 0, 288, .inl (fun i9 => iI (GE i9)))) :: (mus, .inl (k4 0, 288, .inl (fun i9 => iI (US i9)))) :: (mco, .inl (k4 0, 48, .inl (fun i9 => iI (CO i9)))) :: (mfl, .inl (k4 0, 2304, .inl (fun i9 => iI (FL i9)))) :: (mba, .inl (k4 1, 6, .inr (.inl (fun i9 => lI (BA i9))))) :: (mdu, .inl (k4 1, 6, .inr (.inl (fun i9 => lI (DU i9))))) :: (ao, .inl (k4 1, 1, .inr (.inl (fun i9 => lI (O i9))))) :: (xW k4 lo lnow lsl lcl lba ldu nsh nrk h1 r1 q1 h2 r2 q2 ta sa n p st cc bc pot gr bk nw bal due S1 S2 tx sg)) H locs) (hl : lv_has ls 9 [(0, .ref bs), (1, .ref lo), (2, .ref mo), (3, .ref ao), (4, .int (iI (((i : Nat) : Int))))]) (kk : ∀ (H : Heap) (locs : List Loc) (ls : Array Slot), zG D AA ss.heap ((mo, .inr (5, [.int (iI (1)), .int (iI (((n : Nat) : Int))), .ref mnw, .ref mte, .ref mge, .ref mus, .int (iI (((p : Nat) : Int))), .int (iI (((st : Nat) : Int))), .int (iI (cc)), .int (iI (bc)), .ref mco, .ref mfl, .ref mba, .ref mdu, .long (lI (pot)), .long (lI (gr)), .long (lI (bk)), .int (iI (btw)), .int (iI (bhd))])) :: (mnw, .inl (k4 0, 19, .inl (fun i9 => iI (NW i9)))) :: (mte, .inl (k4 0, 912, .inl (fun i9 => iI (TE i9)))) :: (mge, .inl (k4 0, 288, .inl (fun i9 => iI (GE i9)))) :: (mus, .inl (k4 0, 288, .inl (fun i9 => iI (US i9)))) :: (mco, .inl (k4 0, 48, .inl (fun i9 => iI (CO i9)))) :: (mfl, .inl (k4 0, 2304, .inl (fun i9 => iI (FL i9)))) :: (mba, .inl (k4 1, 6, .inr (.inl (fun i9 => lI (BA i9))))) :: (mdu, .inl (k4 1, 6, .inr (.inl (fun i9 => lI (DU i9))))) :: (ao, .inl (k4 1, 1, .inr (.inl (fun i9 => lI (O i9))))) :: (xW k4 lo lnow lsl lcl lba ldu nsh nrk h1 r1 q1 h2 r2 q2 ta sa n p st cc bc pot gr bk nw bal due S1 S2 tx sg)) H locs → lv_has ls 9 [(0, .ref bs), (1, .ref lo), (2, .ref mo), (3, .ref ao), (4, .int (iI (((i : Nat) : Int))))] → W pp l ee room_1 ss mm #[Value.ref bs] bl me co H locs (cl9 + ((1) + (0))) (sl9 + ((6) + (0))) Q9 (F0 mm 1502 ls [])) : W pp l ee room_1 ss mm #[Value.ref bs] bl me co H locs (cl9) (sl9) Q9 (F0 mm 408 ls []) := by
  refine z_aload_n E hl 1 rfl dL_law_408 rfl ?_
  refine z_aload_n E hl 0 rfl dL_law_409 rfl ?_
  refine z_iload E hl 4 rfl dL_law_410 ?_
  refine z_iconst E dL_law_412 ?_
  refine z_iadd E dL_law_413 ?_
  refine z_sld E S9 G (i + 1) (by omega) (by omega) dL_law_414 ?_
  refine z_eq (y := a) hx1 ?_
  refine z_aload_n E hl 0 rfl dL_law_415 rfl ?_
  refine z_iload E hl 4 rfl dL_law_416 ?_
  refine z_iconst E dL_law_418 ?_
  refine z_iadd E dL_law_419 ?_
  refine z_sld E S9 G (i + 2) (by omega) (by omega) dL_law_420 ?_
  refine z_eq (y := b) hx2 ?_
  refine z_aload_n E hl 0 rfl dL_law_421 rfl ?_
  refine z_iload E hl 4 rfl dL_law_422 ?_
  refine z_iconst E dL_law_424 ?_
  refine z_iadd E dL_law_425 ?_
  refine z_sld E S9 G (i + 3) (by omega) (by omega) dL_law_426 ?_
  refine z_eq (y := d) hx3 ?_
  refine z_aload_n E hl 3 rfl dL_law_427 rfl ?_
  refine z_callL (n := 5) (pre := [(mo, .inr (5, [.int (iI (th)), .int (iI (((n : Nat) : Int))), .ref mnw, .ref mte, .ref mge, .ref mus, .int (iI (((p : Nat) : Int))), .int (iI (((st : Nat) : Int))), .int (iI (cc)), .int (iI (bc)), .ref mco, .ref mfl, .ref mba, .ref mdu, .long (lI (pot)), .long (lI (gr)), .long (lI (bk)), .int (iI (btw)), .int (iI (bhd))])), (mnw, .inl (k4 0, 19, .inl (fun i9 => iI (NW i9)))), (mte, .inl (k4 0, 912, .inl (fun i9 => iI (TE i9)))), (mge, .inl (k4 0, 288, .inl (fun i9 => iI (GE i9)))), (mus, .inl (k4 0, 288, .inl (fun i9 => iI (US i9)))), (mco, .inl (k4 0, 48, .inl (fun i9 => iI (CO i9)))), (mfl, .inl (k4 0, 2304, .inl (fun i9 => iI (FL i9)))), (mba, .inl (k4 1, 6, .inr (.inl (fun i9 => lI (BA i9))))), (mdu, .inl (k4 1, 6, .inr (.inl (fun i9 => lI (DU i9)))))]) E X G hl.1 (w_setBattery_0 l hl9 D k4 lo lnow lsl lcl lba ldu nsh nrk h1 r1 q1 h2 r2 q2 ta sa n p st cc bc pot gr bk nw bal due S1 S2 tx sg a b d ao O hX ha) zw_171 zw_172 zw_74 zw_173 (by decide +kernel) (by decide +kernel) ⟨rfl, rfl, Nat.le_of_ble_eq_true rfl, Nat.le_of_ble_eq_true rfl⟩ rfl rfl (Nat.le_of_ble_eq_true rfl) dL_law_428 ⟨by omega, by omega⟩ (fun v9 w9 H locs hq G => ?_)
  obtain ⟨rfl, rfl⟩ := hq
  refine W.eq (g2 := F0 mm 431 ls [.int (iI (1))]) rfl ?_
  have G : zG D AA ss.heap ((mo, .inr (5, [.int (iI (th)), .int (iI (((n : Nat) : Int))), .ref mnw, .ref mte, .ref mge, .ref mus, .int (iI (((p : Nat) : Int))), .int (iI (((st : Nat) : Int))), .int (iI (cc)), .int (iI (bc)), .ref mco, .ref mfl, .ref mba, .ref mdu, .long (lI (pot)), .long (lI (gr)), .long (lI (bk)), .int (iI (btw)), .int (iI (bhd))])) :: (mnw, .inl (k4 0, 19, .inl (fun i9 => iI (NW i9)))) :: (mte, .inl (k4 0, 912, .inl (fun i9 => iI (TE i9)))) :: (mge, .inl (k4 0, 288, .inl (fun i9 => iI (GE i9)))) :: (mus, .inl (k4 0, 288, .inl (fun i9 => iI (US i9)))) :: (mco, .inl (k4 0, 48, .inl (fun i9 => iI (CO i9)))) :: (mfl, .inl (k4 0, 2304, .inl (fun i9 => iI (FL i9)))) :: (mba, .inl (k4 1, 6, .inr (.inl (fun i9 => lI (BA i9))))) :: (mdu, .inl (k4 1, 6, .inr (.inl (fun i9 => lI (DU i9))))) :: (ao, .inl (k4 1, 1, .inr (.inl (fun i9 => lI (O i9))))) :: (xW k4 lo lnow lsl lcl lba ldu nsh nrk h1 r1 q1 h2 r2 q2 ta sa n p st cc bc pot gr bk nw bal due S1 S2 tx sg)) H locs := G
  refine z_istore E [(5, .int (iI (1))), (0, .ref bs), (1, .ref lo), (2, .ref mo), (3, .ref ao), (4, .int (iI (((i : Nat) : Int))))] dL_law_431 hl (by decide) rfl (fun ls hl => ?_)
  refine z_aload_n E hl 3 rfl dL_law_433 rfl ?_
  refine z_aload_n E hl 1 rfl dL_law_434 rfl ?_
  refine z_iload E hl 5 rfl dL_law_435 ?_
  refine z_iconst E dL_law_437 ?_
  refine z_iadd E dL_law_438 ?_
  refine z_sld E S9 G (i + 1) (by omega) (by omega) dL_law_439 ?_
  refine z_eq (y := a) hx1 ?_
  refine z_aload_n E hl 1 rfl dL_law_440 rfl ?_
  refine z_iload E hl 5 rfl dL_law_441 ?_
  refine z_iconst E dL_law_443 ?_
  refine z_iadd E dL_law_444 ?_
  refine z_sld E S9 G (i + 2) (by omega) (by omega) dL_law_445 ?_
  refine z_eq (y := b) hx2 ?_
  refine z_aload_n E hl 1 rfl dL_law_446 rfl ?_
  refine z_iload E hl 5 rfl dL_law_447 ?_
  refine z_iconst E dL_law_449 ?_
  refine z_iadd E dL_law_450 ?_
  refine z_sld E S9 G (i + 3) (by omega) (by omega) dL_law_451 ?_
  refine z_eq (y := d) hx3 ?_
  refine z_callV E G hl.1 (c_X5_setBattery_0 l D k4 mo mnw mte mge mus mco mfl mba mdu th n p st cc bc pot gr bk btw bhd a b d (by omega) (by omega)) kV_L_105 ⟨rfl, rfl, Nat.le_of_ble_eq_true rfl, Nat.le_of_ble_eq_true rfl⟩ [0] rfl (by decide) 0 5 rfl rfl rfl rfl rfl (Nat.le_of_ble_eq_true rfl) dL_law_452 ⟨by omega, by omega⟩ (fun v9 w9 H locs hq G => ?_)
  obtain ⟨rfl, rfl⟩ := hq
  refine W.eq (g2 := F0 mm 455 ls [.int (iI (0))]) rfl ?_
  have G : zG D AA ss.heap ((mo, .inr (5, [.int (iI (1)), .int (iI (((n : Nat) : Int))), .ref mnw, .ref mte, .ref mge, .ref mus, .int (iI (((p : Nat) : Int))), .int (iI (((st : Nat) : Int))), .int (iI (cc)), .int (iI (bc)), .ref mco, .ref mfl, .ref mba, .ref mdu, .long (lI (pot)), .long (lI (gr)), .long (lI (bk)), .int (iI (btw)), .int (iI (bhd))])) :: (mnw, .inl (k4 0, 19, .inl (fun i9 => iI (NW i9)))) :: (mte, .inl (k4 0, 912, .inl (fun i9 => iI (TE i9)))) :: (mge, .inl (k4 0, 288, .inl (fun i9 => iI (GE i9)))) :: (mus, .inl (k4 0, 288, .inl (fun i9 => iI (US i9)))) :: (mco, .inl (k4 0, 48, .inl (fun i9 => iI (CO i9)))) :: (mfl, .inl (k4 0, 2304, .inl (fun i9 => iI (FL i9)))) :: (mba, .inl (k4 1, 6, .inr (.inl (fun i9 => lI (BA i9))))) :: (mdu, .inl (k4 1, 6, .inr (.inl (fun i9 => lI (DU i9))))) :: (ao, .inl (k4 1, 1, .inr (.inl (fun i9 => lI (O i9))))) :: (xW k4 lo lnow lsl lcl lba ldu nsh nrk h1 r1 q1 h2 r2 q2 ta sa n p st cc bc pot gr bk nw bal due S1 S2 tx sg)) H locs := G
  refine z_istore E [(6, .int (iI (0))), (5, .int (iI (1))), (0, .ref bs), (1, .ref lo), (2, .ref mo), (3, .ref ao), (4, .int (iI (((i : Nat) : Int))))] dL_law_455 hl (by decide) rfl (fun ls hl => ?_)
  refine z_aload_n E hl 4 rfl dL_law_457 rfl ?_
  refine z_callV E G hl.1 (c_X5_thrown l D k4 mo mnw mte mge mus mco mfl mba mdu 1 n p st cc bc pot gr bk btw bhd ) kV_L_89 ⟨rfl, rfl, Nat.le_of_ble_eq_true rfl, Nat.le_of_ble_eq_true rfl⟩ [0] rfl (by decide) 0 5 rfl rfl rfl rfl rfl (Nat.le_of_ble_eq_true rfl) dL_law_458 ⟨by omega, by omega⟩ (fun v9 w9 H locs hq G => ?_)
  obtain ⟨rfl, rfl⟩ := hq
  refine W.eq (g2 := F0 mm 461 ls [.int (iI (1))]) rfl ?_
  have G : zG D AA ss.heap ((mo, .inr (5, [.int (iI (1)), .int (iI (((n : Nat) : Int))), .ref mnw, .ref mte, .ref mge, .ref mus, .int (iI (((p : Nat) : Int))), .int (iI (((st : Nat) : Int))), .int (iI (cc)), .int (iI (bc)), .ref mco, .ref mfl, .ref mba, .ref mdu, .long (lI (pot)), .long (lI (gr)), .long (lI (bk)), .int (iI (btw)), .int (iI (bhd))])) :: (mnw, .inl (k4 0, 19, .inl (fun i9 => iI (NW i9)))) :: (mte, .inl (k4 0, 912, .inl (fun i9 => iI (TE i9)))) :: (mge, .inl (k4 0, 288, .inl (fun i9 => iI (GE i9)))) :: (mus, .inl (k4 0, 288, .inl (fun i9 => iI (US i9)))) :: (mco, .inl (k4 0, 48, .inl (fun i9 => iI (CO i9)))) :: (mfl, .inl (k4 0, 2304, .inl (fun i9 => iI (FL i9)))) :: (mba, .inl (k4 1, 6, .inr (.inl (fun i9 => lI (BA i9))))) :: (mdu, .inl (k4 1, 6, .inr (.inl (fun i9 => lI (DU i9))))) :: (ao, .inl (k4 1, 1, .inr (.inl (fun i9 => lI (O i9))))) :: (xW k4 lo lnow lsl lcl lba ldu nsh nrk h1 r1 q1 h2 r2 q2 ta sa n p st cc bc pot gr bk nw bal due S1 S2 tx sg)) H locs := G
  refine z_iload E hl 1 rfl dL_law_461 ?_
  refine z_icmp_eq (tgt := 468) E dL_law_463 (by decide) (by decide) (by decide) (fun c_463 => ?_) (fun c_463 => absurd c_463 (by decide))
  refine z_iload E hl 1 rfl dL_law_468 ?_
  refine z_if_ne (tgt := 485) E dL_law_470 (by decide) (by decide) (fun c_470 => ?_) (fun c_470 => absurd c_470 (by decide))
  refine z_goto (tgt := 1502) E dL_law_485 (by decide) ?_
  refine W.cs (cells' := cl9 + ((1) + (0))) (slots' := sl9 + ((6) + (0))) (by omega) (by omega) ?_
  exact kk _ _ _ G (lv_sub hl [2, 3, 4, 5, 6] rfl)

set_option maxHeartbeats 4000000 in
set_option maxRecDepth 100000 in
theorem s_setBattery_1 {pp : Program} {l : Launch} {ee : Env} {ss : State} {mm : MethodId} {bl : List Frame} {me : Method} {co : Code} {AA : Nat → Prop} {H : Heap} {locs : List Loc} {ls : Array Slot} {Q9 : State → Prop} {D : va_G} {k4 : Nat → ClassId} {bs Ls : Nat} {xs : Nat → Int32} {cl9 sl9 : Nat} (hl9 : l.stackTraces = false) (E : zE pp mm co cL_law 9 ss #[Value.ref bs] RL D k4) (X : zEL ss AA) (S9 : zSc bs Ls xs ss AA) (i : Nat) (hi5 : i + 4 < Ls) (lo lnow lsl lcl lba ldu nsh nrk h1 r1 q1 h2 r2 q2 : Nat) (ta : Nat → Nat) (sa : Nat → Nat → Nat) (n p st : Nat) (cc bc pot gr bk : Int) (nw bal due : Nat → Int) (S1 S2 : sS) (tx : Nat → Nat → Int) (sg : Nat → Nat → Nat → Int) (a : Int) (b : Int) (d : Int) (mo mnw mte mge mus mco mfl mba mdu : Nat) (th btw bhd : Int) (NW TE GE US CO FL BA DU : Nat → Int) (ao : Nat) (O : Nat → Int) (hX : xOK n p st bc nw S1 S2 tx sg) (ha : 0 ≤ a ∧ a ≤ 20000) (hb : -2147483648 ≤ b ∧ b ≤ 2147483647 ∧ (b < 0 ∨ 5000 < b)) (hn9 : n ≤ 6) (hp9 : p ≤ 48) (hs9 : st ≤ 48) (hcc : rng cc) (hb9 : 0 ≤ bc ∧ bc ≤ 20000) (hx1 : (xs (i + 1)).toInt = a) (hx2 : (xs (i + 2)).toInt = b) (hx3 : (xs (i + 3)).toInt = d) (hc9 : cl9 + ((1) + (0)) ≤ room_1.cells) (hs99 : sl9 + ((6) + (0)) ≤ room_1.slots) (G : zG D AA ss.heap ((mo, .inr (5, [.int (iI (th)), .int (iI (((n : Nat) : Int))), .ref mnw, .ref mte, .ref mge, .ref mus, .int (iI (((p : Nat) : Int))), .int (iI (((st : Nat) : Int))), .int (iI (cc)), .int (iI (bc)), .ref mco, .ref mfl, .ref mba, .ref mdu, .long (lI (pot)), .long (lI (gr)), .long (lI (bk)), .int (iI (btw)), .int (iI (bhd))])) :: (mnw, .inl (k4 0, 19, .inl (fun i9 => iI (NW i9)))) :: (mte, .inl (k4 0, 912, .inl (fun i9 => iI (TE i9)))) :: (mge, .inl (k4 0, 288, .inl (fun i9 => iI (GE i9)))) :: (mus, .inl (k4 0, 288, .inl (fun i9 => iI (US i9)))) :: (mco, .inl (k4 0, 48, .inl (fun i9 => iI (CO i9)))) :: (mfl, .inl (k4 0, 2304, .inl (fun i9 => iI (FL i9)))) :: (mba, .inl (k4 1, 6, .inr (.inl (fun i9 => lI (BA i9))))) :: (mdu, .inl (k4 1, 6, .inr (.inl (fun i9 => lI (DU i9))))) :: (ao, .inl (k4 1, 1, .inr (.inl (fun i9 => lI (O i9))))) :: (xW k4 lo lnow lsl lcl lba ldu nsh nrk h1 r1 q1 h2 r2 q2 ta sa n p st cc bc pot gr bk nw bal due S1 S2 tx sg)) H locs) (hl : lv_has ls 9 [(0, .ref bs), (1, .ref lo), (2, .ref mo), (3, .ref ao), (4, .int (iI (((i : Nat) : Int))))]) (kk : ∀ (H : Heap) (locs : List Loc) (ls : Array Slot), zG D AA ss.heap ((mo, .inr (5, [.int (iI (1)), .int (iI (((n : Nat) : Int))), .ref mnw, .ref mte, .ref mge, .ref mus, .int (iI (((p : Nat) : Int))), .int (iI (((st : Nat) : Int))), .int (iI (cc)), .int (iI (bc)), .ref mco, .ref mfl, .ref mba, .ref mdu, .long (lI (pot)), .long (lI (gr)), .long (lI (bk)), .int (iI (btw)), .int (iI (bhd))])) :: (mnw, .inl (k4 0, 19, .inl (fun i9 => iI (NW i9)))) :: (mte, .inl (k4 0, 912, .inl (fun i9 => iI (TE i9)))) :: (mge, .inl (k4 0, 288, .inl (fun i9 => iI (GE i9)))) :: (mus, .inl (k4 0, 288, .inl (fun i9 => iI (US i9)))) :: (mco, .inl (k4 0, 48, .inl (fun i9 => iI (CO i9)))) :: (mfl, .inl (k4 0, 2304, .inl (fun i9 => iI (FL i9)))) :: (mba, .inl (k4 1, 6, .inr (.inl (fun i9 => lI (BA i9))))) :: (mdu, .inl (k4 1, 6, .inr (.inl (fun i9 => lI (DU i9))))) :: (ao, .inl (k4 1, 1, .inr (.inl (fun i9 => lI (O i9))))) :: (xW k4 lo lnow lsl lcl lba ldu nsh nrk h1 r1 q1 h2 r2 q2 ta sa n p st cc bc pot gr bk nw bal due S1 S2 tx sg)) H locs → lv_has ls 9 [(0, .ref bs), (1, .ref lo), (2, .ref mo), (3, .ref ao), (4, .int (iI (((i : Nat) : Int))))] → W pp l ee room_1 ss mm #[Value.ref bs] bl me co H locs (cl9 + ((1) + (0))) (sl9 + ((6) + (0))) Q9 (F0 mm 1502 ls [])) : W pp l ee room_1 ss mm #[Value.ref bs] bl me co H locs (cl9) (sl9) Q9 (F0 mm 408 ls []) := by
  refine z_aload_n E hl 1 rfl dL_law_408 rfl ?_
  refine z_aload_n E hl 0 rfl dL_law_409 rfl ?_
  refine z_iload E hl 4 rfl dL_law_410 ?_
  refine z_iconst E dL_law_412 ?_
  refine z_iadd E dL_law_413 ?_
  refine z_sld E S9 G (i + 1) (by omega) (by omega) dL_law_414 ?_
  refine z_eq (y := a) hx1 ?_
  refine z_aload_n E hl 0 rfl dL_law_415 rfl ?_
  refine z_iload E hl 4 rfl dL_law_416 ?_
  refine z_iconst E dL_law_418 ?_
  refine z_iadd E dL_law_419 ?_
  refine z_sld E S9 G (i + 2) (by omega) (by omega) dL_law_420 ?_
  refine z_eq (y := b) hx2 ?_
  refine z_aload_n E hl 0 rfl dL_law_421 rfl ?_
  refine z_iload E hl 4 rfl dL_law_422 ?_
  refine z_iconst E dL_law_424 ?_
  refine z_iadd E dL_law_425 ?_
  refine z_sld E S9 G (i + 3) (by omega) (by omega) dL_law_426 ?_
  refine z_eq (y := d) hx3 ?_
  refine z_aload_n E hl 3 rfl dL_law_427 rfl ?_
  refine z_callL (n := 5) (pre := [(mo, .inr (5, [.int (iI (th)), .int (iI (((n : Nat) : Int))), .ref mnw, .ref mte, .ref mge, .ref mus, .int (iI (((p : Nat) : Int))), .int (iI (((st : Nat) : Int))), .int (iI (cc)), .int (iI (bc)), .ref mco, .ref mfl, .ref mba, .ref mdu, .long (lI (pot)), .long (lI (gr)), .long (lI (bk)), .int (iI (btw)), .int (iI (bhd))])), (mnw, .inl (k4 0, 19, .inl (fun i9 => iI (NW i9)))), (mte, .inl (k4 0, 912, .inl (fun i9 => iI (TE i9)))), (mge, .inl (k4 0, 288, .inl (fun i9 => iI (GE i9)))), (mus, .inl (k4 0, 288, .inl (fun i9 => iI (US i9)))), (mco, .inl (k4 0, 48, .inl (fun i9 => iI (CO i9)))), (mfl, .inl (k4 0, 2304, .inl (fun i9 => iI (FL i9)))), (mba, .inl (k4 1, 6, .inr (.inl (fun i9 => lI (BA i9))))), (mdu, .inl (k4 1, 6, .inr (.inl (fun i9 => lI (DU i9)))))]) E X G hl.1 (w_setBattery_1 l hl9 D k4 lo lnow lsl lcl lba ldu nsh nrk h1 r1 q1 h2 r2 q2 ta sa n p st cc bc pot gr bk nw bal due S1 S2 tx sg a b d ao O hX ha hb) zw_171 zw_172 zw_74 zw_173 (by decide +kernel) (by decide +kernel) ⟨rfl, rfl, Nat.le_of_ble_eq_true rfl, Nat.le_of_ble_eq_true rfl⟩ rfl rfl (Nat.le_of_ble_eq_true rfl) dL_law_428 ⟨by omega, by omega⟩ (fun v9 w9 H locs hq G => ?_)
  obtain ⟨rfl, rfl⟩ := hq
  refine W.eq (g2 := F0 mm 431 ls [.int (iI (1))]) rfl ?_
  have G : zG D AA ss.heap ((mo, .inr (5, [.int (iI (th)), .int (iI (((n : Nat) : Int))), .ref mnw, .ref mte, .ref mge, .ref mus, .int (iI (((p : Nat) : Int))), .int (iI (((st : Nat) : Int))), .int (iI (cc)), .int (iI (bc)), .ref mco, .ref mfl, .ref mba, .ref mdu, .long (lI (pot)), .long (lI (gr)), .long (lI (bk)), .int (iI (btw)), .int (iI (bhd))])) :: (mnw, .inl (k4 0, 19, .inl (fun i9 => iI (NW i9)))) :: (mte, .inl (k4 0, 912, .inl (fun i9 => iI (TE i9)))) :: (mge, .inl (k4 0, 288, .inl (fun i9 => iI (GE i9)))) :: (mus, .inl (k4 0, 288, .inl (fun i9 => iI (US i9)))) :: (mco, .inl (k4 0, 48, .inl (fun i9 => iI (CO i9)))) :: (mfl, .inl (k4 0, 2304, .inl (fun i9 => iI (FL i9)))) :: (mba, .inl (k4 1, 6, .inr (.inl (fun i9 => lI (BA i9))))) :: (mdu, .inl (k4 1, 6, .inr (.inl (fun i9 => lI (DU i9))))) :: (ao, .inl (k4 1, 1, .inr (.inl (fun i9 => lI (O i9))))) :: (xW k4 lo lnow lsl lcl lba ldu nsh nrk h1 r1 q1 h2 r2 q2 ta sa n p st cc bc pot gr bk nw bal due S1 S2 tx sg)) H locs := G
  refine z_istore E [(5, .int (iI (1))), (0, .ref bs), (1, .ref lo), (2, .ref mo), (3, .ref ao), (4, .int (iI (((i : Nat) : Int))))] dL_law_431 hl (by decide) rfl (fun ls hl => ?_)
  refine z_aload_n E hl 3 rfl dL_law_433 rfl ?_
  refine z_aload_n E hl 1 rfl dL_law_434 rfl ?_
  refine z_iload E hl 5 rfl dL_law_435 ?_
  refine z_iconst E dL_law_437 ?_
  refine z_iadd E dL_law_438 ?_
  refine z_sld E S9 G (i + 1) (by omega) (by omega) dL_law_439 ?_
  refine z_eq (y := a) hx1 ?_
  refine z_aload_n E hl 1 rfl dL_law_440 rfl ?_
  refine z_iload E hl 5 rfl dL_law_441 ?_
  refine z_iconst E dL_law_443 ?_
  refine z_iadd E dL_law_444 ?_
  refine z_sld E S9 G (i + 2) (by omega) (by omega) dL_law_445 ?_
  refine z_eq (y := b) hx2 ?_
  refine z_aload_n E hl 1 rfl dL_law_446 rfl ?_
  refine z_iload E hl 5 rfl dL_law_447 ?_
  refine z_iconst E dL_law_449 ?_
  refine z_iadd E dL_law_450 ?_
  refine z_sld E S9 G (i + 3) (by omega) (by omega) dL_law_451 ?_
  refine z_eq (y := d) hx3 ?_
  refine z_callV E G hl.1 (c_X5_setBattery_1 l D k4 mo mnw mte mge mus mco mfl mba mdu th n p st cc bc pot gr bk btw bhd a b d (by omega) (by omega) (by omega)) kV_L_105 ⟨rfl, rfl, Nat.le_of_ble_eq_true rfl, Nat.le_of_ble_eq_true rfl⟩ [0] rfl (by decide) 0 5 rfl rfl rfl rfl rfl (Nat.le_of_ble_eq_true rfl) dL_law_452 ⟨by omega, by omega⟩ (fun v9 w9 H locs hq G => ?_)
  obtain ⟨rfl, rfl⟩ := hq
  refine W.eq (g2 := F0 mm 455 ls [.int (iI (0))]) rfl ?_
  have G : zG D AA ss.heap ((mo, .inr (5, [.int (iI (1)), .int (iI (((n : Nat) : Int))), .ref mnw, .ref mte, .ref mge, .ref mus, .int (iI (((p : Nat) : Int))), .int (iI (((st : Nat) : Int))), .int (iI (cc)), .int (iI (bc)), .ref mco, .ref mfl, .ref mba, .ref mdu, .long (lI (pot)), .long (lI (gr)), .long (lI (bk)), .int (iI (btw)), .int (iI (bhd))])) :: (mnw, .inl (k4 0, 19, .inl (fun i9 => iI (NW i9)))) :: (mte, .inl (k4 0, 912, .inl (fun i9 => iI (TE i9)))) :: (mge, .inl (k4 0, 288, .inl (fun i9 => iI (GE i9)))) :: (mus, .inl (k4 0, 288, .inl (fun i9 => iI (US i9)))) :: (mco, .inl (k4 0, 48, .inl (fun i9 => iI (CO i9)))) :: (mfl, .inl (k4 0, 2304, .inl (fun i9 => iI (FL i9)))) :: (mba, .inl (k4 1, 6, .inr (.inl (fun i9 => lI (BA i9))))) :: (mdu, .inl (k4 1, 6, .inr (.inl (fun i9 => lI (DU i9))))) :: (ao, .inl (k4 1, 1, .inr (.inl (fun i9 => lI (O i9))))) :: (xW k4 lo lnow lsl lcl lba ldu nsh nrk h1 r1 q1 h2 r2 q2 ta sa n p st cc bc pot gr bk nw bal due S1 S2 tx sg)) H locs := G
  refine z_istore E [(6, .int (iI (0))), (5, .int (iI (1))), (0, .ref bs), (1, .ref lo), (2, .ref mo), (3, .ref ao), (4, .int (iI (((i : Nat) : Int))))] dL_law_455 hl (by decide) rfl (fun ls hl => ?_)
  refine z_aload_n E hl 4 rfl dL_law_457 rfl ?_
  refine z_callV E G hl.1 (c_X5_thrown l D k4 mo mnw mte mge mus mco mfl mba mdu 1 n p st cc bc pot gr bk btw bhd ) kV_L_89 ⟨rfl, rfl, Nat.le_of_ble_eq_true rfl, Nat.le_of_ble_eq_true rfl⟩ [0] rfl (by decide) 0 5 rfl rfl rfl rfl rfl (Nat.le_of_ble_eq_true rfl) dL_law_458 ⟨by omega, by omega⟩ (fun v9 w9 H locs hq G => ?_)
  obtain ⟨rfl, rfl⟩ := hq
  refine W.eq (g2 := F0 mm 461 ls [.int (iI (1))]) rfl ?_
  have G : zG D AA ss.heap ((mo, .inr (5, [.int (iI (1)), .int (iI (((n : Nat) : Int))), .ref mnw, .ref mte, .ref mge, .ref mus, .int (iI (((p : Nat) : Int))), .int (iI (((st : Nat) : Int))), .int (iI (cc)), .int (iI (bc)), .ref mco, .ref mfl, .ref mba, .ref mdu, .long (lI (pot)), .long (lI (gr)), .long (lI (bk)), .int (iI (btw)), .int (iI (bhd))])) :: (mnw, .inl (k4 0, 19, .inl (fun i9 => iI (NW i9)))) :: (mte, .inl (k4 0, 912, .inl (fun i9 => iI (TE i9)))) :: (mge, .inl (k4 0, 288, .inl (fun i9 => iI (GE i9)))) :: (mus, .inl (k4 0, 288, .inl (fun i9 => iI (US i9)))) :: (mco, .inl (k4 0, 48, .inl (fun i9 => iI (CO i9)))) :: (mfl, .inl (k4 0, 2304, .inl (fun i9 => iI (FL i9)))) :: (mba, .inl (k4 1, 6, .inr (.inl (fun i9 => lI (BA i9))))) :: (mdu, .inl (k4 1, 6, .inr (.inl (fun i9 => lI (DU i9))))) :: (ao, .inl (k4 1, 1, .inr (.inl (fun i9 => lI (O i9))))) :: (xW k4 lo lnow lsl lcl lba ldu nsh nrk h1 r1 q1 h2 r2 q2 ta sa n p st cc bc pot gr bk nw bal due S1 S2 tx sg)) H locs := G
  refine z_iload E hl 1 rfl dL_law_461 ?_
  refine z_icmp_eq (tgt := 468) E dL_law_463 (by decide) (by decide) (by decide) (fun c_463 => ?_) (fun c_463 => absurd c_463 (by decide))
  refine z_iload E hl 1 rfl dL_law_468 ?_
  refine z_if_ne (tgt := 485) E dL_law_470 (by decide) (by decide) (fun c_470 => ?_) (fun c_470 => absurd c_470 (by decide))
  refine z_goto (tgt := 1502) E dL_law_485 (by decide) ?_
  refine W.cs (cells' := cl9 + ((1) + (0))) (slots' := sl9 + ((6) + (0))) (by omega) (by omega) ?_
  exact kk _ _ _ G (lv_sub hl [2, 3, 4, 5, 6] rfl)

set_option maxHeartbeats 4000000 in
set_option maxRecDepth 100000 in
theorem s_setBattery_2 {pp : Program} {l : Launch} {ee : Env} {ss : State} {mm : MethodId} {bl : List Frame} {me : Method} {co : Code} {AA : Nat → Prop} {H : Heap} {locs : List Loc} {ls : Array Slot} {Q9 : State → Prop} {D : va_G} {k4 : Nat → ClassId} {bs Ls : Nat} {xs : Nat → Int32} {cl9 sl9 : Nat} (hl9 : l.stackTraces = false) (E : zE pp mm co cL_law 9 ss #[Value.ref bs] RL D k4) (X : zEL ss AA) (S9 : zSc bs Ls xs ss AA) (i : Nat) (hi5 : i + 4 < Ls) (lo lnow lsl lcl lba ldu nsh nrk h1 r1 q1 h2 r2 q2 : Nat) (ta : Nat → Nat) (sa : Nat → Nat → Nat) (n p st : Nat) (cc bc pot gr bk : Int) (nw bal due : Nat → Int) (S1 S2 : sS) (tx : Nat → Nat → Int) (sg : Nat → Nat → Nat → Int) (a : Int) (b : Int) (d : Int) (mo mnw mte mge mus mco mfl mba mdu : Nat) (th btw bhd : Int) (NW TE GE US CO FL BA DU : Nat → Int) (ao : Nat) (O : Nat → Int) (hX : xOK n p st bc nw S1 S2 tx sg) (ha : 0 ≤ a ∧ a ≤ 20000) (hb : 0 ≤ b ∧ b ≤ 5000) (hd : -2147483648 ≤ d ∧ d ≤ 2147483647 ∧ (d < 1 ∨ 100 < d)) (hn9 : n ≤ 6) (hp9 : p ≤ 48) (hs9 : st ≤ 48) (hcc : rng cc) (hb9 : 0 ≤ bc ∧ bc ≤ 20000) (hx1 : (xs (i + 1)).toInt = a) (hx2 : (xs (i + 2)).toInt = b) (hx3 : (xs (i + 3)).toInt = d) (hc9 : cl9 + ((1) + (0)) ≤ room_1.cells) (hs99 : sl9 + ((6) + (0)) ≤ room_1.slots) (G : zG D AA ss.heap ((mo, .inr (5, [.int (iI (th)), .int (iI (((n : Nat) : Int))), .ref mnw, .ref mte, .ref mge, .ref mus, .int (iI (((p : Nat) : Int))), .int (iI (((st : Nat) : Int))), .int (iI (cc)), .int (iI (bc)), .ref mco, .ref mfl, .ref mba, .ref mdu, .long (lI (pot)), .long (lI (gr)), .long (lI (bk)), .int (iI (btw)), .int (iI (bhd))])) :: (mnw, .inl (k4 0, 19, .inl (fun i9 => iI (NW i9)))) :: (mte, .inl (k4 0, 912, .inl (fun i9 => iI (TE i9)))) :: (mge, .inl (k4 0, 288, .inl (fun i9 => iI (GE i9)))) :: (mus, .inl (k4 0, 288, .inl (fun i9 => iI (US i9)))) :: (mco, .inl (k4 0, 48, .inl (fun i9 => iI (CO i9)))) :: (mfl, .inl (k4 0, 2304, .inl (fun i9 => iI (FL i9)))) :: (mba, .inl (k4 1, 6, .inr (.inl (fun i9 => lI (BA i9))))) :: (mdu, .inl (k4 1, 6, .inr (.inl (fun i9 => lI (DU i9))))) :: (ao, .inl (k4 1, 1, .inr (.inl (fun i9 => lI (O i9))))) :: (xW k4 lo lnow lsl lcl lba ldu nsh nrk h1 r1 q1 h2 r2 q2 ta sa n p st cc bc pot gr bk nw bal due S1 S2 tx sg)) H locs) (hl : lv_has ls 9 [(0, .ref bs), (1, .ref lo), (2, .ref mo), (3, .ref ao), (4, .int (iI (((i : Nat) : Int))))]) (kk : ∀ (H : Heap) (locs : List Loc) (ls : Array Slot), zG D AA ss.heap ((mo, .inr (5, [.int (iI (1)), .int (iI (((n : Nat) : Int))), .ref mnw, .ref mte, .ref mge, .ref mus, .int (iI (((p : Nat) : Int))), .int (iI (((st : Nat) : Int))), .int (iI (cc)), .int (iI (bc)), .ref mco, .ref mfl, .ref mba, .ref mdu, .long (lI (pot)), .long (lI (gr)), .long (lI (bk)), .int (iI (btw)), .int (iI (bhd))])) :: (mnw, .inl (k4 0, 19, .inl (fun i9 => iI (NW i9)))) :: (mte, .inl (k4 0, 912, .inl (fun i9 => iI (TE i9)))) :: (mge, .inl (k4 0, 288, .inl (fun i9 => iI (GE i9)))) :: (mus, .inl (k4 0, 288, .inl (fun i9 => iI (US i9)))) :: (mco, .inl (k4 0, 48, .inl (fun i9 => iI (CO i9)))) :: (mfl, .inl (k4 0, 2304, .inl (fun i9 => iI (FL i9)))) :: (mba, .inl (k4 1, 6, .inr (.inl (fun i9 => lI (BA i9))))) :: (mdu, .inl (k4 1, 6, .inr (.inl (fun i9 => lI (DU i9))))) :: (ao, .inl (k4 1, 1, .inr (.inl (fun i9 => lI (O i9))))) :: (xW k4 lo lnow lsl lcl lba ldu nsh nrk h1 r1 q1 h2 r2 q2 ta sa n p st cc bc pot gr bk nw bal due S1 S2 tx sg)) H locs → lv_has ls 9 [(0, .ref bs), (1, .ref lo), (2, .ref mo), (3, .ref ao), (4, .int (iI (((i : Nat) : Int))))] → W pp l ee room_1 ss mm #[Value.ref bs] bl me co H locs (cl9 + ((1) + (0))) (sl9 + ((6) + (0))) Q9 (F0 mm 1502 ls [])) : W pp l ee room_1 ss mm #[Value.ref bs] bl me co H locs (cl9) (sl9) Q9 (F0 mm 408 ls []) := by
  refine z_aload_n E hl 1 rfl dL_law_408 rfl ?_
  refine z_aload_n E hl 0 rfl dL_law_409 rfl ?_
  refine z_iload E hl 4 rfl dL_law_410 ?_
  refine z_iconst E dL_law_412 ?_
  refine z_iadd E dL_law_413 ?_
  refine z_sld E S9 G (i + 1) (by omega) (by omega) dL_law_414 ?_
  refine z_eq (y := a) hx1 ?_
  refine z_aload_n E hl 0 rfl dL_law_415 rfl ?_
  refine z_iload E hl 4 rfl dL_law_416 ?_
  refine z_iconst E dL_law_418 ?_
  refine z_iadd E dL_law_419 ?_
  refine z_sld E S9 G (i + 2) (by omega) (by omega) dL_law_420 ?_
  refine z_eq (y := b) hx2 ?_
  refine z_aload_n E hl 0 rfl dL_law_421 rfl ?_
  refine z_iload E hl 4 rfl dL_law_422 ?_
  refine z_iconst E dL_law_424 ?_
  refine z_iadd E dL_law_425 ?_
  refine z_sld E S9 G (i + 3) (by omega) (by omega) dL_law_426 ?_
  refine z_eq (y := d) hx3 ?_
  refine z_aload_n E hl 3 rfl dL_law_427 rfl ?_
  refine z_callL (n := 5) (pre := [(mo, .inr (5, [.int (iI (th)), .int (iI (((n : Nat) : Int))), .ref mnw, .ref mte, .ref mge, .ref mus, .int (iI (((p : Nat) : Int))), .int (iI (((st : Nat) : Int))), .int (iI (cc)), .int (iI (bc)), .ref mco, .ref mfl, .ref mba, .ref mdu, .long (lI (pot)), .long (lI (gr)), .long (lI (bk)), .int (iI (btw)), .int (iI (bhd))])), (mnw, .inl (k4 0, 19, .inl (fun i9 => iI (NW i9)))), (mte, .inl (k4 0, 912, .inl (fun i9 => iI (TE i9)))), (mge, .inl (k4 0, 288, .inl (fun i9 => iI (GE i9)))), (mus, .inl (k4 0, 288, .inl (fun i9 => iI (US i9)))), (mco, .inl (k4 0, 48, .inl (fun i9 => iI (CO i9)))), (mfl, .inl (k4 0, 2304, .inl (fun i9 => iI (FL i9)))), (mba, .inl (k4 1, 6, .inr (.inl (fun i9 => lI (BA i9))))), (mdu, .inl (k4 1, 6, .inr (.inl (fun i9 => lI (DU i9)))))]) E X G hl.1 (w_setBattery_2 l hl9 D k4 lo lnow lsl lcl lba ldu nsh nrk h1 r1 q1 h2 r2 q2 ta sa n p st cc bc pot gr bk nw bal due S1 S2 tx sg a b d ao O hX ha hb hd) zw_171 zw_172 zw_74 zw_173 (by decide +kernel) (by decide +kernel) ⟨rfl, rfl, Nat.le_of_ble_eq_true rfl, Nat.le_of_ble_eq_true rfl⟩ rfl rfl (Nat.le_of_ble_eq_true rfl) dL_law_428 ⟨by omega, by omega⟩ (fun v9 w9 H locs hq G => ?_)
  obtain ⟨rfl, rfl⟩ := hq
  refine W.eq (g2 := F0 mm 431 ls [.int (iI (1))]) rfl ?_
  have G : zG D AA ss.heap ((mo, .inr (5, [.int (iI (th)), .int (iI (((n : Nat) : Int))), .ref mnw, .ref mte, .ref mge, .ref mus, .int (iI (((p : Nat) : Int))), .int (iI (((st : Nat) : Int))), .int (iI (cc)), .int (iI (bc)), .ref mco, .ref mfl, .ref mba, .ref mdu, .long (lI (pot)), .long (lI (gr)), .long (lI (bk)), .int (iI (btw)), .int (iI (bhd))])) :: (mnw, .inl (k4 0, 19, .inl (fun i9 => iI (NW i9)))) :: (mte, .inl (k4 0, 912, .inl (fun i9 => iI (TE i9)))) :: (mge, .inl (k4 0, 288, .inl (fun i9 => iI (GE i9)))) :: (mus, .inl (k4 0, 288, .inl (fun i9 => iI (US i9)))) :: (mco, .inl (k4 0, 48, .inl (fun i9 => iI (CO i9)))) :: (mfl, .inl (k4 0, 2304, .inl (fun i9 => iI (FL i9)))) :: (mba, .inl (k4 1, 6, .inr (.inl (fun i9 => lI (BA i9))))) :: (mdu, .inl (k4 1, 6, .inr (.inl (fun i9 => lI (DU i9))))) :: (ao, .inl (k4 1, 1, .inr (.inl (fun i9 => lI (O i9))))) :: (xW k4 lo lnow lsl lcl lba ldu nsh nrk h1 r1 q1 h2 r2 q2 ta sa n p st cc bc pot gr bk nw bal due S1 S2 tx sg)) H locs := G
  refine z_istore E [(5, .int (iI (1))), (0, .ref bs), (1, .ref lo), (2, .ref mo), (3, .ref ao), (4, .int (iI (((i : Nat) : Int))))] dL_law_431 hl (by decide) rfl (fun ls hl => ?_)
  refine z_aload_n E hl 3 rfl dL_law_433 rfl ?_
  refine z_aload_n E hl 1 rfl dL_law_434 rfl ?_
  refine z_iload E hl 5 rfl dL_law_435 ?_
  refine z_iconst E dL_law_437 ?_
  refine z_iadd E dL_law_438 ?_
  refine z_sld E S9 G (i + 1) (by omega) (by omega) dL_law_439 ?_
  refine z_eq (y := a) hx1 ?_
  refine z_aload_n E hl 1 rfl dL_law_440 rfl ?_
  refine z_iload E hl 5 rfl dL_law_441 ?_
  refine z_iconst E dL_law_443 ?_
  refine z_iadd E dL_law_444 ?_
  refine z_sld E S9 G (i + 2) (by omega) (by omega) dL_law_445 ?_
  refine z_eq (y := b) hx2 ?_
  refine z_aload_n E hl 1 rfl dL_law_446 rfl ?_
  refine z_iload E hl 5 rfl dL_law_447 ?_
  refine z_iconst E dL_law_449 ?_
  refine z_iadd E dL_law_450 ?_
  refine z_sld E S9 G (i + 3) (by omega) (by omega) dL_law_451 ?_
  refine z_eq (y := d) hx3 ?_
  refine z_callV E G hl.1 (c_X5_setBattery_2 l D k4 mo mnw mte mge mus mco mfl mba mdu th n p st cc bc pot gr bk btw bhd a b d (by omega) (by omega) (by omega) (by omega)) kV_L_105 ⟨rfl, rfl, Nat.le_of_ble_eq_true rfl, Nat.le_of_ble_eq_true rfl⟩ [0] rfl (by decide) 0 5 rfl rfl rfl rfl rfl (Nat.le_of_ble_eq_true rfl) dL_law_452 ⟨by omega, by omega⟩ (fun v9 w9 H locs hq G => ?_)
  obtain ⟨rfl, rfl⟩ := hq
  refine W.eq (g2 := F0 mm 455 ls [.int (iI (0))]) rfl ?_
  have G : zG D AA ss.heap ((mo, .inr (5, [.int (iI (1)), .int (iI (((n : Nat) : Int))), .ref mnw, .ref mte, .ref mge, .ref mus, .int (iI (((p : Nat) : Int))), .int (iI (((st : Nat) : Int))), .int (iI (cc)), .int (iI (bc)), .ref mco, .ref mfl, .ref mba, .ref mdu, .long (lI (pot)), .long (lI (gr)), .long (lI (bk)), .int (iI (btw)), .int (iI (bhd))])) :: (mnw, .inl (k4 0, 19, .inl (fun i9 => iI (NW i9)))) :: (mte, .inl (k4 0, 912, .inl (fun i9 => iI (TE i9)))) :: (mge, .inl (k4 0, 288, .inl (fun i9 => iI (GE i9)))) :: (mus, .inl (k4 0, 288, .inl (fun i9 => iI (US i9)))) :: (mco, .inl (k4 0, 48, .inl (fun i9 => iI (CO i9)))) :: (mfl, .inl (k4 0, 2304, .inl (fun i9 => iI (FL i9)))) :: (mba, .inl (k4 1, 6, .inr (.inl (fun i9 => lI (BA i9))))) :: (mdu, .inl (k4 1, 6, .inr (.inl (fun i9 => lI (DU i9))))) :: (ao, .inl (k4 1, 1, .inr (.inl (fun i9 => lI (O i9))))) :: (xW k4 lo lnow lsl lcl lba ldu nsh nrk h1 r1 q1 h2 r2 q2 ta sa n p st cc bc pot gr bk nw bal due S1 S2 tx sg)) H locs := G
  refine z_istore E [(6, .int (iI (0))), (5, .int (iI (1))), (0, .ref bs), (1, .ref lo), (2, .ref mo), (3, .ref ao), (4, .int (iI (((i : Nat) : Int))))] dL_law_455 hl (by decide) rfl (fun ls hl => ?_)
  refine z_aload_n E hl 4 rfl dL_law_457 rfl ?_
  refine z_callV E G hl.1 (c_X5_thrown l D k4 mo mnw mte mge mus mco mfl mba mdu 1 n p st cc bc pot gr bk btw bhd ) kV_L_89 ⟨rfl, rfl, Nat.le_of_ble_eq_true rfl, Nat.le_of_ble_eq_true rfl⟩ [0] rfl (by decide) 0 5 rfl rfl rfl rfl rfl (Nat.le_of_ble_eq_true rfl) dL_law_458 ⟨by omega, by omega⟩ (fun v9 w9 H locs hq G => ?_)
  obtain ⟨rfl, rfl⟩ := hq
  refine W.eq (g2 := F0 mm 461 ls [.int (iI (1))]) rfl ?_
  have G : zG D AA ss.heap ((mo, .inr (5, [.int (iI (1)), .int (iI (((n : Nat) : Int))), .ref mnw, .ref mte, .ref mge, .ref mus, .int (iI (((p : Nat) : Int))), .int (iI (((st : Nat) : Int))), .int (iI (cc)), .int (iI (bc)), .ref mco, .ref mfl, .ref mba, .ref mdu, .long (lI (pot)), .long (lI (gr)), .long (lI (bk)), .int (iI (btw)), .int (iI (bhd))])) :: (mnw, .inl (k4 0, 19, .inl (fun i9 => iI (NW i9)))) :: (mte, .inl (k4 0, 912, .inl (fun i9 => iI (TE i9)))) :: (mge, .inl (k4 0, 288, .inl (fun i9 => iI (GE i9)))) :: (mus, .inl (k4 0, 288, .inl (fun i9 => iI (US i9)))) :: (mco, .inl (k4 0, 48, .inl (fun i9 => iI (CO i9)))) :: (mfl, .inl (k4 0, 2304, .inl (fun i9 => iI (FL i9)))) :: (mba, .inl (k4 1, 6, .inr (.inl (fun i9 => lI (BA i9))))) :: (mdu, .inl (k4 1, 6, .inr (.inl (fun i9 => lI (DU i9))))) :: (ao, .inl (k4 1, 1, .inr (.inl (fun i9 => lI (O i9))))) :: (xW k4 lo lnow lsl lcl lba ldu nsh nrk h1 r1 q1 h2 r2 q2 ta sa n p st cc bc pot gr bk nw bal due S1 S2 tx sg)) H locs := G
  refine z_iload E hl 1 rfl dL_law_461 ?_
  refine z_icmp_eq (tgt := 468) E dL_law_463 (by decide) (by decide) (by decide) (fun c_463 => ?_) (fun c_463 => absurd c_463 (by decide))
  refine z_iload E hl 1 rfl dL_law_468 ?_
  refine z_if_ne (tgt := 485) E dL_law_470 (by decide) (by decide) (fun c_470 => ?_) (fun c_470 => absurd c_470 (by decide))
  refine z_goto (tgt := 1502) E dL_law_485 (by decide) ?_
  refine W.cs (cells' := cl9 + ((1) + (0))) (slots' := sl9 + ((6) + (0))) (by omega) (by omega) ?_
  exact kk _ _ _ G (lv_sub hl [2, 3, 4, 5, 6] rfl)

set_option maxHeartbeats 4000000 in
set_option maxRecDepth 100000 in
theorem s_content {pp : Program} {l : Launch} {ee : Env} {ss : State} {mm : MethodId} {bl : List Frame} {me : Method} {co : Code} {AA : Nat → Prop} {H : Heap} {locs : List Loc} {ls : Array Slot} {Q9 : State → Prop} {D : va_G} {k4 : Nat → ClassId} {bs Ls : Nat} {xs : Nat → Int32} {cl9 sl9 : Nat} (hl9 : l.stackTraces = false) (E : zE pp mm co cL_law 9 ss #[Value.ref bs] RL D k4) (X : zEL ss AA) (S9 : zSc bs Ls xs ss AA) (i : Nat) (hi5 : i + 4 < Ls) (lo lnow lsl lcl lba ldu nsh nrk h1 r1 q1 h2 r2 q2 : Nat) (ta : Nat → Nat) (sa : Nat → Nat → Nat) (n p st : Nat) (cc bc pot gr bk : Int) (nw bal due : Nat → Int) (S1 S2 : sS) (tx : Nat → Nat → Int) (sg : Nat → Nat → Nat → Int)  (mo mnw mte mge mus mco mfl mba mdu : Nat) (th btw bhd : Int) (NW TE GE US CO FL BA DU : Nat → Int) (ao : Nat) (O : Nat → Int) (hn9 : n ≤ 6) (hp9 : p ≤ 48) (hs9 : st ≤ 48) (hcc : rng cc) (hb9 : 0 ≤ bc ∧ bc ≤ 20000) (hc9 : cl9 + ((0) + (0)) ≤ room_1.cells) (hs99 : sl9 + ((0) + (0)) ≤ room_1.slots) (G : zG D AA ss.heap ((mo, .inr (5, [.int (iI (th)), .int (iI (((n : Nat) : Int))), .ref mnw, .ref mte, .ref mge, .ref mus, .int (iI (((p : Nat) : Int))), .int (iI (((st : Nat) : Int))), .int (iI (cc)), .int (iI (bc)), .ref mco, .ref mfl, .ref mba, .ref mdu, .long (lI (pot)), .long (lI (gr)), .long (lI (bk)), .int (iI (btw)), .int (iI (bhd))])) :: (mnw, .inl (k4 0, 19, .inl (fun i9 => iI (NW i9)))) :: (mte, .inl (k4 0, 912, .inl (fun i9 => iI (TE i9)))) :: (mge, .inl (k4 0, 288, .inl (fun i9 => iI (GE i9)))) :: (mus, .inl (k4 0, 288, .inl (fun i9 => iI (US i9)))) :: (mco, .inl (k4 0, 48, .inl (fun i9 => iI (CO i9)))) :: (mfl, .inl (k4 0, 2304, .inl (fun i9 => iI (FL i9)))) :: (mba, .inl (k4 1, 6, .inr (.inl (fun i9 => lI (BA i9))))) :: (mdu, .inl (k4 1, 6, .inr (.inl (fun i9 => lI (DU i9))))) :: (ao, .inl (k4 1, 1, .inr (.inl (fun i9 => lI (O i9))))) :: (xW k4 lo lnow lsl lcl lba ldu nsh nrk h1 r1 q1 h2 r2 q2 ta sa n p st cc bc pot gr bk nw bal due S1 S2 tx sg)) H locs) (hl : lv_has ls 9 [(0, .ref bs), (1, .ref lo), (2, .ref mo), (3, .ref ao), (4, .int (iI (((i : Nat) : Int))))]) (kk : ∀ (H : Heap) (locs : List Loc) (ls : Array Slot), zG D AA ss.heap ((mo, .inr (5, [.int (iI (0)), .int (iI (((n : Nat) : Int))), .ref mnw, .ref mte, .ref mge, .ref mus, .int (iI (((p : Nat) : Int))), .int (iI (((st : Nat) : Int))), .int (iI (cc)), .int (iI (bc)), .ref mco, .ref mfl, .ref mba, .ref mdu, .long (lI (pot)), .long (lI (gr)), .long (lI (bk)), .int (iI (btw)), .int (iI (bhd))])) :: (mnw, .inl (k4 0, 19, .inl (fun i9 => iI (NW i9)))) :: (mte, .inl (k4 0, 912, .inl (fun i9 => iI (TE i9)))) :: (mge, .inl (k4 0, 288, .inl (fun i9 => iI (GE i9)))) :: (mus, .inl (k4 0, 288, .inl (fun i9 => iI (US i9)))) :: (mco, .inl (k4 0, 48, .inl (fun i9 => iI (CO i9)))) :: (mfl, .inl (k4 0, 2304, .inl (fun i9 => iI (FL i9)))) :: (mba, .inl (k4 1, 6, .inr (.inl (fun i9 => lI (BA i9))))) :: (mdu, .inl (k4 1, 6, .inr (.inl (fun i9 => lI (DU i9))))) :: (ao, .inl (k4 1, 1, .inr (.inl (fun i9 => lI (O i9))))) :: (xW k4 lo lnow lsl lcl lba ldu nsh nrk h1 r1 q1 h2 r2 q2 ta sa n p st cc bc pot gr bk nw bal due S1 S2 tx sg)) H locs → lv_has ls 9 [(0, .ref bs), (1, .ref lo), (2, .ref mo), (3, .ref ao), (4, .int (iI (((i : Nat) : Int))))] → W pp l ee room_1 ss mm #[Value.ref bs] bl me co H locs (cl9 + ((0) + (0))) (sl9 + ((0) + (0))) Q9 (F0 mm 1502 ls [])) : W pp l ee room_1 ss mm #[Value.ref bs] bl me co H locs (cl9) (sl9) Q9 (F0 mm 488 ls []) := by
  refine z_aload_n E hl 1 rfl dL_law_488 rfl ?_
  refine z_callVs (pre := [(mo, .inr (5, [.int (iI (th)), .int (iI (((n : Nat) : Int))), .ref mnw, .ref mte, .ref mge, .ref mus, .int (iI (((p : Nat) : Int))), .int (iI (((st : Nat) : Int))), .int (iI (cc)), .int (iI (bc)), .ref mco, .ref mfl, .ref mba, .ref mdu, .long (lI (pot)), .long (lI (gr)), .long (lI (bk)), .int (iI (btw)), .int (iI (bhd))])), (mnw, .inl (k4 0, 19, .inl (fun i9 => iI (NW i9)))), (mte, .inl (k4 0, 912, .inl (fun i9 => iI (TE i9)))), (mge, .inl (k4 0, 288, .inl (fun i9 => iI (GE i9)))), (mus, .inl (k4 0, 288, .inl (fun i9 => iI (US i9)))), (mco, .inl (k4 0, 48, .inl (fun i9 => iI (CO i9)))), (mfl, .inl (k4 0, 2304, .inl (fun i9 => iI (FL i9)))), (mba, .inl (k4 1, 6, .inr (.inl (fun i9 => lI (BA i9))))), (mdu, .inl (k4 1, 6, .inr (.inl (fun i9 => lI (DU i9))))), (ao, .inl (k4 1, 1, .inr (.inl (fun i9 => lI (O i9)))))]) E G hl.1 (c_X4_content l D k4 lo lnow lsl lcl lba ldu nsh nrk h1 r1 q1 h2 r2 q2 ta sa n p st cc bc pot gr bk nw bal due S1 S2 tx sg ) kV_L_106 ⟨rfl, rfl, Nat.le_of_ble_eq_true rfl, Nat.le_of_ble_eq_true rfl⟩ 10 4 rfl rfl rfl rfl rfl (Nat.le_of_ble_eq_true rfl) dL_law_489 ⟨by omega, by omega⟩ (fun v9 w9 H locs hq G => ?_)
  obtain ⟨rfl, rfl⟩ := hq
  refine W.eq (g2 := F0 mm 492 ls [.int (iI (bc))]) rfl ?_
  have G : zG D AA ss.heap ((mo, .inr (5, [.int (iI (th)), .int (iI (((n : Nat) : Int))), .ref mnw, .ref mte, .ref mge, .ref mus, .int (iI (((p : Nat) : Int))), .int (iI (((st : Nat) : Int))), .int (iI (cc)), .int (iI (bc)), .ref mco, .ref mfl, .ref mba, .ref mdu, .long (lI (pot)), .long (lI (gr)), .long (lI (bk)), .int (iI (btw)), .int (iI (bhd))])) :: (mnw, .inl (k4 0, 19, .inl (fun i9 => iI (NW i9)))) :: (mte, .inl (k4 0, 912, .inl (fun i9 => iI (TE i9)))) :: (mge, .inl (k4 0, 288, .inl (fun i9 => iI (GE i9)))) :: (mus, .inl (k4 0, 288, .inl (fun i9 => iI (US i9)))) :: (mco, .inl (k4 0, 48, .inl (fun i9 => iI (CO i9)))) :: (mfl, .inl (k4 0, 2304, .inl (fun i9 => iI (FL i9)))) :: (mba, .inl (k4 1, 6, .inr (.inl (fun i9 => lI (BA i9))))) :: (mdu, .inl (k4 1, 6, .inr (.inl (fun i9 => lI (DU i9))))) :: (ao, .inl (k4 1, 1, .inr (.inl (fun i9 => lI (O i9))))) :: (xW k4 lo lnow lsl lcl lba ldu nsh nrk h1 r1 q1 h2 r2 q2 ta sa n p st cc bc pot gr bk nw bal due S1 S2 tx sg)) H locs := G
  refine z_aload_n E hl 2 rfl dL_law_492 rfl ?_
  refine z_callV E G hl.1 (c_X5_content l D k4 mo mnw mte mge mus mco mfl mba mdu th n p st cc bc pot gr bk btw bhd ) kV_L_109 ⟨rfl, rfl, Nat.le_of_ble_eq_true rfl, Nat.le_of_ble_eq_true rfl⟩ [0] rfl (by decide) 0 5 rfl rfl rfl rfl rfl (Nat.le_of_ble_eq_true rfl) dL_law_493 ⟨by omega, by omega⟩ (fun v9 w9 H locs hq G => ?_)
  obtain ⟨rfl, rfl⟩ := hq
  refine W.eq (g2 := F0 mm 496 ls [.int (iI (bc)), .int (iI (bc))]) rfl ?_
  have G : zG D AA ss.heap ((mo, .inr (5, [.int (iI (0)), .int (iI (((n : Nat) : Int))), .ref mnw, .ref mte, .ref mge, .ref mus, .int (iI (((p : Nat) : Int))), .int (iI (((st : Nat) : Int))), .int (iI (cc)), .int (iI (bc)), .ref mco, .ref mfl, .ref mba, .ref mdu, .long (lI (pot)), .long (lI (gr)), .long (lI (bk)), .int (iI (btw)), .int (iI (bhd))])) :: (mnw, .inl (k4 0, 19, .inl (fun i9 => iI (NW i9)))) :: (mte, .inl (k4 0, 912, .inl (fun i9 => iI (TE i9)))) :: (mge, .inl (k4 0, 288, .inl (fun i9 => iI (GE i9)))) :: (mus, .inl (k4 0, 288, .inl (fun i9 => iI (US i9)))) :: (mco, .inl (k4 0, 48, .inl (fun i9 => iI (CO i9)))) :: (mfl, .inl (k4 0, 2304, .inl (fun i9 => iI (FL i9)))) :: (mba, .inl (k4 1, 6, .inr (.inl (fun i9 => lI (BA i9))))) :: (mdu, .inl (k4 1, 6, .inr (.inl (fun i9 => lI (DU i9))))) :: (ao, .inl (k4 1, 1, .inr (.inl (fun i9 => lI (O i9))))) :: (xW k4 lo lnow lsl lcl lba ldu nsh nrk h1 r1 q1 h2 r2 q2 ta sa n p st cc bc pot gr bk nw bal due S1 S2 tx sg)) H locs := G
  refine z_icmp_eq (tgt := 1502) E dL_law_496 (by decide) ⟨by omega, by omega⟩ ⟨by omega, by omega⟩ (fun c_496 => ?_) (fun c_496 => absurd c_496 (fun z => z rfl))
  refine W.cs (cells' := cl9 + ((0) + (0))) (slots' := sl9 + ((0) + (0))) (by omega) (by omega) ?_
  exact kk _ _ _ G (lv_sub hl [0, 1, 2, 3, 4] rfl)

set_option maxHeartbeats 4000000 in
set_option maxRecDepth 100000 in
theorem s_members {pp : Program} {l : Launch} {ee : Env} {ss : State} {mm : MethodId} {bl : List Frame} {me : Method} {co : Code} {AA : Nat → Prop} {H : Heap} {locs : List Loc} {ls : Array Slot} {Q9 : State → Prop} {D : va_G} {k4 : Nat → ClassId} {bs Ls : Nat} {xs : Nat → Int32} {cl9 sl9 : Nat} (hl9 : l.stackTraces = false) (E : zE pp mm co cL_law 9 ss #[Value.ref bs] RL D k4) (X : zEL ss AA) (S9 : zSc bs Ls xs ss AA) (i : Nat) (hi5 : i + 4 < Ls) (lo lnow lsl lcl lba ldu nsh nrk h1 r1 q1 h2 r2 q2 : Nat) (ta : Nat → Nat) (sa : Nat → Nat → Nat) (n p st : Nat) (cc bc pot gr bk : Int) (nw bal due : Nat → Int) (S1 S2 : sS) (tx : Nat → Nat → Int) (sg : Nat → Nat → Nat → Int)  (mo mnw mte mge mus mco mfl mba mdu : Nat) (th btw bhd : Int) (NW TE GE US CO FL BA DU : Nat → Int) (ao : Nat) (O : Nat → Int) (hn9 : n ≤ 6) (hp9 : p ≤ 48) (hs9 : st ≤ 48) (hcc : rng cc) (hb9 : 0 ≤ bc ∧ bc ≤ 20000) (hc9 : cl9 + ((0) + (0)) ≤ room_1.cells) (hs99 : sl9 + ((0) + (0)) ≤ room_1.slots) (G : zG D AA ss.heap ((mo, .inr (5, [.int (iI (th)), .int (iI (((n : Nat) : Int))), .ref mnw, .ref mte, .ref mge, .ref mus, .int (iI (((p : Nat) : Int))), .int (iI (((st : Nat) : Int))), .int (iI (cc)), .int (iI (bc)), .ref mco, .ref mfl, .ref mba, .ref mdu, .long (lI (pot)), .long (lI (gr)), .long (lI (bk)), .int (iI (btw)), .int (iI (bhd))])) :: (mnw, .inl (k4 0, 19, .inl (fun i9 => iI (NW i9)))) :: (mte, .inl (k4 0, 912, .inl (fun i9 => iI (TE i9)))) :: (mge, .inl (k4 0, 288, .inl (fun i9 => iI (GE i9)))) :: (mus, .inl (k4 0, 288, .inl (fun i9 => iI (US i9)))) :: (mco, .inl (k4 0, 48, .inl (fun i9 => iI (CO i9)))) :: (mfl, .inl (k4 0, 2304, .inl (fun i9 => iI (FL i9)))) :: (mba, .inl (k4 1, 6, .inr (.inl (fun i9 => lI (BA i9))))) :: (mdu, .inl (k4 1, 6, .inr (.inl (fun i9 => lI (DU i9))))) :: (ao, .inl (k4 1, 1, .inr (.inl (fun i9 => lI (O i9))))) :: (xW k4 lo lnow lsl lcl lba ldu nsh nrk h1 r1 q1 h2 r2 q2 ta sa n p st cc bc pot gr bk nw bal due S1 S2 tx sg)) H locs) (hl : lv_has ls 9 [(0, .ref bs), (1, .ref lo), (2, .ref mo), (3, .ref ao), (4, .int (iI (((i : Nat) : Int))))]) (kk : ∀ (H : Heap) (locs : List Loc) (ls : Array Slot), zG D AA ss.heap ((mo, .inr (5, [.int (iI (0)), .int (iI (((n : Nat) : Int))), .ref mnw, .ref mte, .ref mge, .ref mus, .int (iI (((p : Nat) : Int))), .int (iI (((st : Nat) : Int))), .int (iI (cc)), .int (iI (bc)), .ref mco, .ref mfl, .ref mba, .ref mdu, .long (lI (pot)), .long (lI (gr)), .long (lI (bk)), .int (iI (btw)), .int (iI (bhd))])) :: (mnw, .inl (k4 0, 19, .inl (fun i9 => iI (NW i9)))) :: (mte, .inl (k4 0, 912, .inl (fun i9 => iI (TE i9)))) :: (mge, .inl (k4 0, 288, .inl (fun i9 => iI (GE i9)))) :: (mus, .inl (k4 0, 288, .inl (fun i9 => iI (US i9)))) :: (mco, .inl (k4 0, 48, .inl (fun i9 => iI (CO i9)))) :: (mfl, .inl (k4 0, 2304, .inl (fun i9 => iI (FL i9)))) :: (mba, .inl (k4 1, 6, .inr (.inl (fun i9 => lI (BA i9))))) :: (mdu, .inl (k4 1, 6, .inr (.inl (fun i9 => lI (DU i9))))) :: (ao, .inl (k4 1, 1, .inr (.inl (fun i9 => lI (O i9))))) :: (xW k4 lo lnow lsl lcl lba ldu nsh nrk h1 r1 q1 h2 r2 q2 ta sa n p st cc bc pot gr bk nw bal due S1 S2 tx sg)) H locs → lv_has ls 9 [(0, .ref bs), (1, .ref lo), (2, .ref mo), (3, .ref ao), (4, .int (iI (((i : Nat) : Int))))] → W pp l ee room_1 ss mm #[Value.ref bs] bl me co H locs (cl9 + ((0) + (0))) (sl9 + ((0) + (0))) Q9 (F0 mm 1502 ls [])) : W pp l ee room_1 ss mm #[Value.ref bs] bl me co H locs (cl9) (sl9) Q9 (F0 mm 501 ls []) := by
  refine z_aload_n E hl 1 rfl dL_law_501 rfl ?_
  refine z_callVs (pre := [(mo, .inr (5, [.int (iI (th)), .int (iI (((n : Nat) : Int))), .ref mnw, .ref mte, .ref mge, .ref mus, .int (iI (((p : Nat) : Int))), .int (iI (((st : Nat) : Int))), .int (iI (cc)), .int (iI (bc)), .ref mco, .ref mfl, .ref mba, .ref mdu, .long (lI (pot)), .long (lI (gr)), .long (lI (bk)), .int (iI (btw)), .int (iI (bhd))])), (mnw, .inl (k4 0, 19, .inl (fun i9 => iI (NW i9)))), (mte, .inl (k4 0, 912, .inl (fun i9 => iI (TE i9)))), (mge, .inl (k4 0, 288, .inl (fun i9 => iI (GE i9)))), (mus, .inl (k4 0, 288, .inl (fun i9 => iI (US i9)))), (mco, .inl (k4 0, 48, .inl (fun i9 => iI (CO i9)))), (mfl, .inl (k4 0, 2304, .inl (fun i9 => iI (FL i9)))), (mba, .inl (k4 1, 6, .inr (.inl (fun i9 => lI (BA i9))))), (mdu, .inl (k4 1, 6, .inr (.inl (fun i9 => lI (DU i9))))), (ao, .inl (k4 1, 1, .inr (.inl (fun i9 => lI (O i9)))))]) E G hl.1 (c_X4_members l D k4 lo lnow lsl lcl lba ldu nsh nrk h1 r1 q1 h2 r2 q2 ta sa n p st cc bc pot gr bk nw bal due S1 S2 tx sg ) kV_L_110 ⟨rfl, rfl, Nat.le_of_ble_eq_true rfl, Nat.le_of_ble_eq_true rfl⟩ 10 4 rfl rfl rfl rfl rfl (Nat.le_of_ble_eq_true rfl) dL_law_502 ⟨by omega, by omega⟩ (fun v9 w9 H locs hq G => ?_)
  obtain ⟨rfl, rfl⟩ := hq
  refine W.eq (g2 := F0 mm 505 ls [.int (iI (((n : Nat) : Int)))]) rfl ?_
  have G : zG D AA ss.heap ((mo, .inr (5, [.int (iI (th)), .int (iI (((n : Nat) : Int))), .ref mnw, .ref mte, .ref mge, .ref mus, .int (iI (((p : Nat) : Int))), .int (iI (((st : Nat) : Int))), .int (iI (cc)), .int (iI (bc)), .ref mco, .ref mfl, .ref mba, .ref mdu, .long (lI (pot)), .long (lI (gr)), .long (lI (bk)), .int (iI (btw)), .int (iI (bhd))])) :: (mnw, .inl (k4 0, 19, .inl (fun i9 => iI (NW i9)))) :: (mte, .inl (k4 0, 912, .inl (fun i9 => iI (TE i9)))) :: (mge, .inl (k4 0, 288, .inl (fun i9 => iI (GE i9)))) :: (mus, .inl (k4 0, 288, .inl (fun i9 => iI (US i9)))) :: (mco, .inl (k4 0, 48, .inl (fun i9 => iI (CO i9)))) :: (mfl, .inl (k4 0, 2304, .inl (fun i9 => iI (FL i9)))) :: (mba, .inl (k4 1, 6, .inr (.inl (fun i9 => lI (BA i9))))) :: (mdu, .inl (k4 1, 6, .inr (.inl (fun i9 => lI (DU i9))))) :: (ao, .inl (k4 1, 1, .inr (.inl (fun i9 => lI (O i9))))) :: (xW k4 lo lnow lsl lcl lba ldu nsh nrk h1 r1 q1 h2 r2 q2 ta sa n p st cc bc pot gr bk nw bal due S1 S2 tx sg)) H locs := G
  refine z_aload_n E hl 2 rfl dL_law_505 rfl ?_
  refine z_callV E G hl.1 (c_X5_members l D k4 mo mnw mte mge mus mco mfl mba mdu th n p st cc bc pot gr bk btw bhd ) kV_L_113 ⟨rfl, rfl, Nat.le_of_ble_eq_true rfl, Nat.le_of_ble_eq_true rfl⟩ [0] rfl (by decide) 0 5 rfl rfl rfl rfl rfl (Nat.le_of_ble_eq_true rfl) dL_law_506 ⟨by omega, by omega⟩ (fun v9 w9 H locs hq G => ?_)
  obtain ⟨rfl, rfl⟩ := hq
  refine W.eq (g2 := F0 mm 509 ls [.int (iI (((n : Nat) : Int))), .int (iI (((n : Nat) : Int)))]) rfl ?_
  have G : zG D AA ss.heap ((mo, .inr (5, [.int (iI (0)), .int (iI (((n : Nat) : Int))), .ref mnw, .ref mte, .ref mge, .ref mus, .int (iI (((p : Nat) : Int))), .int (iI (((st : Nat) : Int))), .int (iI (cc)), .int (iI (bc)), .ref mco, .ref mfl, .ref mba, .ref mdu, .long (lI (pot)), .long (lI (gr)), .long (lI (bk)), .int (iI (btw)), .int (iI (bhd))])) :: (mnw, .inl (k4 0, 19, .inl (fun i9 => iI (NW i9)))) :: (mte, .inl (k4 0, 912, .inl (fun i9 => iI (TE i9)))) :: (mge, .inl (k4 0, 288, .inl (fun i9 => iI (GE i9)))) :: (mus, .inl (k4 0, 288, .inl (fun i9 => iI (US i9)))) :: (mco, .inl (k4 0, 48, .inl (fun i9 => iI (CO i9)))) :: (mfl, .inl (k4 0, 2304, .inl (fun i9 => iI (FL i9)))) :: (mba, .inl (k4 1, 6, .inr (.inl (fun i9 => lI (BA i9))))) :: (mdu, .inl (k4 1, 6, .inr (.inl (fun i9 => lI (DU i9))))) :: (ao, .inl (k4 1, 1, .inr (.inl (fun i9 => lI (O i9))))) :: (xW k4 lo lnow lsl lcl lba ldu nsh nrk h1 r1 q1 h2 r2 q2 ta sa n p st cc bc pot gr bk nw bal due S1 S2 tx sg)) H locs := G
  refine z_icmp_eq (tgt := 1502) E dL_law_509 (by decide) ⟨by omega, by omega⟩ ⟨by omega, by omega⟩ (fun c_509 => ?_) (fun c_509 => absurd c_509 (fun z => z rfl))
  refine W.cs (cells' := cl9 + ((0) + (0))) (slots' := sl9 + ((0) + (0))) (by omega) (by omega) ?_
  exact kk _ _ _ G (lv_sub hl [0, 1, 2, 3, 4] rfl)

set_option maxHeartbeats 4000000 in
set_option maxRecDepth 100000 in
theorem s_meter {pp : Program} {l : Launch} {ee : Env} {ss : State} {mm : MethodId} {bl : List Frame} {me : Method} {co : Code} {AA : Nat → Prop} {H : Heap} {locs : List Loc} {ls : Array Slot} {Q9 : State → Prop} {D : va_G} {k4 : Nat → ClassId} {bs Ls : Nat} {xs : Nat → Int32} {cl9 sl9 : Nat} (hl9 : l.stackTraces = false) (E : zE pp mm co cL_law 9 ss #[Value.ref bs] RL D k4) (X : zEL ss AA) (S9 : zSc bs Ls xs ss AA) (i : Nat) (hi5 : i + 4 < Ls) (lo lnow lsl lcl lba ldu nsh nrk h1 r1 q1 h2 r2 q2 : Nat) (ta : Nat → Nat) (sa : Nat → Nat → Nat) (n p st : Nat) (cc bc pot gr bk : Int) (nw bal due : Nat → Int) (S1 S2 : sS) (tx : Nat → Nat → Int) (sg : Nat → Nat → Nat → Int) (m k : Nat) (a b : Int) (mo mnw mte mge mus mco mfl mba mdu : Nat) (th btw bhd : Int) (NW TE GE US CO FL BA DU : Nat → Int) (ao : Nat) (O : Nat → Int) (hX : xOK n p st bc nw S1 S2 tx sg) (hm : m < n) (hk : k < 48) (ha : 0 ≤ a ∧ a ≤ 5000) (hb : 0 ≤ b ∧ b ≤ 5000) (hkp : p ≤ k) (mhgk : 0 ≤ GE (48 * m + k) ∧ GE (48 * m + k) ≤ 5000) (mhuk : 0 ≤ US (48 * m + k) ∧ US (48 * m + k) ≤ 5000) (hn9 : n ≤ 6) (hp9 : p ≤ 48) (hs9 : st ≤ 48) (hcc : rng cc) (hb9 : 0 ≤ bc ∧ bc ≤ 20000) (hx1 : (xs (i + 1)).toInt = ((m : Nat) : Int)) (hx2 : (xs (i + 2)).toInt = ((k : Nat) : Int)) (hx3 : (xs (i + 3)).toInt = a) (hx4 : (xs (i + 4)).toInt = b) (hans : ((if sg k 1 m ≠ a ∨ sg k 2 m ≠ b then 1 else 0) : Int) = (if GE (48 * m + k) ≠ a ∨ US (48 * m + k) ≠ b then 1 else 0)) (hc9 : cl9 + ((0) + (0)) ≤ room_1.cells) (hs99 : sl9 + ((0) + (0)) ≤ room_1.slots) (G : zG D AA ss.heap ((mo, .inr (5, [.int (iI (th)), .int (iI (((n : Nat) : Int))), .ref mnw, .ref mte, .ref mge, .ref mus, .int (iI (((p : Nat) : Int))), .int (iI (((st : Nat) : Int))), .int (iI (cc)), .int (iI (bc)), .ref mco, .ref mfl, .ref mba, .ref mdu, .long (lI (pot)), .long (lI (gr)), .long (lI (bk)), .int (iI (btw)), .int (iI (bhd))])) :: (mnw, .inl (k4 0, 19, .inl (fun i9 => iI (NW i9)))) :: (mte, .inl (k4 0, 912, .inl (fun i9 => iI (TE i9)))) :: (mge, .inl (k4 0, 288, .inl (fun i9 => iI (GE i9)))) :: (mus, .inl (k4 0, 288, .inl (fun i9 => iI (US i9)))) :: (mco, .inl (k4 0, 48, .inl (fun i9 => iI (CO i9)))) :: (mfl, .inl (k4 0, 2304, .inl (fun i9 => iI (FL i9)))) :: (mba, .inl (k4 1, 6, .inr (.inl (fun i9 => lI (BA i9))))) :: (mdu, .inl (k4 1, 6, .inr (.inl (fun i9 => lI (DU i9))))) :: (ao, .inl (k4 1, 1, .inr (.inl (fun i9 => lI (O i9))))) :: (xW k4 lo lnow lsl lcl lba ldu nsh nrk h1 r1 q1 h2 r2 q2 ta sa n p st cc bc pot gr bk nw bal due S1 S2 tx sg)) H locs) (hl : lv_has ls 9 [(0, .ref bs), (1, .ref lo), (2, .ref mo), (3, .ref ao), (4, .int (iI (((i : Nat) : Int))))]) (kk : ∀ (H : Heap) (locs : List Loc) (ls : Array Slot), zG D AA ss.heap ((mo, .inr (5, [.int (iI (0)), .int (iI (((n : Nat) : Int))), .ref mnw, .ref mte, .ref mge, .ref mus, .int (iI (((p : Nat) : Int))), .int (iI (((st : Nat) : Int))), .int (iI (cc)), .int (iI (bc)), .ref mco, .ref mfl, .ref mba, .ref mdu, .long (lI (pot)), .long (lI (gr)), .long (lI (bk)), .int (iI (btw)), .int (iI (bhd))])) :: (mnw, .inl (k4 0, 19, .inl (fun i9 => iI (NW i9)))) :: (mte, .inl (k4 0, 912, .inl (fun i9 => iI (TE i9)))) :: (mge, .inl (k4 0, 288, .inl (fun i9 => iI ((up GE (48 * m + k) a) i9)))) :: (mus, .inl (k4 0, 288, .inl (fun i9 => iI ((up US (48 * m + k) b) i9)))) :: (mco, .inl (k4 0, 48, .inl (fun i9 => iI (CO i9)))) :: (mfl, .inl (k4 0, 2304, .inl (fun i9 => iI (FL i9)))) :: (mba, .inl (k4 1, 6, .inr (.inl (fun i9 => lI (BA i9))))) :: (mdu, .inl (k4 1, 6, .inr (.inl (fun i9 => lI (DU i9))))) :: (ao, .inl (k4 1, 1, .inr (.inl (fun i9 => lI ((up O 0 (if sg k 1 m ≠ a ∨ sg k 2 m ≠ b then 1 else 0)) i9))))) :: (xW k4 lo lnow lsl lcl lba ldu nsh nrk h1 r1 q1 h2 r2 q2 ta sa n p st cc bc pot gr bk nw bal due S1 S2 tx (upS sg k (mkS (sg k 0) (up (sg k 1) m a) (up (sg k 2) m b) (sg k 3) (sg k 4 0) (sg k 4 1))))) H locs → lv_has ls 9 [(0, .ref bs), (1, .ref lo), (2, .ref mo), (3, .ref ao), (4, .int (iI (((i : Nat) : Int))))] → W pp l ee room_1 ss mm #[Value.ref bs] bl me co H locs (cl9 + ((0) + (0))) (sl9 + ((0) + (0))) Q9 (F0 mm 1502 ls [])) : W pp l ee room_1 ss mm #[Value.ref bs] bl me co H locs (cl9) (sl9) Q9 (F0 mm 514 ls []) := by
  refine z_aload_n E hl 1 rfl dL_law_514 rfl ?_
  refine z_aload_n E hl 0 rfl dL_law_515 rfl ?_
  refine z_iload E hl 4 rfl dL_law_516 ?_
  refine z_iconst E dL_law_518 ?_
  refine z_iadd E dL_law_519 ?_
  refine z_sld E S9 G (i + 1) (by omega) (by omega) dL_law_520 ?_
  refine z_eq (y := ((m : Nat) : Int)) hx1 ?_
  refine z_aload_n E hl 0 rfl dL_law_521 rfl ?_
  refine z_iload E hl 4 rfl dL_law_522 ?_
  refine z_iconst E dL_law_524 ?_
  refine z_iadd E dL_law_525 ?_
  refine z_sld E S9 G (i + 2) (by omega) (by omega) dL_law_526 ?_
  refine z_eq (y := ((k : Nat) : Int)) hx2 ?_
  refine z_aload_n E hl 0 rfl dL_law_527 rfl ?_
  refine z_iload E hl 4 rfl dL_law_528 ?_
  refine z_iconst E dL_law_530 ?_
  refine z_iadd E dL_law_531 ?_
  refine z_sld E S9 G (i + 3) (by omega) (by omega) dL_law_532 ?_
  refine z_eq (y := a) hx3 ?_
  refine z_aload_n E hl 0 rfl dL_law_533 rfl ?_
  refine z_iload E hl 4 rfl dL_law_534 ?_
  refine z_iconst E dL_law_536 ?_
  refine z_iadd E dL_law_537 ?_
  refine z_sld E S9 G (i + 4) (by omega) (by omega) dL_law_538 ?_
  refine z_eq (y := b) hx4 ?_
  refine z_aload_n E hl 3 rfl dL_law_539 rfl ?_
  refine z_callL (n := 6) (pre := [(mo, .inr (5, [.int (iI (th)), .int (iI (((n : Nat) : Int))), .ref mnw, .ref mte, .ref mge, .ref mus, .int (iI (((p : Nat) : Int))), .int (iI (((st : Nat) : Int))), .int (iI (cc)), .int (iI (bc)), .ref mco, .ref mfl, .ref mba, .ref mdu, .long (lI (pot)), .long (lI (gr)), .long (lI (bk)), .int (iI (btw)), .int (iI (bhd))])), (mnw, .inl (k4 0, 19, .inl (fun i9 => iI (NW i9)))), (mte, .inl (k4 0, 912, .inl (fun i9 => iI (TE i9)))), (mge, .inl (k4 0, 288, .inl (fun i9 => iI (GE i9)))), (mus, .inl (k4 0, 288, .inl (fun i9 => iI (US i9)))), (mco, .inl (k4 0, 48, .inl (fun i9 => iI (CO i9)))), (mfl, .inl (k4 0, 2304, .inl (fun i9 => iI (FL i9)))), (mba, .inl (k4 1, 6, .inr (.inl (fun i9 => lI (BA i9))))), (mdu, .inl (k4 1, 6, .inr (.inl (fun i9 => lI (DU i9)))))]) E X G hl.1 (w_meter l D k4 lo lnow lsl lcl lba ldu nsh nrk h1 r1 q1 h2 r2 q2 ta sa n p st cc bc pot gr bk nw bal due S1 S2 tx sg m k a b ao O hX hm hk ha hb hkp) zw_212 zw_213 zw_74 zw_214 (by decide +kernel) (by decide +kernel) ⟨rfl, rfl, Nat.le_of_ble_eq_true rfl, Nat.le_of_ble_eq_true rfl⟩ rfl rfl (Nat.le_of_ble_eq_true rfl) dL_law_540 ⟨by omega, by omega⟩ (fun v9 w9 H locs hq G => ?_)
  obtain ⟨rfl, rfl⟩ := hq
  refine W.eq (g2 := F0 mm 543 ls [.int (iI (0))]) rfl ?_
  have G : zG D AA ss.heap ((mo, .inr (5, [.int (iI (th)), .int (iI (((n : Nat) : Int))), .ref mnw, .ref mte, .ref mge, .ref mus, .int (iI (((p : Nat) : Int))), .int (iI (((st : Nat) : Int))), .int (iI (cc)), .int (iI (bc)), .ref mco, .ref mfl, .ref mba, .ref mdu, .long (lI (pot)), .long (lI (gr)), .long (lI (bk)), .int (iI (btw)), .int (iI (bhd))])) :: (mnw, .inl (k4 0, 19, .inl (fun i9 => iI (NW i9)))) :: (mte, .inl (k4 0, 912, .inl (fun i9 => iI (TE i9)))) :: (mge, .inl (k4 0, 288, .inl (fun i9 => iI (GE i9)))) :: (mus, .inl (k4 0, 288, .inl (fun i9 => iI (US i9)))) :: (mco, .inl (k4 0, 48, .inl (fun i9 => iI (CO i9)))) :: (mfl, .inl (k4 0, 2304, .inl (fun i9 => iI (FL i9)))) :: (mba, .inl (k4 1, 6, .inr (.inl (fun i9 => lI (BA i9))))) :: (mdu, .inl (k4 1, 6, .inr (.inl (fun i9 => lI (DU i9))))) :: (ao, .inl (k4 1, 1, .inr (.inl (fun i9 => lI ((up O 0 (if sg k 1 m ≠ a ∨ sg k 2 m ≠ b then 1 else 0)) i9))))) :: (xW k4 lo lnow lsl lcl lba ldu nsh nrk h1 r1 q1 h2 r2 q2 ta sa n p st cc bc pot gr bk nw bal due S1 S2 tx (upS sg k (mkS (sg k 0) (up (sg k 1) m a) (up (sg k 2) m b) (sg k 3) (sg k 4 0) (sg k 4 1))))) H locs := G
  refine z_istore E [(5, .int (iI (0))), (0, .ref bs), (1, .ref lo), (2, .ref mo), (3, .ref ao), (4, .int (iI (((i : Nat) : Int))))] dL_law_543 hl (by decide) rfl (fun ls hl => ?_)
  refine z_aload_n E hl 3 rfl dL_law_545 rfl ?_
  refine z_aload_n E hl 1 rfl dL_law_546 rfl ?_
  refine z_iload E hl 5 rfl dL_law_547 ?_
  refine z_iconst E dL_law_549 ?_
  refine z_iadd E dL_law_550 ?_
  refine z_sld E S9 G (i + 1) (by omega) (by omega) dL_law_551 ?_
  refine z_eq (y := ((m : Nat) : Int)) hx1 ?_
  refine z_aload_n E hl 1 rfl dL_law_552 rfl ?_
  refine z_iload E hl 5 rfl dL_law_553 ?_
  refine z_iconst E dL_law_555 ?_
  refine z_iadd E dL_law_556 ?_
  refine z_sld E S9 G (i + 2) (by omega) (by omega) dL_law_557 ?_
  refine z_eq (y := ((k : Nat) : Int)) hx2 ?_
  refine z_aload_n E hl 1 rfl dL_law_558 rfl ?_
  refine z_iload E hl 5 rfl dL_law_559 ?_
  refine z_iconst E dL_law_561 ?_
  refine z_iadd E dL_law_562 ?_
  refine z_sld E S9 G (i + 3) (by omega) (by omega) dL_law_563 ?_
  refine z_eq (y := a) hx3 ?_
  refine z_aload_n E hl 1 rfl dL_law_564 rfl ?_
  refine z_iload E hl 5 rfl dL_law_565 ?_
  refine z_iconst E dL_law_567 ?_
  refine z_iadd E dL_law_568 ?_
  refine z_sld E S9 G (i + 4) (by omega) (by omega) dL_law_569 ?_
  refine z_eq (y := b) hx4 ?_
  refine z_callV E G hl.1 (c_X5_meter l D k4 mo mnw mte mge mus mco mfl mba mdu th n p st cc bc pot gr bk btw bhd m k a b GE US (by omega) (by omega) (by omega) (by omega) (by omega) mhgk mhuk (by omega)) kV_L_117 ⟨rfl, rfl, Nat.le_of_ble_eq_true rfl, Nat.le_of_ble_eq_true rfl⟩ [0, 3, 4] rfl (by decide) 0 5 rfl rfl rfl rfl rfl (Nat.le_of_ble_eq_true rfl) dL_law_570 ⟨by omega, by omega⟩ (fun v9 w9 H locs hq G => ?_)
  obtain ⟨rfl, rfl⟩ := hq
  refine W.eq (g2 := F0 mm 573 ls [.int (iI (if GE (48 * m + k) ≠ a ∨ US (48 * m + k) ≠ b then 1 else 0))]) rfl ?_
  have G : zG D AA ss.heap ((mo, .inr (5, [.int (iI (0)), .int (iI (((n : Nat) : Int))), .ref mnw, .ref mte, .ref mge, .ref mus, .int (iI (((p : Nat) : Int))), .int (iI (((st : Nat) : Int))), .int (iI (cc)), .int (iI (bc)), .ref mco, .ref mfl, .ref mba, .ref mdu, .long (lI (pot)), .long (lI (gr)), .long (lI (bk)), .int (iI (btw)), .int (iI (bhd))])) :: (mnw, .inl (k4 0, 19, .inl (fun i9 => iI (NW i9)))) :: (mte, .inl (k4 0, 912, .inl (fun i9 => iI (TE i9)))) :: (mge, .inl (k4 0, 288, .inl (fun i9 => iI ((up GE (48 * m + k) a) i9)))) :: (mus, .inl (k4 0, 288, .inl (fun i9 => iI ((up US (48 * m + k) b) i9)))) :: (mco, .inl (k4 0, 48, .inl (fun i9 => iI (CO i9)))) :: (mfl, .inl (k4 0, 2304, .inl (fun i9 => iI (FL i9)))) :: (mba, .inl (k4 1, 6, .inr (.inl (fun i9 => lI (BA i9))))) :: (mdu, .inl (k4 1, 6, .inr (.inl (fun i9 => lI (DU i9))))) :: (ao, .inl (k4 1, 1, .inr (.inl (fun i9 => lI ((up O 0 (if sg k 1 m ≠ a ∨ sg k 2 m ≠ b then 1 else 0)) i9))))) :: (xW k4 lo lnow lsl lcl lba ldu nsh nrk h1 r1 q1 h2 r2 q2 ta sa n p st cc bc pot gr bk nw bal due S1 S2 tx (upS sg k (mkS (sg k 0) (up (sg k 1) m a) (up (sg k 2) m b) (sg k 3) (sg k 4 0) (sg k 4 1))))) H locs := G
  refine z_istore E [(6, .int (iI (if GE (48 * m + k) ≠ a ∨ US (48 * m + k) ≠ b then 1 else 0))), (5, .int (iI (0))), (0, .ref bs), (1, .ref lo), (2, .ref mo), (3, .ref ao), (4, .int (iI (((i : Nat) : Int))))] dL_law_573 hl (by decide) rfl (fun ls hl => ?_)
  refine z_aload_n E hl 4 rfl dL_law_575 rfl ?_
  refine z_callV E G hl.1 (c_X5_thrown l D k4 mo mnw mte mge mus mco mfl mba mdu 0 n p st cc bc pot gr bk btw bhd ) kV_L_89 ⟨rfl, rfl, Nat.le_of_ble_eq_true rfl, Nat.le_of_ble_eq_true rfl⟩ [0] rfl (by decide) 0 5 rfl rfl rfl rfl rfl (Nat.le_of_ble_eq_true rfl) dL_law_576 ⟨by omega, by omega⟩ (fun v9 w9 H locs hq G => ?_)
  obtain ⟨rfl, rfl⟩ := hq
  refine W.eq (g2 := F0 mm 579 ls [.int (iI (0))]) rfl ?_
  have G : zG D AA ss.heap ((mo, .inr (5, [.int (iI (0)), .int (iI (((n : Nat) : Int))), .ref mnw, .ref mte, .ref mge, .ref mus, .int (iI (((p : Nat) : Int))), .int (iI (((st : Nat) : Int))), .int (iI (cc)), .int (iI (bc)), .ref mco, .ref mfl, .ref mba, .ref mdu, .long (lI (pot)), .long (lI (gr)), .long (lI (bk)), .int (iI (btw)), .int (iI (bhd))])) :: (mnw, .inl (k4 0, 19, .inl (fun i9 => iI (NW i9)))) :: (mte, .inl (k4 0, 912, .inl (fun i9 => iI (TE i9)))) :: (mge, .inl (k4 0, 288, .inl (fun i9 => iI ((up GE (48 * m + k) a) i9)))) :: (mus, .inl (k4 0, 288, .inl (fun i9 => iI ((up US (48 * m + k) b) i9)))) :: (mco, .inl (k4 0, 48, .inl (fun i9 => iI (CO i9)))) :: (mfl, .inl (k4 0, 2304, .inl (fun i9 => iI (FL i9)))) :: (mba, .inl (k4 1, 6, .inr (.inl (fun i9 => lI (BA i9))))) :: (mdu, .inl (k4 1, 6, .inr (.inl (fun i9 => lI (DU i9))))) :: (ao, .inl (k4 1, 1, .inr (.inl (fun i9 => lI ((up O 0 (if sg k 1 m ≠ a ∨ sg k 2 m ≠ b then 1 else 0)) i9))))) :: (xW k4 lo lnow lsl lcl lba ldu nsh nrk h1 r1 q1 h2 r2 q2 ta sa n p st cc bc pot gr bk nw bal due S1 S2 tx (upS sg k (mkS (sg k 0) (up (sg k 1) m a) (up (sg k 2) m b) (sg k 3) (sg k 4 0) (sg k 4 1))))) H locs := G
  refine z_iload E hl 1 rfl dL_law_579 ?_
  refine z_icmp_eq (tgt := 586) E dL_law_581 (by decide) (by decide) (by decide) (fun c_581 => ?_) (fun c_581 => absurd c_581 (by decide))
  refine z_iload E hl 1 rfl dL_law_586 ?_
  refine z_if_ne (tgt := 610) E dL_law_588 (by decide) (by decide) (fun c_588 => absurd c_588 (by decide)) (fun c_588 => ?_)
  refine z_aload_n E hl 5 rfl dL_law_591 rfl ?_
  refine z_iconst E dL_law_592 ?_
  refine z_lald E G 9 rfl (0) rfl (by decide) (by decide) dL_law_593 ?_
  refine z_eql (y := if GE (48 * m + k) ≠ a ∨ US (48 * m + k) ≠ b then 1 else 0) (up_s.trans hans) ?_
  refine z_iload E hl 0 rfl dL_law_594 ?_
  refine z_if_eq (tgt := 603) E dL_law_596 (by decide) (by split <;> decide) (fun c_596 => ?_) (fun c_596 => ?_)
  · skip
    refine z_lconst E (z := 0) dL_law_603 (by decide) ?_
    refine z_eql (y := if GE (48 * m + k) ≠ a ∨ US (48 * m + k) ≠ b then 1 else 0) (c_596).symm ?_
    refine z_lcmp E dL_law_604 ?_
    refine z_if_eq (tgt := 610) E dL_law_605 (by decide) (lcI_rng _ _) (fun c_605 => ?_) (fun c_605 => absurd c_605 (by rw [lcI_self]; decide))
    refine z_goto (tgt := 1502) E dL_law_610 (by decide) ?_
    refine W.cs (cells' := cl9 + ((0) + (0))) (slots' := sl9 + ((0) + (0))) (by omega) (by omega) ?_
    exact kk _ _ _ G (lv_sub hl [2, 3, 4, 5, 6] rfl)
  · skip
    refine z_lconst E (z := 1) dL_law_599 (by decide) ?_
    refine z_eql (y := if GE (48 * m + k) ≠ a ∨ US (48 * m + k) ≠ b then 1 else 0) (by have h9 := c_596; split at h9; rw [if_pos (by assumption)]; exact absurd rfl h9) ?_
    refine z_goto (tgt := 604) E dL_law_600 (by decide) ?_
    refine z_lcmp E dL_law_604 ?_
    refine z_if_eq (tgt := 610) E dL_law_605 (by decide) (lcI_rng _ _) (fun c_605 => ?_) (fun c_605 => absurd c_605 (by rw [lcI_self]; decide))
    refine z_goto (tgt := 1502) E dL_law_610 (by decide) ?_
    refine W.cs (cells' := cl9 + ((0) + (0))) (slots' := sl9 + ((0) + (0))) (by omega) (by omega) ?_
    exact kk _ _ _ G (lv_sub hl [2, 3, 4, 5, 6] rfl)

set_option maxHeartbeats 4000000 in
set_option maxRecDepth 100000 in
theorem s_meter_0 {pp : Program} {l : Launch} {ee : Env} {ss : State} {mm : MethodId} {bl : List Frame} {me : Method} {co : Code} {AA : Nat → Prop} {H : Heap} {locs : List Loc} {ls : Array Slot} {Q9 : State → Prop} {D : va_G} {k4 : Nat → ClassId} {bs Ls : Nat} {xs : Nat → Int32} {cl9 sl9 : Nat} (hl9 : l.stackTraces = false) (E : zE pp mm co cL_law 9 ss #[Value.ref bs] RL D k4) (X : zEL ss AA) (S9 : zSc bs Ls xs ss AA) (i : Nat) (hi5 : i + 4 < Ls) (lo lnow lsl lcl lba ldu nsh nrk h1 r1 q1 h2 r2 q2 : Nat) (ta : Nat → Nat) (sa : Nat → Nat → Nat) (n p st : Nat) (cc bc pot gr bk : Int) (nw bal due : Nat → Int) (S1 S2 : sS) (tx : Nat → Nat → Int) (sg : Nat → Nat → Nat → Int) (m : Int) (k : Int) (a : Int) (b : Int) (mo mnw mte mge mus mco mfl mba mdu : Nat) (th btw bhd : Int) (NW TE GE US CO FL BA DU : Nat → Int) (ao : Nat) (O : Nat → Int) (hX : xOK n p st bc nw S1 S2 tx sg) (hm : -2147483648 ≤ m ∧ m ≤ 2147483647 ∧ (m < 0 ∨ (n : Int) ≤ m)) (hn9 : n ≤ 6) (hp9 : p ≤ 48) (hs9 : st ≤ 48) (hcc : rng cc) (hb9 : 0 ≤ bc ∧ bc ≤ 20000) (hx1 : (xs (i + 1)).toInt = m) (hx2 : (xs (i + 2)).toInt = k) (hx3 : (xs (i + 3)).toInt = a) (hx4 : (xs (i + 4)).toInt = b) (hc9 : cl9 + ((1) + (0)) ≤ room_1.cells) (hs99 : sl9 + ((6) + (0)) ≤ room_1.slots) (G : zG D AA ss.heap ((mo, .inr (5, [.int (iI (th)), .int (iI (((n : Nat) : Int))), .ref mnw, .ref mte, .ref mge, .ref mus, .int (iI (((p : Nat) : Int))), .int (iI (((st : Nat) : Int))), .int (iI (cc)), .int (iI (bc)), .ref mco, .ref mfl, .ref mba, .ref mdu, .long (lI (pot)), .long (lI (gr)), .long (lI (bk)), .int (iI (btw)), .int (iI (bhd))])) :: (mnw, .inl (k4 0, 19, .inl (fun i9 => iI (NW i9)))) :: (mte, .inl (k4 0, 912, .inl (fun i9 => iI (TE i9)))) :: (mge, .inl (k4 0, 288, .inl (fun i9 => iI (GE i9)))) :: (mus, .inl (k4 0, 288, .inl (fun i9 => iI (US i9)))) :: (mco, .inl (k4 0, 48, .inl (fun i9 => iI (CO i9)))) :: (mfl, .inl (k4 0, 2304, .inl (fun i9 => iI (FL i9)))) :: (mba, .inl (k4 1, 6, .inr (.inl (fun i9 => lI (BA i9))))) :: (mdu, .inl (k4 1, 6, .inr (.inl (fun i9 => lI (DU i9))))) :: (ao, .inl (k4 1, 1, .inr (.inl (fun i9 => lI (O i9))))) :: (xW k4 lo lnow lsl lcl lba ldu nsh nrk h1 r1 q1 h2 r2 q2 ta sa n p st cc bc pot gr bk nw bal due S1 S2 tx sg)) H locs) (hl : lv_has ls 9 [(0, .ref bs), (1, .ref lo), (2, .ref mo), (3, .ref ao), (4, .int (iI (((i : Nat) : Int))))]) (kk : ∀ (H : Heap) (locs : List Loc) (ls : Array Slot), zG D AA ss.heap ((mo, .inr (5, [.int (iI (1)), .int (iI (((n : Nat) : Int))), .ref mnw, .ref mte, .ref mge, .ref mus, .int (iI (((p : Nat) : Int))), .int (iI (((st : Nat) : Int))), .int (iI (cc)), .int (iI (bc)), .ref mco, .ref mfl, .ref mba, .ref mdu, .long (lI (pot)), .long (lI (gr)), .long (lI (bk)), .int (iI (btw)), .int (iI (bhd))])) :: (mnw, .inl (k4 0, 19, .inl (fun i9 => iI (NW i9)))) :: (mte, .inl (k4 0, 912, .inl (fun i9 => iI (TE i9)))) :: (mge, .inl (k4 0, 288, .inl (fun i9 => iI (GE i9)))) :: (mus, .inl (k4 0, 288, .inl (fun i9 => iI (US i9)))) :: (mco, .inl (k4 0, 48, .inl (fun i9 => iI (CO i9)))) :: (mfl, .inl (k4 0, 2304, .inl (fun i9 => iI (FL i9)))) :: (mba, .inl (k4 1, 6, .inr (.inl (fun i9 => lI (BA i9))))) :: (mdu, .inl (k4 1, 6, .inr (.inl (fun i9 => lI (DU i9))))) :: (ao, .inl (k4 1, 1, .inr (.inl (fun i9 => lI (O i9))))) :: (xW k4 lo lnow lsl lcl lba ldu nsh nrk h1 r1 q1 h2 r2 q2 ta sa n p st cc bc pot gr bk nw bal due S1 S2 tx sg)) H locs → lv_has ls 9 [(0, .ref bs), (1, .ref lo), (2, .ref mo), (3, .ref ao), (4, .int (iI (((i : Nat) : Int))))] → W pp l ee room_1 ss mm #[Value.ref bs] bl me co H locs (cl9 + ((1) + (0))) (sl9 + ((6) + (0))) Q9 (F0 mm 1502 ls [])) : W pp l ee room_1 ss mm #[Value.ref bs] bl me co H locs (cl9) (sl9) Q9 (F0 mm 514 ls []) := by
  refine z_aload_n E hl 1 rfl dL_law_514 rfl ?_
  refine z_aload_n E hl 0 rfl dL_law_515 rfl ?_
  refine z_iload E hl 4 rfl dL_law_516 ?_
  refine z_iconst E dL_law_518 ?_
  refine z_iadd E dL_law_519 ?_
  refine z_sld E S9 G (i + 1) (by omega) (by omega) dL_law_520 ?_
  refine z_eq (y := m) hx1 ?_
  refine z_aload_n E hl 0 rfl dL_law_521 rfl ?_
  refine z_iload E hl 4 rfl dL_law_522 ?_
  refine z_iconst E dL_law_524 ?_
  refine z_iadd E dL_law_525 ?_
  refine z_sld E S9 G (i + 2) (by omega) (by omega) dL_law_526 ?_
  refine z_eq (y := k) hx2 ?_
  refine z_aload_n E hl 0 rfl dL_law_527 rfl ?_
  refine z_iload E hl 4 rfl dL_law_528 ?_
  refine z_iconst E dL_law_530 ?_
  refine z_iadd E dL_law_531 ?_
  refine z_sld E S9 G (i + 3) (by omega) (by omega) dL_law_532 ?_
  refine z_eq (y := a) hx3 ?_
  refine z_aload_n E hl 0 rfl dL_law_533 rfl ?_
  refine z_iload E hl 4 rfl dL_law_534 ?_
  refine z_iconst E dL_law_536 ?_
  refine z_iadd E dL_law_537 ?_
  refine z_sld E S9 G (i + 4) (by omega) (by omega) dL_law_538 ?_
  refine z_eq (y := b) hx4 ?_
  refine z_aload_n E hl 3 rfl dL_law_539 rfl ?_
  refine z_callL (n := 6) (pre := [(mo, .inr (5, [.int (iI (th)), .int (iI (((n : Nat) : Int))), .ref mnw, .ref mte, .ref mge, .ref mus, .int (iI (((p : Nat) : Int))), .int (iI (((st : Nat) : Int))), .int (iI (cc)), .int (iI (bc)), .ref mco, .ref mfl, .ref mba, .ref mdu, .long (lI (pot)), .long (lI (gr)), .long (lI (bk)), .int (iI (btw)), .int (iI (bhd))])), (mnw, .inl (k4 0, 19, .inl (fun i9 => iI (NW i9)))), (mte, .inl (k4 0, 912, .inl (fun i9 => iI (TE i9)))), (mge, .inl (k4 0, 288, .inl (fun i9 => iI (GE i9)))), (mus, .inl (k4 0, 288, .inl (fun i9 => iI (US i9)))), (mco, .inl (k4 0, 48, .inl (fun i9 => iI (CO i9)))), (mfl, .inl (k4 0, 2304, .inl (fun i9 => iI (FL i9)))), (mba, .inl (k4 1, 6, .inr (.inl (fun i9 => lI (BA i9))))), (mdu, .inl (k4 1, 6, .inr (.inl (fun i9 => lI (DU i9)))))]) E X G hl.1 (w_meter_0 l hl9 D k4 lo lnow lsl lcl lba ldu nsh nrk h1 r1 q1 h2 r2 q2 ta sa n p st cc bc pot gr bk nw bal due S1 S2 tx sg m k a b ao O hX hm) zw_212 zw_213 zw_74 zw_214 (by decide +kernel) (by decide +kernel) ⟨rfl, rfl, Nat.le_of_ble_eq_true rfl, Nat.le_of_ble_eq_true rfl⟩ rfl rfl (Nat.le_of_ble_eq_true rfl) dL_law_540 ⟨by omega, by omega⟩ (fun v9 w9 H locs hq G => ?_)
  obtain ⟨rfl, rfl⟩ := hq
  refine W.eq (g2 := F0 mm 543 ls [.int (iI (1))]) rfl ?_
  have G : zG D AA ss.heap ((mo, .inr (5, [.int (iI (th)), .int (iI (((n : Nat) : Int))), .ref mnw, .ref mte, .ref mge, .ref mus, .int (iI (((p : Nat) : Int))), .int (iI (((st : Nat) : Int))), .int (iI (cc)), .int (iI (bc)), .ref mco, .ref mfl, .ref mba, .ref mdu, .long (lI (pot)), .long (lI (gr)), .long (lI (bk)), .int (iI (btw)), .int (iI (bhd))])) :: (mnw, .inl (k4 0, 19, .inl (fun i9 => iI (NW i9)))) :: (mte, .inl (k4 0, 912, .inl (fun i9 => iI (TE i9)))) :: (mge, .inl (k4 0, 288, .inl (fun i9 => iI (GE i9)))) :: (mus, .inl (k4 0, 288, .inl (fun i9 => iI (US i9)))) :: (mco, .inl (k4 0, 48, .inl (fun i9 => iI (CO i9)))) :: (mfl, .inl (k4 0, 2304, .inl (fun i9 => iI (FL i9)))) :: (mba, .inl (k4 1, 6, .inr (.inl (fun i9 => lI (BA i9))))) :: (mdu, .inl (k4 1, 6, .inr (.inl (fun i9 => lI (DU i9))))) :: (ao, .inl (k4 1, 1, .inr (.inl (fun i9 => lI (O i9))))) :: (xW k4 lo lnow lsl lcl lba ldu nsh nrk h1 r1 q1 h2 r2 q2 ta sa n p st cc bc pot gr bk nw bal due S1 S2 tx sg)) H locs := G
  refine z_istore E [(5, .int (iI (1))), (0, .ref bs), (1, .ref lo), (2, .ref mo), (3, .ref ao), (4, .int (iI (((i : Nat) : Int))))] dL_law_543 hl (by decide) rfl (fun ls hl => ?_)
  refine z_aload_n E hl 3 rfl dL_law_545 rfl ?_
  refine z_aload_n E hl 1 rfl dL_law_546 rfl ?_
  refine z_iload E hl 5 rfl dL_law_547 ?_
  refine z_iconst E dL_law_549 ?_
  refine z_iadd E dL_law_550 ?_
  refine z_sld E S9 G (i + 1) (by omega) (by omega) dL_law_551 ?_
  refine z_eq (y := m) hx1 ?_
  refine z_aload_n E hl 1 rfl dL_law_552 rfl ?_
  refine z_iload E hl 5 rfl dL_law_553 ?_
  refine z_iconst E dL_law_555 ?_
  refine z_iadd E dL_law_556 ?_
  refine z_sld E S9 G (i + 2) (by omega) (by omega) dL_law_557 ?_
  refine z_eq (y := k) hx2 ?_
  refine z_aload_n E hl 1 rfl dL_law_558 rfl ?_
  refine z_iload E hl 5 rfl dL_law_559 ?_
  refine z_iconst E dL_law_561 ?_
  refine z_iadd E dL_law_562 ?_
  refine z_sld E S9 G (i + 3) (by omega) (by omega) dL_law_563 ?_
  refine z_eq (y := a) hx3 ?_
  refine z_aload_n E hl 1 rfl dL_law_564 rfl ?_
  refine z_iload E hl 5 rfl dL_law_565 ?_
  refine z_iconst E dL_law_567 ?_
  refine z_iadd E dL_law_568 ?_
  refine z_sld E S9 G (i + 4) (by omega) (by omega) dL_law_569 ?_
  refine z_eq (y := b) hx4 ?_
  refine z_callV E G hl.1 (c_X5_meter_0 l D k4 mo mnw mte mge mus mco mfl mba mdu th n p st cc bc pot gr bk btw bhd m k a b (by omega) (by omega)) kV_L_117 ⟨rfl, rfl, Nat.le_of_ble_eq_true rfl, Nat.le_of_ble_eq_true rfl⟩ [0] rfl (by decide) 0 5 rfl rfl rfl rfl rfl (Nat.le_of_ble_eq_true rfl) dL_law_570 ⟨by omega, by omega⟩ (fun v9 w9 H locs hq G => ?_)
  obtain ⟨rfl, rfl⟩ := hq
  refine W.eq (g2 := F0 mm 573 ls [.int (iI (0))]) rfl ?_
  have G : zG D AA ss.heap ((mo, .inr (5, [.int (iI (1)), .int (iI (((n : Nat) : Int))), .ref mnw, .ref mte, .ref mge, .ref mus, .int (iI (((p : Nat) : Int))), .int (iI (((st : Nat) : Int))), .int (iI (cc)), .int (iI (bc)), .ref mco, .ref mfl, .ref mba, .ref mdu, .long (lI (pot)), .long (lI (gr)), .long (lI (bk)), .int (iI (btw)), .int (iI (bhd))])) :: (mnw, .inl (k4 0, 19, .inl (fun i9 => iI (NW i9)))) :: (mte, .inl (k4 0, 912, .inl (fun i9 => iI (TE i9)))) :: (mge, .inl (k4 0, 288, .inl (fun i9 => iI (GE i9)))) :: (mus, .inl (k4 0, 288, .inl (fun i9 => iI (US i9)))) :: (mco, .inl (k4 0, 48, .inl (fun i9 => iI (CO i9)))) :: (mfl, .inl (k4 0, 2304, .inl (fun i9 => iI (FL i9)))) :: (mba, .inl (k4 1, 6, .inr (.inl (fun i9 => lI (BA i9))))) :: (mdu, .inl (k4 1, 6, .inr (.inl (fun i9 => lI (DU i9))))) :: (ao, .inl (k4 1, 1, .inr (.inl (fun i9 => lI (O i9))))) :: (xW k4 lo lnow lsl lcl lba ldu nsh nrk h1 r1 q1 h2 r2 q2 ta sa n p st cc bc pot gr bk nw bal due S1 S2 tx sg)) H locs := G
  refine z_istore E [(6, .int (iI (0))), (5, .int (iI (1))), (0, .ref bs), (1, .ref lo), (2, .ref mo), (3, .ref ao), (4, .int (iI (((i : Nat) : Int))))] dL_law_573 hl (by decide) rfl (fun ls hl => ?_)
  refine z_aload_n E hl 4 rfl dL_law_575 rfl ?_
  refine z_callV E G hl.1 (c_X5_thrown l D k4 mo mnw mte mge mus mco mfl mba mdu 1 n p st cc bc pot gr bk btw bhd ) kV_L_89 ⟨rfl, rfl, Nat.le_of_ble_eq_true rfl, Nat.le_of_ble_eq_true rfl⟩ [0] rfl (by decide) 0 5 rfl rfl rfl rfl rfl (Nat.le_of_ble_eq_true rfl) dL_law_576 ⟨by omega, by omega⟩ (fun v9 w9 H locs hq G => ?_)
  obtain ⟨rfl, rfl⟩ := hq
  refine W.eq (g2 := F0 mm 579 ls [.int (iI (1))]) rfl ?_
  have G : zG D AA ss.heap ((mo, .inr (5, [.int (iI (1)), .int (iI (((n : Nat) : Int))), .ref mnw, .ref mte, .ref mge, .ref mus, .int (iI (((p : Nat) : Int))), .int (iI (((st : Nat) : Int))), .int (iI (cc)), .int (iI (bc)), .ref mco, .ref mfl, .ref mba, .ref mdu, .long (lI (pot)), .long (lI (gr)), .long (lI (bk)), .int (iI (btw)), .int (iI (bhd))])) :: (mnw, .inl (k4 0, 19, .inl (fun i9 => iI (NW i9)))) :: (mte, .inl (k4 0, 912, .inl (fun i9 => iI (TE i9)))) :: (mge, .inl (k4 0, 288, .inl (fun i9 => iI (GE i9)))) :: (mus, .inl (k4 0, 288, .inl (fun i9 => iI (US i9)))) :: (mco, .inl (k4 0, 48, .inl (fun i9 => iI (CO i9)))) :: (mfl, .inl (k4 0, 2304, .inl (fun i9 => iI (FL i9)))) :: (mba, .inl (k4 1, 6, .inr (.inl (fun i9 => lI (BA i9))))) :: (mdu, .inl (k4 1, 6, .inr (.inl (fun i9 => lI (DU i9))))) :: (ao, .inl (k4 1, 1, .inr (.inl (fun i9 => lI (O i9))))) :: (xW k4 lo lnow lsl lcl lba ldu nsh nrk h1 r1 q1 h2 r2 q2 ta sa n p st cc bc pot gr bk nw bal due S1 S2 tx sg)) H locs := G
  refine z_iload E hl 1 rfl dL_law_579 ?_
  refine z_icmp_eq (tgt := 586) E dL_law_581 (by decide) (by decide) (by decide) (fun c_581 => ?_) (fun c_581 => absurd c_581 (by decide))
  refine z_iload E hl 1 rfl dL_law_586 ?_
  refine z_if_ne (tgt := 610) E dL_law_588 (by decide) (by decide) (fun c_588 => ?_) (fun c_588 => absurd c_588 (by decide))
  refine z_goto (tgt := 1502) E dL_law_610 (by decide) ?_
  refine W.cs (cells' := cl9 + ((1) + (0))) (slots' := sl9 + ((6) + (0))) (by omega) (by omega) ?_
  exact kk _ _ _ G (lv_sub hl [2, 3, 4, 5, 6] rfl)

set_option maxHeartbeats 4000000 in
set_option maxRecDepth 100000 in
theorem s_meter_1 {pp : Program} {l : Launch} {ee : Env} {ss : State} {mm : MethodId} {bl : List Frame} {me : Method} {co : Code} {AA : Nat → Prop} {H : Heap} {locs : List Loc} {ls : Array Slot} {Q9 : State → Prop} {D : va_G} {k4 : Nat → ClassId} {bs Ls : Nat} {xs : Nat → Int32} {cl9 sl9 : Nat} (hl9 : l.stackTraces = false) (E : zE pp mm co cL_law 9 ss #[Value.ref bs] RL D k4) (X : zEL ss AA) (S9 : zSc bs Ls xs ss AA) (i : Nat) (hi5 : i + 4 < Ls) (lo lnow lsl lcl lba ldu nsh nrk h1 r1 q1 h2 r2 q2 : Nat) (ta : Nat → Nat) (sa : Nat → Nat → Nat) (n p st : Nat) (cc bc pot gr bk : Int) (nw bal due : Nat → Int) (S1 S2 : sS) (tx : Nat → Nat → Int) (sg : Nat → Nat → Nat → Int) (m : Nat) (k : Int) (a : Int) (b : Int) (mo mnw mte mge mus mco mfl mba mdu : Nat) (th btw bhd : Int) (NW TE GE US CO FL BA DU : Nat → Int) (ao : Nat) (O : Nat → Int) (hX : xOK n p st bc nw S1 S2 tx sg) (hm : m < n) (hk : -2147483648 ≤ k ∧ k ≤ 2147483647 ∧ (k < 0 ∨ 47 < k)) (hn9 : n ≤ 6) (hp9 : p ≤ 48) (hs9 : st ≤ 48) (hcc : rng cc) (hb9 : 0 ≤ bc ∧ bc ≤ 20000) (hx1 : (xs (i + 1)).toInt = ((m : Nat) : Int)) (hx2 : (xs (i + 2)).toInt = k) (hx3 : (xs (i + 3)).toInt = a) (hx4 : (xs (i + 4)).toInt = b) (hc9 : cl9 + ((1) + (0)) ≤ room_1.cells) (hs99 : sl9 + ((6) + (0)) ≤ room_1.slots) (G : zG D AA ss.heap ((mo, .inr (5, [.int (iI (th)), .int (iI (((n : Nat) : Int))), .ref mnw, .ref mte, .ref mge, .ref mus, .int (iI (((p : Nat) : Int))), .int (iI (((st : Nat) : Int))), .int (iI (cc)), .int (iI (bc)), .ref mco, .ref mfl, .ref mba, .ref mdu, .long (lI (pot)), .long (lI (gr)), .long (lI (bk)), .int (iI (btw)), .int (iI (bhd))])) :: (mnw, .inl (k4 0, 19, .inl (fun i9 => iI (NW i9)))) :: (mte, .inl (k4 0, 912, .inl (fun i9 => iI (TE i9)))) :: (mge, .inl (k4 0, 288, .inl (fun i9 => iI (GE i9)))) :: (mus, .inl (k4 0, 288, .inl (fun i9 => iI (US i9)))) :: (mco, .inl (k4 0, 48, .inl (fun i9 => iI (CO i9)))) :: (mfl, .inl (k4 0, 2304, .inl (fun i9 => iI (FL i9)))) :: (mba, .inl (k4 1, 6, .inr (.inl (fun i9 => lI (BA i9))))) :: (mdu, .inl (k4 1, 6, .inr (.inl (fun i9 => lI (DU i9))))) :: (ao, .inl (k4 1, 1, .inr (.inl (fun i9 => lI (O i9))))) :: (xW k4 lo lnow lsl lcl lba ldu nsh nrk h1 r1 q1 h2 r2 q2 ta sa n p st cc bc pot gr bk nw bal due S1 S2 tx sg)) H locs) (hl : lv_has ls 9 [(0, .ref bs), (1, .ref lo), (2, .ref mo), (3, .ref ao), (4, .int (iI (((i : Nat) : Int))))]) (kk : ∀ (H : Heap) (locs : List Loc) (ls : Array Slot), zG D AA ss.heap ((mo, .inr (5, [.int (iI (1)), .int (iI (((n : Nat) : Int))), .ref mnw, .ref mte, .ref mge, .ref mus, .int (iI (((p : Nat) : Int))), .int (iI (((st : Nat) : Int))), .int (iI (cc)), .int (iI (bc)), .ref mco, .ref mfl, .ref mba, .ref mdu, .long (lI (pot)), .long (lI (gr)), .long (lI (bk)), .int (iI (btw)), .int (iI (bhd))])) :: (mnw, .inl (k4 0, 19, .inl (fun i9 => iI (NW i9)))) :: (mte, .inl (k4 0, 912, .inl (fun i9 => iI (TE i9)))) :: (mge, .inl (k4 0, 288, .inl (fun i9 => iI (GE i9)))) :: (mus, .inl (k4 0, 288, .inl (fun i9 => iI (US i9)))) :: (mco, .inl (k4 0, 48, .inl (fun i9 => iI (CO i9)))) :: (mfl, .inl (k4 0, 2304, .inl (fun i9 => iI (FL i9)))) :: (mba, .inl (k4 1, 6, .inr (.inl (fun i9 => lI (BA i9))))) :: (mdu, .inl (k4 1, 6, .inr (.inl (fun i9 => lI (DU i9))))) :: (ao, .inl (k4 1, 1, .inr (.inl (fun i9 => lI (O i9))))) :: (xW k4 lo lnow lsl lcl lba ldu nsh nrk h1 r1 q1 h2 r2 q2 ta sa n p st cc bc pot gr bk nw bal due S1 S2 tx sg)) H locs → lv_has ls 9 [(0, .ref bs), (1, .ref lo), (2, .ref mo), (3, .ref ao), (4, .int (iI (((i : Nat) : Int))))] → W pp l ee room_1 ss mm #[Value.ref bs] bl me co H locs (cl9 + ((1) + (0))) (sl9 + ((6) + (0))) Q9 (F0 mm 1502 ls [])) : W pp l ee room_1 ss mm #[Value.ref bs] bl me co H locs (cl9) (sl9) Q9 (F0 mm 514 ls []) := by
  refine z_aload_n E hl 1 rfl dL_law_514 rfl ?_
  refine z_aload_n E hl 0 rfl dL_law_515 rfl ?_
  refine z_iload E hl 4 rfl dL_law_516 ?_
  refine z_iconst E dL_law_518 ?_
  refine z_iadd E dL_law_519 ?_
  refine z_sld E S9 G (i + 1) (by omega) (by omega) dL_law_520 ?_
  refine z_eq (y := ((m : Nat) : Int)) hx1 ?_
  refine z_aload_n E hl 0 rfl dL_law_521 rfl ?_
  refine z_iload E hl 4 rfl dL_law_522 ?_
  refine z_iconst E dL_law_524 ?_
  refine z_iadd E dL_law_525 ?_
  refine z_sld E S9 G (i + 2) (by omega) (by omega) dL_law_526 ?_
  refine z_eq (y := k) hx2 ?_
  refine z_aload_n E hl 0 rfl dL_law_527 rfl ?_
  refine z_iload E hl 4 rfl dL_law_528 ?_
  refine z_iconst E dL_law_530 ?_
  refine z_iadd E dL_law_531 ?_
  refine z_sld E S9 G (i + 3) (by omega) (by omega) dL_law_532 ?_
  refine z_eq (y := a) hx3 ?_
  refine z_aload_n E hl 0 rfl dL_law_533 rfl ?_
  refine z_iload E hl 4 rfl dL_law_534 ?_
  refine z_iconst E dL_law_536 ?_
  refine z_iadd E dL_law_537 ?_
  refine z_sld E S9 G (i + 4) (by omega) (by omega) dL_law_538 ?_
  refine z_eq (y := b) hx4 ?_
  refine z_aload_n E hl 3 rfl dL_law_539 rfl ?_
  refine z_callL (n := 6) (pre := [(mo, .inr (5, [.int (iI (th)), .int (iI (((n : Nat) : Int))), .ref mnw, .ref mte, .ref mge, .ref mus, .int (iI (((p : Nat) : Int))), .int (iI (((st : Nat) : Int))), .int (iI (cc)), .int (iI (bc)), .ref mco, .ref mfl, .ref mba, .ref mdu, .long (lI (pot)), .long (lI (gr)), .long (lI (bk)), .int (iI (btw)), .int (iI (bhd))])), (mnw, .inl (k4 0, 19, .inl (fun i9 => iI (NW i9)))), (mte, .inl (k4 0, 912, .inl (fun i9 => iI (TE i9)))), (mge, .inl (k4 0, 288, .inl (fun i9 => iI (GE i9)))), (mus, .inl (k4 0, 288, .inl (fun i9 => iI (US i9)))), (mco, .inl (k4 0, 48, .inl (fun i9 => iI (CO i9)))), (mfl, .inl (k4 0, 2304, .inl (fun i9 => iI (FL i9)))), (mba, .inl (k4 1, 6, .inr (.inl (fun i9 => lI (BA i9))))), (mdu, .inl (k4 1, 6, .inr (.inl (fun i9 => lI (DU i9)))))]) E X G hl.1 (w_meter_1 l hl9 D k4 lo lnow lsl lcl lba ldu nsh nrk h1 r1 q1 h2 r2 q2 ta sa n p st cc bc pot gr bk nw bal due S1 S2 tx sg m k a b ao O hX hm hk) zw_212 zw_213 zw_74 zw_214 (by decide +kernel) (by decide +kernel) ⟨rfl, rfl, Nat.le_of_ble_eq_true rfl, Nat.le_of_ble_eq_true rfl⟩ rfl rfl (Nat.le_of_ble_eq_true rfl) dL_law_540 ⟨by omega, by omega⟩ (fun v9 w9 H locs hq G => ?_)
  obtain ⟨rfl, rfl⟩ := hq
  refine W.eq (g2 := F0 mm 543 ls [.int (iI (1))]) rfl ?_
  have G : zG D AA ss.heap ((mo, .inr (5, [.int (iI (th)), .int (iI (((n : Nat) : Int))), .ref mnw, .ref mte, .ref mge, .ref mus, .int (iI (((p : Nat) : Int))), .int (iI (((st : Nat) : Int))), .int (iI (cc)), .int (iI (bc)), .ref mco, .ref mfl, .ref mba, .ref mdu, .long (lI (pot)), .long (lI (gr)), .long (lI (bk)), .int (iI (btw)), .int (iI (bhd))])) :: (mnw, .inl (k4 0, 19, .inl (fun i9 => iI (NW i9)))) :: (mte, .inl (k4 0, 912, .inl (fun i9 => iI (TE i9)))) :: (mge, .inl (k4 0, 288, .inl (fun i9 => iI (GE i9)))) :: (mus, .inl (k4 0, 288, .inl (fun i9 => iI (US i9)))) :: (mco, .inl (k4 0, 48, .inl (fun i9 => iI (CO i9)))) :: (mfl, .inl (k4 0, 2304, .inl (fun i9 => iI (FL i9)))) :: (mba, .inl (k4 1, 6, .inr (.inl (fun i9 => lI (BA i9))))) :: (mdu, .inl (k4 1, 6, .inr (.inl (fun i9 => lI (DU i9))))) :: (ao, .inl (k4 1, 1, .inr (.inl (fun i9 => lI (O i9))))) :: (xW k4 lo lnow lsl lcl lba ldu nsh nrk h1 r1 q1 h2 r2 q2 ta sa n p st cc bc pot gr bk nw bal due S1 S2 tx sg)) H locs := G
  refine z_istore E [(5, .int (iI (1))), (0, .ref bs), (1, .ref lo), (2, .ref mo), (3, .ref ao), (4, .int (iI (((i : Nat) : Int))))] dL_law_543 hl (by decide) rfl (fun ls hl => ?_)
  refine z_aload_n E hl 3 rfl dL_law_545 rfl ?_
  refine z_aload_n E hl 1 rfl dL_law_546 rfl ?_
  refine z_iload E hl 5 rfl dL_law_547 ?_
  refine z_iconst E dL_law_549 ?_
  refine z_iadd E dL_law_550 ?_
  refine z_sld E S9 G (i + 1) (by omega) (by omega) dL_law_551 ?_
  refine z_eq (y := ((m : Nat) : Int)) hx1 ?_
  refine z_aload_n E hl 1 rfl dL_law_552 rfl ?_
  refine z_iload E hl 5 rfl dL_law_553 ?_
  refine z_iconst E dL_law_555 ?_
  refine z_iadd E dL_law_556 ?_
  refine z_sld E S9 G (i + 2) (by omega) (by omega) dL_law_557 ?_
  refine z_eq (y := k) hx2 ?_
  refine z_aload_n E hl 1 rfl dL_law_558 rfl ?_
  refine z_iload E hl 5 rfl dL_law_559 ?_
  refine z_iconst E dL_law_561 ?_
  refine z_iadd E dL_law_562 ?_
  refine z_sld E S9 G (i + 3) (by omega) (by omega) dL_law_563 ?_
  refine z_eq (y := a) hx3 ?_
  refine z_aload_n E hl 1 rfl dL_law_564 rfl ?_
  refine z_iload E hl 5 rfl dL_law_565 ?_
  refine z_iconst E dL_law_567 ?_
  refine z_iadd E dL_law_568 ?_
  refine z_sld E S9 G (i + 4) (by omega) (by omega) dL_law_569 ?_
  refine z_eq (y := b) hx4 ?_
  refine z_callV E G hl.1 (c_X5_meter_1 l D k4 mo mnw mte mge mus mco mfl mba mdu th n p st cc bc pot gr bk btw bhd m k a b (by omega) (by omega) (by omega)) kV_L_117 ⟨rfl, rfl, Nat.le_of_ble_eq_true rfl, Nat.le_of_ble_eq_true rfl⟩ [0] rfl (by decide) 0 5 rfl rfl rfl rfl rfl (Nat.le_of_ble_eq_true rfl) dL_law_570 ⟨by omega, by omega⟩ (fun v9 w9 H locs hq G => ?_)
  obtain ⟨rfl, rfl⟩ := hq
  refine W.eq (g2 := F0 mm 573 ls [.int (iI (0))]) rfl ?_
  have G : zG D AA ss.heap ((mo, .inr (5, [.int (iI (1)), .int (iI (((n : Nat) : Int))), .ref mnw, .ref mte, .ref mge, .ref mus, .int (iI (((p : Nat) : Int))), .int (iI (((st : Nat) : Int))), .int (iI (cc)), .int (iI (bc)), .ref mco, .ref mfl, .ref mba, .ref mdu, .long (lI (pot)), .long (lI (gr)), .long (lI (bk)), .int (iI (btw)), .int (iI (bhd))])) :: (mnw, .inl (k4 0, 19, .inl (fun i9 => iI (NW i9)))) :: (mte, .inl (k4 0, 912, .inl (fun i9 => iI (TE i9)))) :: (mge, .inl (k4 0, 288, .inl (fun i9 => iI (GE i9)))) :: (mus, .inl (k4 0, 288, .inl (fun i9 => iI (US i9)))) :: (mco, .inl (k4 0, 48, .inl (fun i9 => iI (CO i9)))) :: (mfl, .inl (k4 0, 2304, .inl (fun i9 => iI (FL i9)))) :: (mba, .inl (k4 1, 6, .inr (.inl (fun i9 => lI (BA i9))))) :: (mdu, .inl (k4 1, 6, .inr (.inl (fun i9 => lI (DU i9))))) :: (ao, .inl (k4 1, 1, .inr (.inl (fun i9 => lI (O i9))))) :: (xW k4 lo lnow lsl lcl lba ldu nsh nrk h1 r1 q1 h2 r2 q2 ta sa n p st cc bc pot gr bk nw bal due S1 S2 tx sg)) H locs := G
  refine z_istore E [(6, .int (iI (0))), (5, .int (iI (1))), (0, .ref bs), (1, .ref lo), (2, .ref mo), (3, .ref ao), (4, .int (iI (((i : Nat) : Int))))] dL_law_573 hl (by decide) rfl (fun ls hl => ?_)
  refine z_aload_n E hl 4 rfl dL_law_575 rfl ?_
  refine z_callV E G hl.1 (c_X5_thrown l D k4 mo mnw mte mge mus mco mfl mba mdu 1 n p st cc bc pot gr bk btw bhd ) kV_L_89 ⟨rfl, rfl, Nat.le_of_ble_eq_true rfl, Nat.le_of_ble_eq_true rfl⟩ [0] rfl (by decide) 0 5 rfl rfl rfl rfl rfl (Nat.le_of_ble_eq_true rfl) dL_law_576 ⟨by omega, by omega⟩ (fun v9 w9 H locs hq G => ?_)
  obtain ⟨rfl, rfl⟩ := hq
  refine W.eq (g2 := F0 mm 579 ls [.int (iI (1))]) rfl ?_
  have G : zG D AA ss.heap ((mo, .inr (5, [.int (iI (1)), .int (iI (((n : Nat) : Int))), .ref mnw, .ref mte, .ref mge, .ref mus, .int (iI (((p : Nat) : Int))), .int (iI (((st : Nat) : Int))), .int (iI (cc)), .int (iI (bc)), .ref mco, .ref mfl, .ref mba, .ref mdu, .long (lI (pot)), .long (lI (gr)), .long (lI (bk)), .int (iI (btw)), .int (iI (bhd))])) :: (mnw, .inl (k4 0, 19, .inl (fun i9 => iI (NW i9)))) :: (mte, .inl (k4 0, 912, .inl (fun i9 => iI (TE i9)))) :: (mge, .inl (k4 0, 288, .inl (fun i9 => iI (GE i9)))) :: (mus, .inl (k4 0, 288, .inl (fun i9 => iI (US i9)))) :: (mco, .inl (k4 0, 48, .inl (fun i9 => iI (CO i9)))) :: (mfl, .inl (k4 0, 2304, .inl (fun i9 => iI (FL i9)))) :: (mba, .inl (k4 1, 6, .inr (.inl (fun i9 => lI (BA i9))))) :: (mdu, .inl (k4 1, 6, .inr (.inl (fun i9 => lI (DU i9))))) :: (ao, .inl (k4 1, 1, .inr (.inl (fun i9 => lI (O i9))))) :: (xW k4 lo lnow lsl lcl lba ldu nsh nrk h1 r1 q1 h2 r2 q2 ta sa n p st cc bc pot gr bk nw bal due S1 S2 tx sg)) H locs := G
  refine z_iload E hl 1 rfl dL_law_579 ?_
  refine z_icmp_eq (tgt := 586) E dL_law_581 (by decide) (by decide) (by decide) (fun c_581 => ?_) (fun c_581 => absurd c_581 (by decide))
  refine z_iload E hl 1 rfl dL_law_586 ?_
  refine z_if_ne (tgt := 610) E dL_law_588 (by decide) (by decide) (fun c_588 => ?_) (fun c_588 => absurd c_588 (by decide))
  refine z_goto (tgt := 1502) E dL_law_610 (by decide) ?_
  refine W.cs (cells' := cl9 + ((1) + (0))) (slots' := sl9 + ((6) + (0))) (by omega) (by omega) ?_
  exact kk _ _ _ G (lv_sub hl [2, 3, 4, 5, 6] rfl)

set_option maxHeartbeats 4000000 in
set_option maxRecDepth 100000 in
theorem s_meter_2 {pp : Program} {l : Launch} {ee : Env} {ss : State} {mm : MethodId} {bl : List Frame} {me : Method} {co : Code} {AA : Nat → Prop} {H : Heap} {locs : List Loc} {ls : Array Slot} {Q9 : State → Prop} {D : va_G} {k4 : Nat → ClassId} {bs Ls : Nat} {xs : Nat → Int32} {cl9 sl9 : Nat} (hl9 : l.stackTraces = false) (E : zE pp mm co cL_law 9 ss #[Value.ref bs] RL D k4) (X : zEL ss AA) (S9 : zSc bs Ls xs ss AA) (i : Nat) (hi5 : i + 4 < Ls) (lo lnow lsl lcl lba ldu nsh nrk h1 r1 q1 h2 r2 q2 : Nat) (ta : Nat → Nat) (sa : Nat → Nat → Nat) (n p st : Nat) (cc bc pot gr bk : Int) (nw bal due : Nat → Int) (S1 S2 : sS) (tx : Nat → Nat → Int) (sg : Nat → Nat → Nat → Int) (m : Nat) (k : Nat) (a : Int) (b : Int) (mo mnw mte mge mus mco mfl mba mdu : Nat) (th btw bhd : Int) (NW TE GE US CO FL BA DU : Nat → Int) (ao : Nat) (O : Nat → Int) (hX : xOK n p st bc nw S1 S2 tx sg) (hm : m < n) (hk : k < 48) (ha : -2147483648 ≤ a ∧ a ≤ 2147483647 ∧ (a < 0 ∨ 5000 < a)) (hn9 : n ≤ 6) (hp9 : p ≤ 48) (hs9 : st ≤ 48) (hcc : rng cc) (hb9 : 0 ≤ bc ∧ bc ≤ 20000) (hx1 : (xs (i + 1)).toInt = ((m : Nat) : Int)) (hx2 : (xs (i + 2)).toInt = ((k : Nat) : Int)) (hx3 : (xs (i + 3)).toInt = a) (hx4 : (xs (i + 4)).toInt = b) (hc9 : cl9 + ((1) + (0)) ≤ room_1.cells) (hs99 : sl9 + ((6) + (0)) ≤ room_1.slots) (G : zG D AA ss.heap ((mo, .inr (5, [.int (iI (th)), .int (iI (((n : Nat) : Int))), .ref mnw, .ref mte, .ref mge, .ref mus, .int (iI (((p : Nat) : Int))), .int (iI (((st : Nat) : Int))), .int (iI (cc)), .int (iI (bc)), .ref mco, .ref mfl, .ref mba, .ref mdu, .long (lI (pot)), .long (lI (gr)), .long (lI (bk)), .int (iI (btw)), .int (iI (bhd))])) :: (mnw, .inl (k4 0, 19, .inl (fun i9 => iI (NW i9)))) :: (mte, .inl (k4 0, 912, .inl (fun i9 => iI (TE i9)))) :: (mge, .inl (k4 0, 288, .inl (fun i9 => iI (GE i9)))) :: (mus, .inl (k4 0, 288, .inl (fun i9 => iI (US i9)))) :: (mco, .inl (k4 0, 48, .inl (fun i9 => iI (CO i9)))) :: (mfl, .inl (k4 0, 2304, .inl (fun i9 => iI (FL i9)))) :: (mba, .inl (k4 1, 6, .inr (.inl (fun i9 => lI (BA i9))))) :: (mdu, .inl (k4 1, 6, .inr (.inl (fun i9 => lI (DU i9))))) :: (ao, .inl (k4 1, 1, .inr (.inl (fun i9 => lI (O i9))))) :: (xW k4 lo lnow lsl lcl lba ldu nsh nrk h1 r1 q1 h2 r2 q2 ta sa n p st cc bc pot gr bk nw bal due S1 S2 tx sg)) H locs) (hl : lv_has ls 9 [(0, .ref bs), (1, .ref lo), (2, .ref mo), (3, .ref ao), (4, .int (iI (((i : Nat) : Int))))]) (kk : ∀ (H : Heap) (locs : List Loc) (ls : Array Slot), zG D AA ss.heap ((mo, .inr (5, [.int (iI (2)), .int (iI (((n : Nat) : Int))), .ref mnw, .ref mte, .ref mge, .ref mus, .int (iI (((p : Nat) : Int))), .int (iI (((st : Nat) : Int))), .int (iI (cc)), .int (iI (bc)), .ref mco, .ref mfl, .ref mba, .ref mdu, .long (lI (pot)), .long (lI (gr)), .long (lI (bk)), .int (iI (btw)), .int (iI (bhd))])) :: (mnw, .inl (k4 0, 19, .inl (fun i9 => iI (NW i9)))) :: (mte, .inl (k4 0, 912, .inl (fun i9 => iI (TE i9)))) :: (mge, .inl (k4 0, 288, .inl (fun i9 => iI (GE i9)))) :: (mus, .inl (k4 0, 288, .inl (fun i9 => iI (US i9)))) :: (mco, .inl (k4 0, 48, .inl (fun i9 => iI (CO i9)))) :: (mfl, .inl (k4 0, 2304, .inl (fun i9 => iI (FL i9)))) :: (mba, .inl (k4 1, 6, .inr (.inl (fun i9 => lI (BA i9))))) :: (mdu, .inl (k4 1, 6, .inr (.inl (fun i9 => lI (DU i9))))) :: (ao, .inl (k4 1, 1, .inr (.inl (fun i9 => lI (O i9))))) :: (xW k4 lo lnow lsl lcl lba ldu nsh nrk h1 r1 q1 h2 r2 q2 ta sa n p st cc bc pot gr bk nw bal due S1 S2 tx sg)) H locs → lv_has ls 9 [(0, .ref bs), (1, .ref lo), (2, .ref mo), (3, .ref ao), (4, .int (iI (((i : Nat) : Int))))] → W pp l ee room_1 ss mm #[Value.ref bs] bl me co H locs (cl9 + ((1) + (0))) (sl9 + ((6) + (0))) Q9 (F0 mm 1502 ls [])) : W pp l ee room_1 ss mm #[Value.ref bs] bl me co H locs (cl9) (sl9) Q9 (F0 mm 514 ls []) := by
  refine z_aload_n E hl 1 rfl dL_law_514 rfl ?_
  refine z_aload_n E hl 0 rfl dL_law_515 rfl ?_
  refine z_iload E hl 4 rfl dL_law_516 ?_
  refine z_iconst E dL_law_518 ?_
  refine z_iadd E dL_law_519 ?_
  refine z_sld E S9 G (i + 1) (by omega) (by omega) dL_law_520 ?_
  refine z_eq (y := ((m : Nat) : Int)) hx1 ?_
  refine z_aload_n E hl 0 rfl dL_law_521 rfl ?_
  refine z_iload E hl 4 rfl dL_law_522 ?_
  refine z_iconst E dL_law_524 ?_
  refine z_iadd E dL_law_525 ?_
  refine z_sld E S9 G (i + 2) (by omega) (by omega) dL_law_526 ?_
  refine z_eq (y := ((k : Nat) : Int)) hx2 ?_
  refine z_aload_n E hl 0 rfl dL_law_527 rfl ?_
  refine z_iload E hl 4 rfl dL_law_528 ?_
  refine z_iconst E dL_law_530 ?_
  refine z_iadd E dL_law_531 ?_
  refine z_sld E S9 G (i + 3) (by omega) (by omega) dL_law_532 ?_
  refine z_eq (y := a) hx3 ?_
  refine z_aload_n E hl 0 rfl dL_law_533 rfl ?_
  refine z_iload E hl 4 rfl dL_law_534 ?_
  refine z_iconst E dL_law_536 ?_
  refine z_iadd E dL_law_537 ?_
  refine z_sld E S9 G (i + 4) (by omega) (by omega) dL_law_538 ?_
  refine z_eq (y := b) hx4 ?_
  refine z_aload_n E hl 3 rfl dL_law_539 rfl ?_
  refine z_callL (n := 6) (pre := [(mo, .inr (5, [.int (iI (th)), .int (iI (((n : Nat) : Int))), .ref mnw, .ref mte, .ref mge, .ref mus, .int (iI (((p : Nat) : Int))), .int (iI (((st : Nat) : Int))), .int (iI (cc)), .int (iI (bc)), .ref mco, .ref mfl, .ref mba, .ref mdu, .long (lI (pot)), .long (lI (gr)), .long (lI (bk)), .int (iI (btw)), .int (iI (bhd))])), (mnw, .inl (k4 0, 19, .inl (fun i9 => iI (NW i9)))), (mte, .inl (k4 0, 912, .inl (fun i9 => iI (TE i9)))), (mge, .inl (k4 0, 288, .inl (fun i9 => iI (GE i9)))), (mus, .inl (k4 0, 288, .inl (fun i9 => iI (US i9)))), (mco, .inl (k4 0, 48, .inl (fun i9 => iI (CO i9)))), (mfl, .inl (k4 0, 2304, .inl (fun i9 => iI (FL i9)))), (mba, .inl (k4 1, 6, .inr (.inl (fun i9 => lI (BA i9))))), (mdu, .inl (k4 1, 6, .inr (.inl (fun i9 => lI (DU i9)))))]) E X G hl.1 (w_meter_2 l hl9 D k4 lo lnow lsl lcl lba ldu nsh nrk h1 r1 q1 h2 r2 q2 ta sa n p st cc bc pot gr bk nw bal due S1 S2 tx sg m k a b ao O hX hm hk ha) zw_212 zw_213 zw_74 zw_214 (by decide +kernel) (by decide +kernel) ⟨rfl, rfl, Nat.le_of_ble_eq_true rfl, Nat.le_of_ble_eq_true rfl⟩ rfl rfl (Nat.le_of_ble_eq_true rfl) dL_law_540 ⟨by omega, by omega⟩ (fun v9 w9 H locs hq G => ?_)
  obtain ⟨rfl, rfl⟩ := hq
  refine W.eq (g2 := F0 mm 543 ls [.int (iI (2))]) rfl ?_
  have G : zG D AA ss.heap ((mo, .inr (5, [.int (iI (th)), .int (iI (((n : Nat) : Int))), .ref mnw, .ref mte, .ref mge, .ref mus, .int (iI (((p : Nat) : Int))), .int (iI (((st : Nat) : Int))), .int (iI (cc)), .int (iI (bc)), .ref mco, .ref mfl, .ref mba, .ref mdu, .long (lI (pot)), .long (lI (gr)), .long (lI (bk)), .int (iI (btw)), .int (iI (bhd))])) :: (mnw, .inl (k4 0, 19, .inl (fun i9 => iI (NW i9)))) :: (mte, .inl (k4 0, 912, .inl (fun i9 => iI (TE i9)))) :: (mge, .inl (k4 0, 288, .inl (fun i9 => iI (GE i9)))) :: (mus, .inl (k4 0, 288, .inl (fun i9 => iI (US i9)))) :: (mco, .inl (k4 0, 48, .inl (fun i9 => iI (CO i9)))) :: (mfl, .inl (k4 0, 2304, .inl (fun i9 => iI (FL i9)))) :: (mba, .inl (k4 1, 6, .inr (.inl (fun i9 => lI (BA i9))))) :: (mdu, .inl (k4 1, 6, .inr (.inl (fun i9 => lI (DU i9))))) :: (ao, .inl (k4 1, 1, .inr (.inl (fun i9 => lI (O i9))))) :: (xW k4 lo lnow lsl lcl lba ldu nsh nrk h1 r1 q1 h2 r2 q2 ta sa n p st cc bc pot gr bk nw bal due S1 S2 tx sg)) H locs := G
  refine z_istore E [(5, .int (iI (2))), (0, .ref bs), (1, .ref lo), (2, .ref mo), (3, .ref ao), (4, .int (iI (((i : Nat) : Int))))] dL_law_543 hl (by decide) rfl (fun ls hl => ?_)
  refine z_aload_n E hl 3 rfl dL_law_545 rfl ?_
  refine z_aload_n E hl 1 rfl dL_law_546 rfl ?_
  refine z_iload E hl 5 rfl dL_law_547 ?_
  refine z_iconst E dL_law_549 ?_
  refine z_iadd E dL_law_550 ?_
  refine z_sld E S9 G (i + 1) (by omega) (by omega) dL_law_551 ?_
  refine z_eq (y := ((m : Nat) : Int)) hx1 ?_
  refine z_aload_n E hl 1 rfl dL_law_552 rfl ?_
  refine z_iload E hl 5 rfl dL_law_553 ?_
  refine z_iconst E dL_law_555 ?_
  refine z_iadd E dL_law_556 ?_
  refine z_sld E S9 G (i + 2) (by omega) (by omega) dL_law_557 ?_
  refine z_eq (y := ((k : Nat) : Int)) hx2 ?_
  refine z_aload_n E hl 1 rfl dL_law_558 rfl ?_
  refine z_iload E hl 5 rfl dL_law_559 ?_
  refine z_iconst E dL_law_561 ?_
  refine z_iadd E dL_law_562 ?_
  refine z_sld E S9 G (i + 3) (by omega) (by omega) dL_law_563 ?_
  refine z_eq (y := a) hx3 ?_
  refine z_aload_n E hl 1 rfl dL_law_564 rfl ?_
  refine z_iload E hl 5 rfl dL_law_565 ?_
  refine z_iconst E dL_law_567 ?_
  refine z_iadd E dL_law_568 ?_
  refine z_sld E S9 G (i + 4) (by omega) (by omega) dL_law_569 ?_
  refine z_eq (y := b) hx4 ?_
  refine z_callV E G hl.1 (c_X5_meter_2 l D k4 mo mnw mte mge mus mco mfl mba mdu th n p st cc bc pot gr bk btw bhd m k a b (by omega) (by omega) (by omega) (by omega)) kV_L_117 ⟨rfl, rfl, Nat.le_of_ble_eq_true rfl, Nat.le_of_ble_eq_true rfl⟩ [0] rfl (by decide) 0 5 rfl rfl rfl rfl rfl (Nat.le_of_ble_eq_true rfl) dL_law_570 ⟨by omega, by omega⟩ (fun v9 w9 H locs hq G => ?_)
  obtain ⟨rfl, rfl⟩ := hq
  refine W.eq (g2 := F0 mm 573 ls [.int (iI (0))]) rfl ?_
  have G : zG D AA ss.heap ((mo, .inr (5, [.int (iI (2)), .int (iI (((n : Nat) : Int))), .ref mnw, .ref mte, .ref mge, .ref mus, .int (iI (((p : Nat) : Int))), .int (iI (((st : Nat) : Int))), .int (iI (cc)), .int (iI (bc)), .ref mco, .ref mfl, .ref mba, .ref mdu, .long (lI (pot)), .long (lI (gr)), .long (lI (bk)), .int (iI (btw)), .int (iI (bhd))])) :: (mnw, .inl (k4 0, 19, .inl (fun i9 => iI (NW i9)))) :: (mte, .inl (k4 0, 912, .inl (fun i9 => iI (TE i9)))) :: (mge, .inl (k4 0, 288, .inl (fun i9 => iI (GE i9)))) :: (mus, .inl (k4 0, 288, .inl (fun i9 => iI (US i9)))) :: (mco, .inl (k4 0, 48, .inl (fun i9 => iI (CO i9)))) :: (mfl, .inl (k4 0, 2304, .inl (fun i9 => iI (FL i9)))) :: (mba, .inl (k4 1, 6, .inr (.inl (fun i9 => lI (BA i9))))) :: (mdu, .inl (k4 1, 6, .inr (.inl (fun i9 => lI (DU i9))))) :: (ao, .inl (k4 1, 1, .inr (.inl (fun i9 => lI (O i9))))) :: (xW k4 lo lnow lsl lcl lba ldu nsh nrk h1 r1 q1 h2 r2 q2 ta sa n p st cc bc pot gr bk nw bal due S1 S2 tx sg)) H locs := G
  refine z_istore E [(6, .int (iI (0))), (5, .int (iI (2))), (0, .ref bs), (1, .ref lo), (2, .ref mo), (3, .ref ao), (4, .int (iI (((i : Nat) : Int))))] dL_law_573 hl (by decide) rfl (fun ls hl => ?_)
  refine z_aload_n E hl 4 rfl dL_law_575 rfl ?_
  refine z_callV E G hl.1 (c_X5_thrown l D k4 mo mnw mte mge mus mco mfl mba mdu 2 n p st cc bc pot gr bk btw bhd ) kV_L_89 ⟨rfl, rfl, Nat.le_of_ble_eq_true rfl, Nat.le_of_ble_eq_true rfl⟩ [0] rfl (by decide) 0 5 rfl rfl rfl rfl rfl (Nat.le_of_ble_eq_true rfl) dL_law_576 ⟨by omega, by omega⟩ (fun v9 w9 H locs hq G => ?_)
  obtain ⟨rfl, rfl⟩ := hq
  refine W.eq (g2 := F0 mm 579 ls [.int (iI (2))]) rfl ?_
  have G : zG D AA ss.heap ((mo, .inr (5, [.int (iI (2)), .int (iI (((n : Nat) : Int))), .ref mnw, .ref mte, .ref mge, .ref mus, .int (iI (((p : Nat) : Int))), .int (iI (((st : Nat) : Int))), .int (iI (cc)), .int (iI (bc)), .ref mco, .ref mfl, .ref mba, .ref mdu, .long (lI (pot)), .long (lI (gr)), .long (lI (bk)), .int (iI (btw)), .int (iI (bhd))])) :: (mnw, .inl (k4 0, 19, .inl (fun i9 => iI (NW i9)))) :: (mte, .inl (k4 0, 912, .inl (fun i9 => iI (TE i9)))) :: (mge, .inl (k4 0, 288, .inl (fun i9 => iI (GE i9)))) :: (mus, .inl (k4 0, 288, .inl (fun i9 => iI (US i9)))) :: (mco, .inl (k4 0, 48, .inl (fun i9 => iI (CO i9)))) :: (mfl, .inl (k4 0, 2304, .inl (fun i9 => iI (FL i9)))) :: (mba, .inl (k4 1, 6, .inr (.inl (fun i9 => lI (BA i9))))) :: (mdu, .inl (k4 1, 6, .inr (.inl (fun i9 => lI (DU i9))))) :: (ao, .inl (k4 1, 1, .inr (.inl (fun i9 => lI (O i9))))) :: (xW k4 lo lnow lsl lcl lba ldu nsh nrk h1 r1 q1 h2 r2 q2 ta sa n p st cc bc pot gr bk nw bal due S1 S2 tx sg)) H locs := G
  refine z_iload E hl 1 rfl dL_law_579 ?_
  refine z_icmp_eq (tgt := 586) E dL_law_581 (by decide) (by decide) (by decide) (fun c_581 => ?_) (fun c_581 => absurd c_581 (by decide))
  refine z_iload E hl 1 rfl dL_law_586 ?_
  refine z_if_ne (tgt := 610) E dL_law_588 (by decide) (by decide) (fun c_588 => ?_) (fun c_588 => absurd c_588 (by decide))
  refine z_goto (tgt := 1502) E dL_law_610 (by decide) ?_
  refine W.cs (cells' := cl9 + ((1) + (0))) (slots' := sl9 + ((6) + (0))) (by omega) (by omega) ?_
  exact kk _ _ _ G (lv_sub hl [2, 3, 4, 5, 6] rfl)

set_option maxHeartbeats 4000000 in
set_option maxRecDepth 100000 in
theorem s_meter_3 {pp : Program} {l : Launch} {ee : Env} {ss : State} {mm : MethodId} {bl : List Frame} {me : Method} {co : Code} {AA : Nat → Prop} {H : Heap} {locs : List Loc} {ls : Array Slot} {Q9 : State → Prop} {D : va_G} {k4 : Nat → ClassId} {bs Ls : Nat} {xs : Nat → Int32} {cl9 sl9 : Nat} (hl9 : l.stackTraces = false) (E : zE pp mm co cL_law 9 ss #[Value.ref bs] RL D k4) (X : zEL ss AA) (S9 : zSc bs Ls xs ss AA) (i : Nat) (hi5 : i + 4 < Ls) (lo lnow lsl lcl lba ldu nsh nrk h1 r1 q1 h2 r2 q2 : Nat) (ta : Nat → Nat) (sa : Nat → Nat → Nat) (n p st : Nat) (cc bc pot gr bk : Int) (nw bal due : Nat → Int) (S1 S2 : sS) (tx : Nat → Nat → Int) (sg : Nat → Nat → Nat → Int) (m : Nat) (k : Nat) (a : Int) (b : Int) (mo mnw mte mge mus mco mfl mba mdu : Nat) (th btw bhd : Int) (NW TE GE US CO FL BA DU : Nat → Int) (ao : Nat) (O : Nat → Int) (hX : xOK n p st bc nw S1 S2 tx sg) (hm : m < n) (hk : k < 48) (ha : 0 ≤ a ∧ a ≤ 5000) (hb : -2147483648 ≤ b ∧ b ≤ 2147483647 ∧ (b < 0 ∨ 5000 < b)) (hn9 : n ≤ 6) (hp9 : p ≤ 48) (hs9 : st ≤ 48) (hcc : rng cc) (hb9 : 0 ≤ bc ∧ bc ≤ 20000) (hx1 : (xs (i + 1)).toInt = ((m : Nat) : Int)) (hx2 : (xs (i + 2)).toInt = ((k : Nat) : Int)) (hx3 : (xs (i + 3)).toInt = a) (hx4 : (xs (i + 4)).toInt = b) (hc9 : cl9 + ((1) + (0)) ≤ room_1.cells) (hs99 : sl9 + ((6) + (0)) ≤ room_1.slots) (G : zG D AA ss.heap ((mo, .inr (5, [.int (iI (th)), .int (iI (((n : Nat) : Int))), .ref mnw, .ref mte, .ref mge, .ref mus, .int (iI (((p : Nat) : Int))), .int (iI (((st : Nat) : Int))), .int (iI (cc)), .int (iI (bc)), .ref mco, .ref mfl, .ref mba, .ref mdu, .long (lI (pot)), .long (lI (gr)), .long (lI (bk)), .int (iI (btw)), .int (iI (bhd))])) :: (mnw, .inl (k4 0, 19, .inl (fun i9 => iI (NW i9)))) :: (mte, .inl (k4 0, 912, .inl (fun i9 => iI (TE i9)))) :: (mge, .inl (k4 0, 288, .inl (fun i9 => iI (GE i9)))) :: (mus, .inl (k4 0, 288, .inl (fun i9 => iI (US i9)))) :: (mco, .inl (k4 0, 48, .inl (fun i9 => iI (CO i9)))) :: (mfl, .inl (k4 0, 2304, .inl (fun i9 => iI (FL i9)))) :: (mba, .inl (k4 1, 6, .inr (.inl (fun i9 => lI (BA i9))))) :: (mdu, .inl (k4 1, 6, .inr (.inl (fun i9 => lI (DU i9))))) :: (ao, .inl (k4 1, 1, .inr (.inl (fun i9 => lI (O i9))))) :: (xW k4 lo lnow lsl lcl lba ldu nsh nrk h1 r1 q1 h2 r2 q2 ta sa n p st cc bc pot gr bk nw bal due S1 S2 tx sg)) H locs) (hl : lv_has ls 9 [(0, .ref bs), (1, .ref lo), (2, .ref mo), (3, .ref ao), (4, .int (iI (((i : Nat) : Int))))]) (kk : ∀ (H : Heap) (locs : List Loc) (ls : Array Slot), zG D AA ss.heap ((mo, .inr (5, [.int (iI (2)), .int (iI (((n : Nat) : Int))), .ref mnw, .ref mte, .ref mge, .ref mus, .int (iI (((p : Nat) : Int))), .int (iI (((st : Nat) : Int))), .int (iI (cc)), .int (iI (bc)), .ref mco, .ref mfl, .ref mba, .ref mdu, .long (lI (pot)), .long (lI (gr)), .long (lI (bk)), .int (iI (btw)), .int (iI (bhd))])) :: (mnw, .inl (k4 0, 19, .inl (fun i9 => iI (NW i9)))) :: (mte, .inl (k4 0, 912, .inl (fun i9 => iI (TE i9)))) :: (mge, .inl (k4 0, 288, .inl (fun i9 => iI (GE i9)))) :: (mus, .inl (k4 0, 288, .inl (fun i9 => iI (US i9)))) :: (mco, .inl (k4 0, 48, .inl (fun i9 => iI (CO i9)))) :: (mfl, .inl (k4 0, 2304, .inl (fun i9 => iI (FL i9)))) :: (mba, .inl (k4 1, 6, .inr (.inl (fun i9 => lI (BA i9))))) :: (mdu, .inl (k4 1, 6, .inr (.inl (fun i9 => lI (DU i9))))) :: (ao, .inl (k4 1, 1, .inr (.inl (fun i9 => lI (O i9))))) :: (xW k4 lo lnow lsl lcl lba ldu nsh nrk h1 r1 q1 h2 r2 q2 ta sa n p st cc bc pot gr bk nw bal due S1 S2 tx sg)) H locs → lv_has ls 9 [(0, .ref bs), (1, .ref lo), (2, .ref mo), (3, .ref ao), (4, .int (iI (((i : Nat) : Int))))] → W pp l ee room_1 ss mm #[Value.ref bs] bl me co H locs (cl9 + ((1) + (0))) (sl9 + ((6) + (0))) Q9 (F0 mm 1502 ls [])) : W pp l ee room_1 ss mm #[Value.ref bs] bl me co H locs (cl9) (sl9) Q9 (F0 mm 514 ls []) := by
  refine z_aload_n E hl 1 rfl dL_law_514 rfl ?_
  refine z_aload_n E hl 0 rfl dL_law_515 rfl ?_
  refine z_iload E hl 4 rfl dL_law_516 ?_
  refine z_iconst E dL_law_518 ?_
  refine z_iadd E dL_law_519 ?_
  refine z_sld E S9 G (i + 1) (by omega) (by omega) dL_law_520 ?_
  refine z_eq (y := ((m : Nat) : Int)) hx1 ?_
  refine z_aload_n E hl 0 rfl dL_law_521 rfl ?_
  refine z_iload E hl 4 rfl dL_law_522 ?_
  refine z_iconst E dL_law_524 ?_
  refine z_iadd E dL_law_525 ?_
  refine z_sld E S9 G (i + 2) (by omega) (by omega) dL_law_526 ?_
  refine z_eq (y := ((k : Nat) : Int)) hx2 ?_
  refine z_aload_n E hl 0 rfl dL_law_527 rfl ?_
  refine z_iload E hl 4 rfl dL_law_528 ?_
  refine z_iconst E dL_law_530 ?_
  refine z_iadd E dL_law_531 ?_
  refine z_sld E S9 G (i + 3) (by omega) (by omega) dL_law_532 ?_
  refine z_eq (y := a) hx3 ?_
  refine z_aload_n E hl 0 rfl dL_law_533 rfl ?_
  refine z_iload E hl 4 rfl dL_law_534 ?_
  refine z_iconst E dL_law_536 ?_
  refine z_iadd E dL_law_537 ?_
  refine z_sld E S9 G (i + 4) (by omega) (by omega) dL_law_538 ?_
  refine z_eq (y := b) hx4 ?_
  refine z_aload_n E hl 3 rfl dL_law_539 rfl ?_
  refine z_callL (n := 6) (pre := [(mo, .inr (5, [.int (iI (th)), .int (iI (((n : Nat) : Int))), .ref mnw, .ref mte, .ref mge, .ref mus, .int (iI (((p : Nat) : Int))), .int (iI (((st : Nat) : Int))), .int (iI (cc)), .int (iI (bc)), .ref mco, .ref mfl, .ref mba, .ref mdu, .long (lI (pot)), .long (lI (gr)), .long (lI (bk)), .int (iI (btw)), .int (iI (bhd))])), (mnw, .inl (k4 0, 19, .inl (fun i9 => iI (NW i9)))), (mte, .inl (k4 0, 912, .inl (fun i9 => iI (TE i9)))), (mge, .inl (k4 0, 288, .inl (fun i9 => iI (GE i9)))), (mus, .inl (k4 0, 288, .inl (fun i9 => iI (US i9)))), (mco, .inl (k4 0, 48, .inl (fun i9 => iI (CO i9)))), (mfl, .inl (k4 0, 2304, .inl (fun i9 => iI (FL i9)))), (mba, .inl (k4 1, 6, .inr (.inl (fun i9 => lI (BA i9))))), (mdu, .inl (k4 1, 6, .inr (.inl (fun i9 => lI (DU i9)))))]) E X G hl.1 (w_meter_3 l hl9 D k4 lo lnow lsl lcl lba ldu nsh nrk h1 r1 q1 h2 r2 q2 ta sa n p st cc bc pot gr bk nw bal due S1 S2 tx sg m k a b ao O hX hm hk ha hb) zw_212 zw_213 zw_74 zw_214 (by decide +kernel) (by decide +kernel) ⟨rfl, rfl, Nat.le_of_ble_eq_true rfl, Nat.le_of_ble_eq_true rfl⟩ rfl rfl (Nat.le_of_ble_eq_true rfl) dL_law_540 ⟨by omega, by omega⟩ (fun v9 w9 H locs hq G => ?_)
  obtain ⟨rfl, rfl⟩ := hq
  refine W.eq (g2 := F0 mm 543 ls [.int (iI (2))]) rfl ?_
  have G : zG D AA ss.heap ((mo, .inr (5, [.int (iI (th)), .int (iI (((n : Nat) : Int))), .ref mnw, .ref mte, .ref mge, .ref mus, .int (iI (((p : Nat) : Int))), .int (iI (((st : Nat) : Int))), .int (iI (cc)), .int (iI (bc)), .ref mco, .ref mfl, .ref mba, .ref mdu, .long (lI (pot)), .long (lI (gr)), .long (lI (bk)), .int (iI (btw)), .int (iI (bhd))])) :: (mnw, .inl (k4 0, 19, .inl (fun i9 => iI (NW i9)))) :: (mte, .inl (k4 0, 912, .inl (fun i9 => iI (TE i9)))) :: (mge, .inl (k4 0, 288, .inl (fun i9 => iI (GE i9)))) :: (mus, .inl (k4 0, 288, .inl (fun i9 => iI (US i9)))) :: (mco, .inl (k4 0, 48, .inl (fun i9 => iI (CO i9)))) :: (mfl, .inl (k4 0, 2304, .inl (fun i9 => iI (FL i9)))) :: (mba, .inl (k4 1, 6, .inr (.inl (fun i9 => lI (BA i9))))) :: (mdu, .inl (k4 1, 6, .inr (.inl (fun i9 => lI (DU i9))))) :: (ao, .inl (k4 1, 1, .inr (.inl (fun i9 => lI (O i9))))) :: (xW k4 lo lnow lsl lcl lba ldu nsh nrk h1 r1 q1 h2 r2 q2 ta sa n p st cc bc pot gr bk nw bal due S1 S2 tx sg)) H locs := G
  refine z_istore E [(5, .int (iI (2))), (0, .ref bs), (1, .ref lo), (2, .ref mo), (3, .ref ao), (4, .int (iI (((i : Nat) : Int))))] dL_law_543 hl (by decide) rfl (fun ls hl => ?_)
  refine z_aload_n E hl 3 rfl dL_law_545 rfl ?_
  refine z_aload_n E hl 1 rfl dL_law_546 rfl ?_
  refine z_iload E hl 5 rfl dL_law_547 ?_
  refine z_iconst E dL_law_549 ?_
  refine z_iadd E dL_law_550 ?_
  refine z_sld E S9 G (i + 1) (by omega) (by omega) dL_law_551 ?_
  refine z_eq (y := ((m : Nat) : Int)) hx1 ?_
  refine z_aload_n E hl 1 rfl dL_law_552 rfl ?_
  refine z_iload E hl 5 rfl dL_law_553 ?_
  refine z_iconst E dL_law_555 ?_
  refine z_iadd E dL_law_556 ?_
  refine z_sld E S9 G (i + 2) (by omega) (by omega) dL_law_557 ?_
  refine z_eq (y := ((k : Nat) : Int)) hx2 ?_
  refine z_aload_n E hl 1 rfl dL_law_558 rfl ?_
  refine z_iload E hl 5 rfl dL_law_559 ?_
  refine z_iconst E dL_law_561 ?_
  refine z_iadd E dL_law_562 ?_
  refine z_sld E S9 G (i + 3) (by omega) (by omega) dL_law_563 ?_
  refine z_eq (y := a) hx3 ?_
  refine z_aload_n E hl 1 rfl dL_law_564 rfl ?_
  refine z_iload E hl 5 rfl dL_law_565 ?_
  refine z_iconst E dL_law_567 ?_
  refine z_iadd E dL_law_568 ?_
  refine z_sld E S9 G (i + 4) (by omega) (by omega) dL_law_569 ?_
  refine z_eq (y := b) hx4 ?_
  refine z_callV E G hl.1 (c_X5_meter_3 l D k4 mo mnw mte mge mus mco mfl mba mdu th n p st cc bc pot gr bk btw bhd m k a b (by omega) (by omega) (by omega) (by omega) (by omega)) kV_L_117 ⟨rfl, rfl, Nat.le_of_ble_eq_true rfl, Nat.le_of_ble_eq_true rfl⟩ [0] rfl (by decide) 0 5 rfl rfl rfl rfl rfl (Nat.le_of_ble_eq_true rfl) dL_law_570 ⟨by omega, by omega⟩ (fun v9 w9 H locs hq G => ?_)
  obtain ⟨rfl, rfl⟩ := hq
  refine W.eq (g2 := F0 mm 573 ls [.int (iI (0))]) rfl ?_
  have G : zG D AA ss.heap ((mo, .inr (5, [.int (iI (2)), .int (iI (((n : Nat) : Int))), .ref mnw, .ref mte, .ref mge, .ref mus, .int (iI (((p : Nat) : Int))), .int (iI (((st : Nat) : Int))), .int (iI (cc)), .int (iI (bc)), .ref mco, .ref mfl, .ref mba, .ref mdu, .long (lI (pot)), .long (lI (gr)), .long (lI (bk)), .int (iI (btw)), .int (iI (bhd))])) :: (mnw, .inl (k4 0, 19, .inl (fun i9 => iI (NW i9)))) :: (mte, .inl (k4 0, 912, .inl (fun i9 => iI (TE i9)))) :: (mge, .inl (k4 0, 288, .inl (fun i9 => iI (GE i9)))) :: (mus, .inl (k4 0, 288, .inl (fun i9 => iI (US i9)))) :: (mco, .inl (k4 0, 48, .inl (fun i9 => iI (CO i9)))) :: (mfl, .inl (k4 0, 2304, .inl (fun i9 => iI (FL i9)))) :: (mba, .inl (k4 1, 6, .inr (.inl (fun i9 => lI (BA i9))))) :: (mdu, .inl (k4 1, 6, .inr (.inl (fun i9 => lI (DU i9))))) :: (ao, .inl (k4 1, 1, .inr (.inl (fun i9 => lI (O i9))))) :: (xW k4 lo lnow lsl lcl lba ldu nsh nrk h1 r1 q1 h2 r2 q2 ta sa n p st cc bc pot gr bk nw bal due S1 S2 tx sg)) H locs := G
  refine z_istore E [(6, .int (iI (0))), (5, .int (iI (2))), (0, .ref bs), (1, .ref lo), (2, .ref mo), (3, .ref ao), (4, .int (iI (((i : Nat) : Int))))] dL_law_573 hl (by decide) rfl (fun ls hl => ?_)
  refine z_aload_n E hl 4 rfl dL_law_575 rfl ?_
  refine z_callV E G hl.1 (c_X5_thrown l D k4 mo mnw mte mge mus mco mfl mba mdu 2 n p st cc bc pot gr bk btw bhd ) kV_L_89 ⟨rfl, rfl, Nat.le_of_ble_eq_true rfl, Nat.le_of_ble_eq_true rfl⟩ [0] rfl (by decide) 0 5 rfl rfl rfl rfl rfl (Nat.le_of_ble_eq_true rfl) dL_law_576 ⟨by omega, by omega⟩ (fun v9 w9 H locs hq G => ?_)
  obtain ⟨rfl, rfl⟩ := hq
  refine W.eq (g2 := F0 mm 579 ls [.int (iI (2))]) rfl ?_
  have G : zG D AA ss.heap ((mo, .inr (5, [.int (iI (2)), .int (iI (((n : Nat) : Int))), .ref mnw, .ref mte, .ref mge, .ref mus, .int (iI (((p : Nat) : Int))), .int (iI (((st : Nat) : Int))), .int (iI (cc)), .int (iI (bc)), .ref mco, .ref mfl, .ref mba, .ref mdu, .long (lI (pot)), .long (lI (gr)), .long (lI (bk)), .int (iI (btw)), .int (iI (bhd))])) :: (mnw, .inl (k4 0, 19, .inl (fun i9 => iI (NW i9)))) :: (mte, .inl (k4 0, 912, .inl (fun i9 => iI (TE i9)))) :: (mge, .inl (k4 0, 288, .inl (fun i9 => iI (GE i9)))) :: (mus, .inl (k4 0, 288, .inl (fun i9 => iI (US i9)))) :: (mco, .inl (k4 0, 48, .inl (fun i9 => iI (CO i9)))) :: (mfl, .inl (k4 0, 2304, .inl (fun i9 => iI (FL i9)))) :: (mba, .inl (k4 1, 6, .inr (.inl (fun i9 => lI (BA i9))))) :: (mdu, .inl (k4 1, 6, .inr (.inl (fun i9 => lI (DU i9))))) :: (ao, .inl (k4 1, 1, .inr (.inl (fun i9 => lI (O i9))))) :: (xW k4 lo lnow lsl lcl lba ldu nsh nrk h1 r1 q1 h2 r2 q2 ta sa n p st cc bc pot gr bk nw bal due S1 S2 tx sg)) H locs := G
  refine z_iload E hl 1 rfl dL_law_579 ?_
  refine z_icmp_eq (tgt := 586) E dL_law_581 (by decide) (by decide) (by decide) (fun c_581 => ?_) (fun c_581 => absurd c_581 (by decide))
  refine z_iload E hl 1 rfl dL_law_586 ?_
  refine z_if_ne (tgt := 610) E dL_law_588 (by decide) (by decide) (fun c_588 => ?_) (fun c_588 => absurd c_588 (by decide))
  refine z_goto (tgt := 1502) E dL_law_610 (by decide) ?_
  refine W.cs (cells' := cl9 + ((1) + (0))) (slots' := sl9 + ((6) + (0))) (by omega) (by omega) ?_
  exact kk _ _ _ G (lv_sub hl [2, 3, 4, 5, 6] rfl)

set_option maxHeartbeats 4000000 in
set_option maxRecDepth 100000 in
theorem s_meter_4 {pp : Program} {l : Launch} {ee : Env} {ss : State} {mm : MethodId} {bl : List Frame} {me : Method} {co : Code} {AA : Nat → Prop} {H : Heap} {locs : List Loc} {ls : Array Slot} {Q9 : State → Prop} {D : va_G} {k4 : Nat → ClassId} {bs Ls : Nat} {xs : Nat → Int32} {cl9 sl9 : Nat} (hl9 : l.stackTraces = false) (E : zE pp mm co cL_law 9 ss #[Value.ref bs] RL D k4) (X : zEL ss AA) (S9 : zSc bs Ls xs ss AA) (i : Nat) (hi5 : i + 4 < Ls) (lo lnow lsl lcl lba ldu nsh nrk h1 r1 q1 h2 r2 q2 : Nat) (ta : Nat → Nat) (sa : Nat → Nat → Nat) (n p st : Nat) (cc bc pot gr bk : Int) (nw bal due : Nat → Int) (S1 S2 : sS) (tx : Nat → Nat → Int) (sg : Nat → Nat → Nat → Int) (m k : Nat) (a b : Int) (mo mnw mte mge mus mco mfl mba mdu : Nat) (th btw bhd : Int) (NW TE GE US CO FL BA DU : Nat → Int) (ao : Nat) (O : Nat → Int) (hX : xOK n p st bc nw S1 S2 tx sg) (hm : m < n) (hk : k < 48) (ha : 0 ≤ a ∧ a ≤ 5000) (hb : 0 ≤ b ∧ b ≤ 5000) (hkp : k < p) (hn9 : n ≤ 6) (hp9 : p ≤ 48) (hs9 : st ≤ 48) (hcc : rng cc) (hb9 : 0 ≤ bc ∧ bc ≤ 20000) (hx1 : (xs (i + 1)).toInt = ((m : Nat) : Int)) (hx2 : (xs (i + 2)).toInt = ((k : Nat) : Int)) (hx3 : (xs (i + 3)).toInt = a) (hx4 : (xs (i + 4)).toInt = b) (hc9 : cl9 + ((1) + (0)) ≤ room_1.cells) (hs99 : sl9 + ((6) + (0)) ≤ room_1.slots) (G : zG D AA ss.heap ((mo, .inr (5, [.int (iI (th)), .int (iI (((n : Nat) : Int))), .ref mnw, .ref mte, .ref mge, .ref mus, .int (iI (((p : Nat) : Int))), .int (iI (((st : Nat) : Int))), .int (iI (cc)), .int (iI (bc)), .ref mco, .ref mfl, .ref mba, .ref mdu, .long (lI (pot)), .long (lI (gr)), .long (lI (bk)), .int (iI (btw)), .int (iI (bhd))])) :: (mnw, .inl (k4 0, 19, .inl (fun i9 => iI (NW i9)))) :: (mte, .inl (k4 0, 912, .inl (fun i9 => iI (TE i9)))) :: (mge, .inl (k4 0, 288, .inl (fun i9 => iI (GE i9)))) :: (mus, .inl (k4 0, 288, .inl (fun i9 => iI (US i9)))) :: (mco, .inl (k4 0, 48, .inl (fun i9 => iI (CO i9)))) :: (mfl, .inl (k4 0, 2304, .inl (fun i9 => iI (FL i9)))) :: (mba, .inl (k4 1, 6, .inr (.inl (fun i9 => lI (BA i9))))) :: (mdu, .inl (k4 1, 6, .inr (.inl (fun i9 => lI (DU i9))))) :: (ao, .inl (k4 1, 1, .inr (.inl (fun i9 => lI (O i9))))) :: (xW k4 lo lnow lsl lcl lba ldu nsh nrk h1 r1 q1 h2 r2 q2 ta sa n p st cc bc pot gr bk nw bal due S1 S2 tx sg)) H locs) (hl : lv_has ls 9 [(0, .ref bs), (1, .ref lo), (2, .ref mo), (3, .ref ao), (4, .int (iI (((i : Nat) : Int))))]) (kk : ∀ (H : Heap) (locs : List Loc) (ls : Array Slot), zG D AA ss.heap ((mo, .inr (5, [.int (iI (3)), .int (iI (((n : Nat) : Int))), .ref mnw, .ref mte, .ref mge, .ref mus, .int (iI (((p : Nat) : Int))), .int (iI (((st : Nat) : Int))), .int (iI (cc)), .int (iI (bc)), .ref mco, .ref mfl, .ref mba, .ref mdu, .long (lI (pot)), .long (lI (gr)), .long (lI (bk)), .int (iI (btw)), .int (iI (bhd))])) :: (mnw, .inl (k4 0, 19, .inl (fun i9 => iI (NW i9)))) :: (mte, .inl (k4 0, 912, .inl (fun i9 => iI (TE i9)))) :: (mge, .inl (k4 0, 288, .inl (fun i9 => iI (GE i9)))) :: (mus, .inl (k4 0, 288, .inl (fun i9 => iI (US i9)))) :: (mco, .inl (k4 0, 48, .inl (fun i9 => iI (CO i9)))) :: (mfl, .inl (k4 0, 2304, .inl (fun i9 => iI (FL i9)))) :: (mba, .inl (k4 1, 6, .inr (.inl (fun i9 => lI (BA i9))))) :: (mdu, .inl (k4 1, 6, .inr (.inl (fun i9 => lI (DU i9))))) :: (ao, .inl (k4 1, 1, .inr (.inl (fun i9 => lI (O i9))))) :: (xW k4 lo lnow lsl lcl lba ldu nsh nrk h1 r1 q1 h2 r2 q2 ta sa n p st cc bc pot gr bk nw bal due S1 S2 tx sg)) H locs → lv_has ls 9 [(0, .ref bs), (1, .ref lo), (2, .ref mo), (3, .ref ao), (4, .int (iI (((i : Nat) : Int))))] → W pp l ee room_1 ss mm #[Value.ref bs] bl me co H locs (cl9 + ((1) + (0))) (sl9 + ((6) + (0))) Q9 (F0 mm 1502 ls [])) : W pp l ee room_1 ss mm #[Value.ref bs] bl me co H locs (cl9) (sl9) Q9 (F0 mm 514 ls []) := by
  refine z_aload_n E hl 1 rfl dL_law_514 rfl ?_
  refine z_aload_n E hl 0 rfl dL_law_515 rfl ?_
  refine z_iload E hl 4 rfl dL_law_516 ?_
  refine z_iconst E dL_law_518 ?_
  refine z_iadd E dL_law_519 ?_
  refine z_sld E S9 G (i + 1) (by omega) (by omega) dL_law_520 ?_
  refine z_eq (y := ((m : Nat) : Int)) hx1 ?_
  refine z_aload_n E hl 0 rfl dL_law_521 rfl ?_
  refine z_iload E hl 4 rfl dL_law_522 ?_
  refine z_iconst E dL_law_524 ?_
  refine z_iadd E dL_law_525 ?_
  refine z_sld E S9 G (i + 2) (by omega) (by omega) dL_law_526 ?_
  refine z_eq (y := ((k : Nat) : Int)) hx2 ?_
  refine z_aload_n E hl 0 rfl dL_law_527 rfl ?_
  refine z_iload E hl 4 rfl dL_law_528 ?_
  refine z_iconst E dL_law_530 ?_
  refine z_iadd E dL_law_531 ?_
  refine z_sld E S9 G (i + 3) (by omega) (by omega) dL_law_532 ?_
  refine z_eq (y := a) hx3 ?_
  refine z_aload_n E hl 0 rfl dL_law_533 rfl ?_
  refine z_iload E hl 4 rfl dL_law_534 ?_
  refine z_iconst E dL_law_536 ?_
  refine z_iadd E dL_law_537 ?_
  refine z_sld E S9 G (i + 4) (by omega) (by omega) dL_law_538 ?_
  refine z_eq (y := b) hx4 ?_
  refine z_aload_n E hl 3 rfl dL_law_539 rfl ?_
  refine z_callL (n := 6) (pre := [(mo, .inr (5, [.int (iI (th)), .int (iI (((n : Nat) : Int))), .ref mnw, .ref mte, .ref mge, .ref mus, .int (iI (((p : Nat) : Int))), .int (iI (((st : Nat) : Int))), .int (iI (cc)), .int (iI (bc)), .ref mco, .ref mfl, .ref mba, .ref mdu, .long (lI (pot)), .long (lI (gr)), .long (lI (bk)), .int (iI (btw)), .int (iI (bhd))])), (mnw, .inl (k4 0, 19, .inl (fun i9 => iI (NW i9)))), (mte, .inl (k4 0, 912, .inl (fun i9 => iI (TE i9)))), (mge, .inl (k4 0, 288, .inl (fun i9 => iI (GE i9)))), (mus, .inl (k4 0, 288, .inl (fun i9 => iI (US i9)))), (mco, .inl (k4 0, 48, .inl (fun i9 => iI (CO i9)))), (mfl, .inl (k4 0, 2304, .inl (fun i9 => iI (FL i9)))), (mba, .inl (k4 1, 6, .inr (.inl (fun i9 => lI (BA i9))))), (mdu, .inl (k4 1, 6, .inr (.inl (fun i9 => lI (DU i9)))))]) E X G hl.1 (w_meter_4 l hl9 D k4 lo lnow lsl lcl lba ldu nsh nrk h1 r1 q1 h2 r2 q2 ta sa n p st cc bc pot gr bk nw bal due S1 S2 tx sg m k a b ao O hX hm hk ha hb hkp) zw_212 zw_213 zw_74 zw_214 (by decide +kernel) (by decide +kernel) ⟨rfl, rfl, Nat.le_of_ble_eq_true rfl, Nat.le_of_ble_eq_true rfl⟩ rfl rfl (Nat.le_of_ble_eq_true rfl) dL_law_540 ⟨by omega, by omega⟩ (fun v9 w9 H locs hq G => ?_)
  obtain ⟨rfl, rfl⟩ := hq
  refine W.eq (g2 := F0 mm 543 ls [.int (iI (3))]) rfl ?_
  have G : zG D AA ss.heap ((mo, .inr (5, [.int (iI (th)), .int (iI (((n : Nat) : Int))), .ref mnw, .ref mte, .ref mge, .ref mus, .int (iI (((p : Nat) : Int))), .int (iI (((st : Nat) : Int))), .int (iI (cc)), .int (iI (bc)), .ref mco, .ref mfl, .ref mba, .ref mdu, .long (lI (pot)), .long (lI (gr)), .long (lI (bk)), .int (iI (btw)), .int (iI (bhd))])) :: (mnw, .inl (k4 0, 19, .inl (fun i9 => iI (NW i9)))) :: (mte, .inl (k4 0, 912, .inl (fun i9 => iI (TE i9)))) :: (mge, .inl (k4 0, 288, .inl (fun i9 => iI (GE i9)))) :: (mus, .inl (k4 0, 288, .inl (fun i9 => iI (US i9)))) :: (mco, .inl (k4 0, 48, .inl (fun i9 => iI (CO i9)))) :: (mfl, .inl (k4 0, 2304, .inl (fun i9 => iI (FL i9)))) :: (mba, .inl (k4 1, 6, .inr (.inl (fun i9 => lI (BA i9))))) :: (mdu, .inl (k4 1, 6, .inr (.inl (fun i9 => lI (DU i9))))) :: (ao, .inl (k4 1, 1, .inr (.inl (fun i9 => lI (O i9))))) :: (xW k4 lo lnow lsl lcl lba ldu nsh nrk h1 r1 q1 h2 r2 q2 ta sa n p st cc bc pot gr bk nw bal due S1 S2 tx sg)) H locs := G
  refine z_istore E [(5, .int (iI (3))), (0, .ref bs), (1, .ref lo), (2, .ref mo), (3, .ref ao), (4, .int (iI (((i : Nat) : Int))))] dL_law_543 hl (by decide) rfl (fun ls hl => ?_)
  refine z_aload_n E hl 3 rfl dL_law_545 rfl ?_
  refine z_aload_n E hl 1 rfl dL_law_546 rfl ?_
  refine z_iload E hl 5 rfl dL_law_547 ?_
  refine z_iconst E dL_law_549 ?_
  refine z_iadd E dL_law_550 ?_
  refine z_sld E S9 G (i + 1) (by omega) (by omega) dL_law_551 ?_
  refine z_eq (y := ((m : Nat) : Int)) hx1 ?_
  refine z_aload_n E hl 1 rfl dL_law_552 rfl ?_
  refine z_iload E hl 5 rfl dL_law_553 ?_
  refine z_iconst E dL_law_555 ?_
  refine z_iadd E dL_law_556 ?_
  refine z_sld E S9 G (i + 2) (by omega) (by omega) dL_law_557 ?_
  refine z_eq (y := ((k : Nat) : Int)) hx2 ?_
  refine z_aload_n E hl 1 rfl dL_law_558 rfl ?_
  refine z_iload E hl 5 rfl dL_law_559 ?_
  refine z_iconst E dL_law_561 ?_
  refine z_iadd E dL_law_562 ?_
  refine z_sld E S9 G (i + 3) (by omega) (by omega) dL_law_563 ?_
  refine z_eq (y := a) hx3 ?_
  refine z_aload_n E hl 1 rfl dL_law_564 rfl ?_
  refine z_iload E hl 5 rfl dL_law_565 ?_
  refine z_iconst E dL_law_567 ?_
  refine z_iadd E dL_law_568 ?_
  refine z_sld E S9 G (i + 4) (by omega) (by omega) dL_law_569 ?_
  refine z_eq (y := b) hx4 ?_
  refine z_callV E G hl.1 (c_X5_meter_4 l D k4 mo mnw mte mge mus mco mfl mba mdu th n p st cc bc pot gr bk btw bhd m k a b (by omega) (by omega) (by omega) (by omega) (by omega) (by omega) (by omega)) kV_L_117 ⟨rfl, rfl, Nat.le_of_ble_eq_true rfl, Nat.le_of_ble_eq_true rfl⟩ [0] rfl (by decide) 0 5 rfl rfl rfl rfl rfl (Nat.le_of_ble_eq_true rfl) dL_law_570 ⟨by omega, by omega⟩ (fun v9 w9 H locs hq G => ?_)
  obtain ⟨rfl, rfl⟩ := hq
  refine W.eq (g2 := F0 mm 573 ls [.int (iI (0))]) rfl ?_
  have G : zG D AA ss.heap ((mo, .inr (5, [.int (iI (3)), .int (iI (((n : Nat) : Int))), .ref mnw, .ref mte, .ref mge, .ref mus, .int (iI (((p : Nat) : Int))), .int (iI (((st : Nat) : Int))), .int (iI (cc)), .int (iI (bc)), .ref mco, .ref mfl, .ref mba, .ref mdu, .long (lI (pot)), .long (lI (gr)), .long (lI (bk)), .int (iI (btw)), .int (iI (bhd))])) :: (mnw, .inl (k4 0, 19, .inl (fun i9 => iI (NW i9)))) :: (mte, .inl (k4 0, 912, .inl (fun i9 => iI (TE i9)))) :: (mge, .inl (k4 0, 288, .inl (fun i9 => iI (GE i9)))) :: (mus, .inl (k4 0, 288, .inl (fun i9 => iI (US i9)))) :: (mco, .inl (k4 0, 48, .inl (fun i9 => iI (CO i9)))) :: (mfl, .inl (k4 0, 2304, .inl (fun i9 => iI (FL i9)))) :: (mba, .inl (k4 1, 6, .inr (.inl (fun i9 => lI (BA i9))))) :: (mdu, .inl (k4 1, 6, .inr (.inl (fun i9 => lI (DU i9))))) :: (ao, .inl (k4 1, 1, .inr (.inl (fun i9 => lI (O i9))))) :: (xW k4 lo lnow lsl lcl lba ldu nsh nrk h1 r1 q1 h2 r2 q2 ta sa n p st cc bc pot gr bk nw bal due S1 S2 tx sg)) H locs := G
  refine z_istore E [(6, .int (iI (0))), (5, .int (iI (3))), (0, .ref bs), (1, .ref lo), (2, .ref mo), (3, .ref ao), (4, .int (iI (((i : Nat) : Int))))] dL_law_573 hl (by decide) rfl (fun ls hl => ?_)
  refine z_aload_n E hl 4 rfl dL_law_575 rfl ?_
  refine z_callV E G hl.1 (c_X5_thrown l D k4 mo mnw mte mge mus mco mfl mba mdu 3 n p st cc bc pot gr bk btw bhd ) kV_L_89 ⟨rfl, rfl, Nat.le_of_ble_eq_true rfl, Nat.le_of_ble_eq_true rfl⟩ [0] rfl (by decide) 0 5 rfl rfl rfl rfl rfl (Nat.le_of_ble_eq_true rfl) dL_law_576 ⟨by omega, by omega⟩ (fun v9 w9 H locs hq G => ?_)
  obtain ⟨rfl, rfl⟩ := hq
  refine W.eq (g2 := F0 mm 579 ls [.int (iI (3))]) rfl ?_
  have G : zG D AA ss.heap ((mo, .inr (5, [.int (iI (3)), .int (iI (((n : Nat) : Int))), .ref mnw, .ref mte, .ref mge, .ref mus, .int (iI (((p : Nat) : Int))), .int (iI (((st : Nat) : Int))), .int (iI (cc)), .int (iI (bc)), .ref mco, .ref mfl, .ref mba, .ref mdu, .long (lI (pot)), .long (lI (gr)), .long (lI (bk)), .int (iI (btw)), .int (iI (bhd))])) :: (mnw, .inl (k4 0, 19, .inl (fun i9 => iI (NW i9)))) :: (mte, .inl (k4 0, 912, .inl (fun i9 => iI (TE i9)))) :: (mge, .inl (k4 0, 288, .inl (fun i9 => iI (GE i9)))) :: (mus, .inl (k4 0, 288, .inl (fun i9 => iI (US i9)))) :: (mco, .inl (k4 0, 48, .inl (fun i9 => iI (CO i9)))) :: (mfl, .inl (k4 0, 2304, .inl (fun i9 => iI (FL i9)))) :: (mba, .inl (k4 1, 6, .inr (.inl (fun i9 => lI (BA i9))))) :: (mdu, .inl (k4 1, 6, .inr (.inl (fun i9 => lI (DU i9))))) :: (ao, .inl (k4 1, 1, .inr (.inl (fun i9 => lI (O i9))))) :: (xW k4 lo lnow lsl lcl lba ldu nsh nrk h1 r1 q1 h2 r2 q2 ta sa n p st cc bc pot gr bk nw bal due S1 S2 tx sg)) H locs := G
  refine z_iload E hl 1 rfl dL_law_579 ?_
  refine z_icmp_eq (tgt := 586) E dL_law_581 (by decide) (by decide) (by decide) (fun c_581 => ?_) (fun c_581 => absurd c_581 (by decide))
  refine z_iload E hl 1 rfl dL_law_586 ?_
  refine z_if_ne (tgt := 610) E dL_law_588 (by decide) (by decide) (fun c_588 => ?_) (fun c_588 => absurd c_588 (by decide))
  refine z_goto (tgt := 1502) E dL_law_610 (by decide) ?_
  refine W.cs (cells' := cl9 + ((1) + (0))) (slots' := sl9 + ((6) + (0))) (by omega) (by omega) ?_
  exact kk _ _ _ G (lv_sub hl [2, 3, 4, 5, 6] rfl)
