set_option maxHeartbeats 4000000 in
set_option maxRecDepth 100000 in
theorem t_sum {pp : Program} {l : Launch} {ee : Env} {ss : State} {mm : MethodId} {bl : List Frame} {me : Method} {co : Code} {AA : Nat → Prop} {H : Heap} {locs : List Loc} {ls : Array Slot} {Q9 : State → Prop} {D : va_G} {k4 : Nat → ClassId} {bs Ls : Nat} {xs : Nat → Int32} {cl9 sl9 : Nat} (E : zE pp mm co cL_law 18 ss #[Value.ref bs] RL D k4) (S9 : zSc bs Ls xs ss AA) (lo lnow lsl lcl lba ldu nsh nrk h1 r1 q1 h2 r2 q2 : Nat) (ta : Nat → Nat) (sa : Nat → Nat → Nat) (n t : Nat) (cc bc pot gr : Int) (nw bal : Nat → Int) (S1 S2 : sS) (tx : Nat → Nat → Int) (sg : Nat → Nat → Nat → Int) (ea pa ao : Nat) (EF CP T : Nat → Int) (x : Int) (hI : LH n (t + 1) bc pot gr nw bal T EF CP S1 S2 tx sg) (hc9 : cl9 ≤ room_1.cells) (hs9 : sl9 ≤ room_1.slots) (G : zG D AA ss.heap ((ea, .inl (k4 0, 48, .inl (fun i9 => iI (EF i9)))) :: (pa, .inl (k4 0, 48, .inl (fun i9 => iI (CP i9)))) :: (ao, .inl (k4 0, 19, .inl (fun i9 => iI (T i9)))) :: (xW k4 lo lnow lsl lcl lba ldu nsh nrk h1 r1 q1 h2 r2 q2 ta sa n (t + 1) 0 cc bc pot gr 0 nw bal (fun _ => 0) S1 S2 tx sg)) H locs) (hl : lv_has ls 18 [(9, .int (iI (con sg (t + 1)))), (8, .int (iI (((t : Nat) : Int)))), (7, .int (iI (x))), (6, .int (iI (((t : Nat) : Int)))), (5, .ref pa), (4, .ref ea), (3, .int (iI (((n : Nat) : Int)))), (2, .ref ao), (1, .ref lo), (0, .ref bs)]) (kk : ∀  (H : Heap) (locs : List Loc) (ls : Array Slot), zG D AA ss.heap ((ea, .inl (k4 0, 48, .inl (fun i9 => iI (EF i9)))) :: (pa, .inl (k4 0, 48, .inl (fun i9 => iI (CP i9)))) :: (ao, .inl (k4 0, 19, .inl (fun i9 => iI (T i9)))) :: (xW k4 lo lnow lsl lcl lba ldu nsh nrk h1 r1 q1 h2 r2 q2 ta sa n (t + 1) 0 cc bc pot gr 0 nw bal (fun _ => 0) S1 S2 tx sg)) H locs → lv_has ls 18 [(8, .int (iI (((t : Nat) : Int)))), (7, .int (iI (x))), (6, .int (iI (((t : Nat) : Int)))), (5, .ref pa), (4, .ref ea), (3, .int (iI (((n : Nat) : Int)))), (2, .ref ao), (1, .ref lo), (0, .ref bs)] → W pp l ee room_1 ss mm #[Value.ref bs] bl me co H locs (cl9) (sl9) Q9 (F0 mm 600 ls [])) : W pp l ee room_1 ss mm #[Value.ref bs] bl me co H locs (cl9) (sl9) Q9 (F0 mm 521 ls []) := by
  obtain ⟨⟨⟨i1, i2⟩, hX, i4, i5, i6, i7⟩, i8, i9⟩ := id hI
  obtain ⟨y1, y2, y3, y4, y5, y6, y7, y8, y9⟩ := id hX
  have hcb := con_b y9 (t + 1) (by omega)
  have hnw := y4.2.2.2.2.1
  refine z_aload_n E hl 8 rfl dL_law_521 rfl ?_
  refine z_callVs (pre := [(ea, .inl (k4 0, 48, .inl (fun i9 => iI (EF i9)))), (pa, .inl (k4 0, 48, .inl (fun i9 => iI (CP i9)))), (ao, .inl (k4 0, 19, .inl (fun i9 => iI (T i9))))]) E G hl.1 (c_X4_content l D k4 lo lnow lsl lcl lba ldu nsh nrk h1 r1 q1 h2 r2 q2 ta sa n (t + 1) 0 cc bc pot gr 0 nw bal (fun _ => 0) S1 S2 tx sg ) kV_L_83 ⟨rfl, rfl, Nat.le_of_ble_eq_true rfl, Nat.le_of_ble_eq_true rfl⟩ 3 4 rfl rfl rfl rfl rfl (Nat.le_of_ble_eq_true rfl) dL_law_522 ⟨(by omega), (by omega)⟩ (fun v9 w9 H locs hq G => ?_)
  obtain ⟨rfl, rfl⟩ := hq
  refine W.eq (g2 := F0 mm 525 ls [.int (iI (bc))]) rfl ?_
  have G : zG D AA ss.heap ((ea, .inl (k4 0, 48, .inl (fun i9 => iI (EF i9)))) :: (pa, .inl (k4 0, 48, .inl (fun i9 => iI (CP i9)))) :: (ao, .inl (k4 0, 19, .inl (fun i9 => iI (T i9)))) :: (xW k4 lo lnow lsl lcl lba ldu nsh nrk h1 r1 q1 h2 r2 q2 ta sa n (t + 1) 0 cc bc pot gr 0 nw bal (fun _ => 0) S1 S2 tx sg)) H locs := G
  refine z_iload E hl 0 rfl dL_law_525 ?_
  refine z_aload_n E hl 7 rfl dL_law_527 rfl ?_
  refine z_bipush E dL_law_528 (by decide) ?_
  refine z_iald E G 2 rfl (15) rfl (by decide) (by decide) dL_law_530 ?_
  refine z_eq (y := nw 4) i4.1 ?_
  refine z_min E hl.1 zw_4 zw_6 zw_5 zw_7 (Nat.le_of_ble_eq_true rfl) (Nat.le_of_ble_eq_true rfl) (by omega) (by omega) ⟨by omega, by omega⟩ ⟨by omega, by omega⟩ dL_law_531 ?_
  refine z_icmp_eq (tgt := 539) E dL_law_534 (by decide) ⟨by omega, by omega⟩ ⟨by omega, by omega⟩ (fun c_534 => ?_) (fun c_534 => absurd c_534 (by omega))
  refine z_aload_n E hl 8 rfl dL_law_539 rfl ?_
  refine z_iconst E dL_law_540 ?_
  refine z_callVs (pre := [(ea, .inl (k4 0, 48, .inl (fun i9 => iI (EF i9)))), (pa, .inl (k4 0, 48, .inl (fun i9 => iI (CP i9)))), (ao, .inl (k4 0, 19, .inl (fun i9 => iI (T i9))))]) E G hl.1 (c_X4_common l D k4 lo lnow lsl lcl lba ldu nsh nrk h1 r1 q1 h2 r2 q2 ta sa n (t + 1) 0 cc bc pot gr 0 nw bal (fun _ => 0) S1 S2 tx sg 0 (by decide)) kV_L_86 ⟨rfl, rfl, Nat.le_of_ble_eq_true rfl, Nat.le_of_ble_eq_true rfl⟩ 3 4 rfl rfl rfl rfl rfl (Nat.le_of_ble_eq_true rfl) dL_law_541 ⟨(by omega), (by omega)⟩ (fun v9 w9 H locs hq G => ?_)
  obtain ⟨rfl, rfl⟩ := hq
  refine W.eq (g2 := F0 mm 544 ls [.long (lI (if 0 = 0 then pot else if 0 = 1 then gr else 0))]) rfl ?_
  have G : zG D AA ss.heap ((ea, .inl (k4 0, 48, .inl (fun i9 => iI (EF i9)))) :: (pa, .inl (k4 0, 48, .inl (fun i9 => iI (CP i9)))) :: (ao, .inl (k4 0, 19, .inl (fun i9 => iI (T i9)))) :: (xW k4 lo lnow lsl lcl lba ldu nsh nrk h1 r1 q1 h2 r2 q2 ta sa n (t + 1) 0 cc bc pot gr 0 nw bal (fun _ => 0) S1 S2 tx sg)) H locs := G
  refine z_eql (y := pot) (if_pos rfl) ?_
  refine z_aload_n E hl 8 rfl dL_law_544 rfl ?_
  refine z_iconst E dL_law_545 ?_
  refine z_callVs (pre := [(ea, .inl (k4 0, 48, .inl (fun i9 => iI (EF i9)))), (pa, .inl (k4 0, 48, .inl (fun i9 => iI (CP i9)))), (ao, .inl (k4 0, 19, .inl (fun i9 => iI (T i9))))]) E G hl.1 (c_X4_common l D k4 lo lnow lsl lcl lba ldu nsh nrk h1 r1 q1 h2 r2 q2 ta sa n (t + 1) 0 cc bc pot gr 0 nw bal (fun _ => 0) S1 S2 tx sg 1 (by decide)) kV_L_86 ⟨rfl, rfl, Nat.le_of_ble_eq_true rfl, Nat.le_of_ble_eq_true rfl⟩ 3 4 rfl rfl rfl rfl rfl (Nat.le_of_ble_eq_true rfl) dL_law_546 ⟨(by omega), (by omega)⟩ (fun v9 w9 H locs hq G => ?_)
  obtain ⟨rfl, rfl⟩ := hq
  refine W.eq (g2 := F0 mm 549 ls [.long (lI (if 1 = 0 then pot else if 1 = 1 then gr else 0)), .long (lI (pot))]) rfl ?_
  have G : zG D AA ss.heap ((ea, .inl (k4 0, 48, .inl (fun i9 => iI (EF i9)))) :: (pa, .inl (k4 0, 48, .inl (fun i9 => iI (CP i9)))) :: (ao, .inl (k4 0, 19, .inl (fun i9 => iI (T i9)))) :: (xW k4 lo lnow lsl lcl lba ldu nsh nrk h1 r1 q1 h2 r2 q2 ta sa n (t + 1) 0 cc bc pot gr 0 nw bal (fun _ => 0) S1 S2 tx sg)) H locs := G
  refine z_eql (y := gr) (by rw [if_neg (by decide), if_pos rfl]) ?_
  refine z_ladd E dL_law_549 ?_
  refine z_aload_n E hl 8 rfl dL_law_550 rfl ?_
  refine z_iconst E dL_law_551 ?_
  refine z_callVs (pre := [(ea, .inl (k4 0, 48, .inl (fun i9 => iI (EF i9)))), (pa, .inl (k4 0, 48, .inl (fun i9 => iI (CP i9)))), (ao, .inl (k4 0, 19, .inl (fun i9 => iI (T i9))))]) E G hl.1 (c_X4_common l D k4 lo lnow lsl lcl lba ldu nsh nrk h1 r1 q1 h2 r2 q2 ta sa n (t + 1) 0 cc bc pot gr 0 nw bal (fun _ => 0) S1 S2 tx sg 2 (by decide)) kV_L_86 ⟨rfl, rfl, Nat.le_of_ble_eq_true rfl, Nat.le_of_ble_eq_true rfl⟩ 3 4 rfl rfl rfl rfl rfl (Nat.le_of_ble_eq_true rfl) dL_law_552 ⟨(by omega), (by omega)⟩ (fun v9 w9 H locs hq G => ?_)
  obtain ⟨rfl, rfl⟩ := hq
  refine W.eq (g2 := F0 mm 555 ls [.long (lI (if 2 = 0 then pot else if 2 = 1 then gr else 0)), .long (lI ((pot) + (gr)))]) rfl ?_
  have G : zG D AA ss.heap ((ea, .inl (k4 0, 48, .inl (fun i9 => iI (EF i9)))) :: (pa, .inl (k4 0, 48, .inl (fun i9 => iI (CP i9)))) :: (ao, .inl (k4 0, 19, .inl (fun i9 => iI (T i9)))) :: (xW k4 lo lnow lsl lcl lba ldu nsh nrk h1 r1 q1 h2 r2 q2 ta sa n (t + 1) 0 cc bc pot gr 0 nw bal (fun _ => 0) S1 S2 tx sg)) H locs := G
  refine z_eql (y := 0) (by rw [if_neg (by decide), if_neg (by decide)]) ?_
  refine z_ladd E dL_law_555 ?_
  refine z_eql (y := pot + gr + sumN bal 0) (by show _ = pot + gr + 0; omega) ?_
  refine z_lstore E [(10, .long (lI (pot + gr + sumN bal 0))), (9, .int (iI (con sg (t + 1)))), (8, .int (iI (((t : Nat) : Int)))), (7, .int (iI (x))), (6, .int (iI (((t : Nat) : Int)))), (5, .ref pa), (4, .ref ea), (3, .int (iI (((n : Nat) : Int)))), (2, .ref ao), (1, .ref lo), (0, .ref bs)] dL_law_556 hl (by decide) rfl (fun ls hl => ?_)
  refine z_iconst E dL_law_558 ?_
  refine z_istore E [(12, .int (iI (0))), (10, .long (lI (pot + gr + sumN bal 0))), (9, .int (iI (con sg (t + 1)))), (8, .int (iI (((t : Nat) : Int)))), (7, .int (iI (x))), (6, .int (iI (((t : Nat) : Int)))), (5, .ref pa), (4, .ref ea), (3, .int (iI (((n : Nat) : Int)))), (2, .ref ao), (1, .ref lo), (0, .ref bs)] dL_law_559 hl (by decide) rfl (fun ls hl => ?_)
  have hp561_1 : ∀ (n9 : Nat) (m : Nat) (H : Heap) (locs : List Loc) (ls : Array Slot), (n - m < n9) → (m ≤ n) → zG D AA ss.heap ((ea, .inl (k4 0, 48, .inl (fun i9 => iI (EF i9)))) :: (pa, .inl (k4 0, 48, .inl (fun i9 => iI (CP i9)))) :: (ao, .inl (k4 0, 19, .inl (fun i9 => iI (T i9)))) :: (xW k4 lo lnow lsl lcl lba ldu nsh nrk h1 r1 q1 h2 r2 q2 ta sa n (t + 1) 0 cc bc pot gr 0 nw bal (fun _ => 0) S1 S2 tx sg)) H locs → lv_has ls 18 [(12, .int (iI (((m : Nat) : Int)))), (10, .long (lI (pot + gr + sumN bal m))), (8, .int (iI (((t : Nat) : Int)))), (7, .int (iI (x))), (6, .int (iI (((t : Nat) : Int)))), (5, .ref pa), (4, .ref ea), (3, .int (iI (((n : Nat) : Int)))), (2, .ref ao), (1, .ref lo), (0, .ref bs)] → W pp l ee room_1 ss mm #[Value.ref bs] bl me co H locs (cl9) (sl9) Q9 (F0 mm 561 ls []) := by
    intro n9
    induction n9 with
    | zero => intro m H locs ls hn9 hm G hl; exact absurd hn9 (by omega)
    | succ n9 ih =>
      intro m H locs ls hn9 hm G hl
      have ih561_1 := @ih
      refine z_iload E hl 0 rfl dL_law_561 ?_
      refine z_iload_n E hl 7 rfl dL_law_563 rfl ?_
      refine z_icmp_ge (tgt := 593) E dL_law_564 (by decide) ⟨by omega, by omega⟩ ⟨by omega, by omega⟩ (fun c_564 => ?_) (fun c_564 => ?_)
      · skip
        obtain rfl : m = n := by omega
        refine z_lload E hl 1 rfl dL_law_593 ?_
        refine z_eql (y := 0) i7 ?_
        refine z_lconst E (z := 0) dL_law_595 (by decide) ?_
        refine z_lcmp E dL_law_596 ?_
        refine z_eq (y := 0) (lcI_self 0) ?_
        refine z_if_ne (tgt := 618) E dL_law_597 (by decide) (by decide) (fun c_597 => absurd c_597 (by omega)) (fun c_597 => ?_)
        exact kk _ _ _ G (lv_sub hl [2, 3, 4, 5, 6, 7, 8, 9, 10] rfl)
      · skip
        refine z_lload E hl 1 rfl dL_law_567 ?_
        refine z_aload_n E hl 9 rfl dL_law_569 rfl ?_
        refine z_iload E hl 0 rfl dL_law_570 ?_
        refine z_iconst E dL_law_572 ?_
        refine z_callVs (pre := [(ea, .inl (k4 0, 48, .inl (fun i9 => iI (EF i9)))), (pa, .inl (k4 0, 48, .inl (fun i9 => iI (CP i9)))), (ao, .inl (k4 0, 19, .inl (fun i9 => iI (T i9))))]) E G hl.1 (c_X4_account l D k4 lo lnow lsl lcl lba ldu nsh nrk h1 r1 q1 h2 r2 q2 ta sa n (t + 1) 0 cc bc pot gr 0 nw bal (fun _ => 0) S1 S2 tx sg m 0 hX (by omega) (Or.inl rfl)) kV_L_90 ⟨rfl, rfl, Nat.le_of_ble_eq_true rfl, Nat.le_of_ble_eq_true rfl⟩ 3 4 rfl rfl rfl rfl rfl (Nat.le_of_ble_eq_true rfl) dL_law_573 ⟨(by omega), (by omega)⟩ (fun v9 w9 H locs hq G => ?_)
        obtain ⟨rfl, rfl⟩ := hq
        refine W.eq (g2 := F0 mm 576 ls [.long (lI (if 0 = 0 then bal m else (fun _ => 0) m)), .long (lI (pot + gr + sumN bal m))]) rfl ?_
        have G : zG D AA ss.heap ((ea, .inl (k4 0, 48, .inl (fun i9 => iI (EF i9)))) :: (pa, .inl (k4 0, 48, .inl (fun i9 => iI (CP i9)))) :: (ao, .inl (k4 0, 19, .inl (fun i9 => iI (T i9)))) :: (xW k4 lo lnow lsl lcl lba ldu nsh nrk h1 r1 q1 h2 r2 q2 ta sa n (t + 1) 0 cc bc pot gr 0 nw bal (fun _ => 0) S1 S2 tx sg)) H locs := G
        refine z_eql (y := bal m) (if_pos rfl) ?_
        refine z_aload_n E hl 9 rfl dL_law_576 rfl ?_
        refine z_iload E hl 0 rfl dL_law_577 ?_
        refine z_iconst E dL_law_579 ?_
        refine z_callVs (pre := [(ea, .inl (k4 0, 48, .inl (fun i9 => iI (EF i9)))), (pa, .inl (k4 0, 48, .inl (fun i9 => iI (CP i9)))), (ao, .inl (k4 0, 19, .inl (fun i9 => iI (T i9))))]) E G hl.1 (c_X4_account l D k4 lo lnow lsl lcl lba ldu nsh nrk h1 r1 q1 h2 r2 q2 ta sa n (t + 1) 0 cc bc pot gr 0 nw bal (fun _ => 0) S1 S2 tx sg m 1 hX (by omega) (Or.inr rfl)) kV_L_90 ⟨rfl, rfl, Nat.le_of_ble_eq_true rfl, Nat.le_of_ble_eq_true rfl⟩ 3 4 rfl rfl rfl rfl rfl (Nat.le_of_ble_eq_true rfl) dL_law_580 ⟨(by omega), (by omega)⟩ (fun v9 w9 H locs hq G => ?_)
        obtain ⟨rfl, rfl⟩ := hq
        refine W.eq (g2 := F0 mm 583 ls [.long (lI (if 1 = 0 then bal m else (fun _ => 0) m)), .long (lI (bal m)), .long (lI (pot + gr + sumN bal m))]) rfl ?_
        have G : zG D AA ss.heap ((ea, .inl (k4 0, 48, .inl (fun i9 => iI (EF i9)))) :: (pa, .inl (k4 0, 48, .inl (fun i9 => iI (CP i9)))) :: (ao, .inl (k4 0, 19, .inl (fun i9 => iI (T i9)))) :: (xW k4 lo lnow lsl lcl lba ldu nsh nrk h1 r1 q1 h2 r2 q2 ta sa n (t + 1) 0 cc bc pot gr 0 nw bal (fun _ => 0) S1 S2 tx sg)) H locs := G
        refine z_eql (y := 0) (if_neg (by decide)) ?_
        refine z_ladd E dL_law_583 ?_
        refine z_ladd E dL_law_584 ?_
        refine z_eql (y := pot + gr + sumN bal (m + 1)) (by show _ = pot + gr + (sumN bal m + bal m); omega) ?_
        refine z_lstore E [(10, .long (lI (pot + gr + sumN bal (m + 1)))), (12, .int (iI (((m : Nat) : Int)))), (8, .int (iI (((t : Nat) : Int)))), (7, .int (iI (x))), (6, .int (iI (((t : Nat) : Int)))), (5, .ref pa), (4, .ref ea), (3, .int (iI (((n : Nat) : Int)))), (2, .ref ao), (1, .ref lo), (0, .ref bs)] dL_law_585 hl (by decide) rfl (fun ls hl => ?_)
        refine z_iinc E [(12, .int (iI (((m : Nat) : Int) + 1))), (10, .long (lI (pot + gr + sumN bal (m + 1)))), (8, .int (iI (((t : Nat) : Int)))), (7, .int (iI (x))), (6, .int (iI (((t : Nat) : Int)))), (5, .ref pa), (4, .ref ea), (3, .int (iI (((n : Nat) : Int)))), (2, .ref ao), (1, .ref lo), (0, .ref bs)] dL_law_587 hl (k := 1) rfl (by decide) rfl (fun ls hl => ?_)
        refine z_goto (tgt := 561) E dL_law_590 (by decide) ?_
        exact ih561_1 (m + 1) _ _ _ (by omega) (by omega) G (lv_sub hl [0, 1, 2, 3, 4, 5, 6, 7, 8, 9, 10] rfl)
  exact hp561_1 (n + 1) 0 _ _ _ (by omega) (by omega) G (lv_sub hl [0, 1, 3, 4, 5, 6, 7, 8, 9, 10, 11] rfl)
