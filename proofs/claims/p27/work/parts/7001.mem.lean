set_option maxHeartbeats 4000000 in
set_option maxRecDepth 100000 in
theorem t_mem {pp : Program} {l : Launch} {ee : Env} {ss : State} {mm : MethodId} {bl : List Frame} {me : Method} {co : Code} {AA : Nat → Prop} {H : Heap} {locs : List Loc} {ls : Array Slot} {Q9 : State → Prop} {D : va_G} {k4 : Nat → ClassId} {bs Ls : Nat} {xs : Nat → Int32} {cl9 sl9 : Nat} (E : zE pp mm co cL_law 18 ss #[Value.ref bs] RL D k4) (S9 : zSc bs Ls xs ss AA) (lo lnow lsl lcl lba ldu nsh nrk h1 r1 q1 h2 r2 q2 : Nat) (ta : Nat → Nat) (sa : Nat → Nat → Nat) (n t : Nat) (cc bc pot gr : Int) (nw bal : Nat → Int) (S1 S2 : sS) (tx : Nat → Nat → Int) (sg : Nat → Nat → Nat → Int) (ea pa ao : Nat) (EF CP T : Nat → Int) (k : Nat) (x c9 : Int) (hX : xOK n (t + 1) 0 bc nw S1 S2 tx sg) (hsl : slOK (sg k)) (hfc : fc (sg k)) (hn6 : n ≤ 6) (hk : k ≤ t) (ht : t < 14) (hc9 : cl9 + 6 ≤ room_1.cells) (hs9 : sl9 + 48 ≤ room_1.slots) (G : zG D AA ss.heap ((ea, .inl (k4 0, 48, .inl (fun i9 => iI (EF i9)))) :: (pa, .inl (k4 0, 48, .inl (fun i9 => iI (CP i9)))) :: (ao, .inl (k4 0, 19, .inl (fun i9 => iI (T i9)))) :: (xW k4 lo lnow lsl lcl lba ldu nsh nrk h1 r1 q1 h2 r2 q2 ta sa n (t + 1) 0 cc bc pot gr 0 nw bal (fun _ => 0) S1 S2 tx sg)) H locs) (hl : lv_has ls 18 [(15, .int (iI (0))), (14, .int (iI (0))), (13, .int (iI (0))), (12, .int (iI (0))), (11, .int (iI (0))), (10, .int (iI (((k : Nat) : Int)))), (9, .int (iI (c9))), (8, .int (iI (((t : Nat) : Int)))), (7, .int (iI (x))), (6, .int (iI (((t : Nat) : Int)))), (5, .ref pa), (4, .ref ea), (3, .int (iI (((n : Nat) : Int)))), (2, .ref ao), (1, .ref lo), (0, .ref bs)]) (kk : ∀  (H : Heap) (locs : List Loc) (ls : Array Slot), zG D AA ss.heap ((ea, .inl (k4 0, 48, .inl (fun i9 => iI (EF i9)))) :: (pa, .inl (k4 0, 48, .inl (fun i9 => iI (CP i9)))) :: (ao, .inl (k4 0, 19, .inl (fun i9 => iI (T i9)))) :: (xW k4 lo lnow lsl lcl lba ldu nsh nrk h1 r1 q1 h2 r2 q2 ta sa n (t + 1) 0 cc bc pot gr 0 nw bal (fun _ => 0) S1 S2 tx sg)) H locs → lv_has ls 18 [(14, .int (iI (sumN (fun i8 => sg k 3 (i8 * 8 + 2)) n))), (13, .int (iI (sumN (fun i8 => sg k 3 (i8 * 8 + 5)) n))), (12, .int (iI (sumN (fun i8 => sg k 3 (i8 * 8 + 4)) n))), (11, .int (iI (sumN (fun i8 => sg k 3 (i8 * 8 + 1)) n))), (10, .int (iI (((k : Nat) : Int)))), (9, .int (iI (c9))), (8, .int (iI (((t : Nat) : Int)))), (7, .int (iI (x))), (6, .int (iI (((t : Nat) : Int)))), (5, .ref pa), (4, .ref ea), (3, .int (iI (((n : Nat) : Int)))), (2, .ref ao), (1, .ref lo), (0, .ref bs)] → W pp l ee room_1 ss mm #[Value.ref bs] bl me co H locs (cl9 + 6) (sl9 + 48) Q9 (F0 mm 460 ls [])) : W pp l ee room_1 ss mm #[Value.ref bs] bl me co H locs (cl9) (sl9) Q9 (F0 mm 265 ls []) := by
  have hp265_1 : ∀ (n9 : Nat) (m : Nat) (H : Heap) (locs : List Loc) (ls : Array Slot), (n - m < n9) → (m ≤ n) → zG D AA ss.heap ((ea, .inl (k4 0, 48, .inl (fun i9 => iI (EF i9)))) :: (pa, .inl (k4 0, 48, .inl (fun i9 => iI (CP i9)))) :: (ao, .inl (k4 0, 19, .inl (fun i9 => iI (T i9)))) :: (xW k4 lo lnow lsl lcl lba ldu nsh nrk h1 r1 q1 h2 r2 q2 ta sa n (t + 1) 0 cc bc pot gr 0 nw bal (fun _ => 0) S1 S2 tx sg)) H locs → lv_has ls 18 [(15, .int (iI (((m : Nat) : Int)))), (14, .int (iI (sumN (fun i8 => sg k 3 (i8 * 8 + 2)) m))), (13, .int (iI (sumN (fun i8 => sg k 3 (i8 * 8 + 5)) m))), (12, .int (iI (sumN (fun i8 => sg k 3 (i8 * 8 + 4)) m))), (11, .int (iI (sumN (fun i8 => sg k 3 (i8 * 8 + 1)) m))), (10, .int (iI (((k : Nat) : Int)))), (9, .int (iI (c9))), (8, .int (iI (((t : Nat) : Int)))), (7, .int (iI (x))), (6, .int (iI (((t : Nat) : Int)))), (5, .ref pa), (4, .ref ea), (3, .int (iI (((n : Nat) : Int)))), (2, .ref ao), (1, .ref lo), (0, .ref bs)] → W pp l ee room_1 ss mm #[Value.ref bs] bl me co H locs (cl9 + m) (sl9 + 8 * m) Q9 (F0 mm 265 ls []) := by
    intro n9
    induction n9 with
    | zero => intro m H locs ls hn9 hm G hl; exact absurd hn9 (by omega)
    | succ n9 ih =>
      intro m H locs ls hn9 hm G hl
      have ih265_1 := @ih
      refine z_iload E hl 0 rfl dL_law_265 ?_
      refine z_iload_n E hl 12 rfl dL_law_267 rfl ?_
      refine z_icmp_ge (tgt := 460) E dL_law_268 (by decide) ⟨by omega, by omega⟩ ⟨by omega, by omega⟩ (fun c_268 => ?_) (fun c_268 => ?_)
      · skip
        obtain rfl : m = n := by omega
        refine W.widen (show cl9 + m ≤ cl9 + 6 by omega) (show sl9 + 8 * m ≤ sl9 + 48 by omega) ?_
        exact kk _ _ _ G (lv_sub hl [1, 2, 3, 4, 5, 6, 7, 8, 9, 10, 11, 12, 13, 14, 15] rfl)
      · skip
        refine z_bipush E dL_law_271 (by decide) ?_
        refine z_newa_int E G (n := 8) rfl zw_3 (by omega) (by omega) (by decide) dL_law_273 (fun fo H G => ?_)
        have G := zG.front G
        have G : zG D AA ss.heap ((fo, .inl (k4 0, 8, .inl (fun i9 => iI ((fun _ => 0) i9)))) :: (ea, .inl (k4 0, 48, .inl (fun i9 => iI (EF i9)))) :: (pa, .inl (k4 0, 48, .inl (fun i9 => iI (CP i9)))) :: (ao, .inl (k4 0, 19, .inl (fun i9 => iI (T i9)))) :: (xW k4 lo lnow lsl lcl lba ldu nsh nrk h1 r1 q1 h2 r2 q2 ta sa n (t + 1) 0 cc bc pot gr 0 nw bal (fun _ => 0) S1 S2 tx sg)) H locs := G
        refine z_astore E [(16, .ref fo), (15, .int (iI (((m : Nat) : Int)))), (14, .int (iI (sumN (fun i8 => sg k 3 (i8 * 8 + 2)) m))), (13, .int (iI (sumN (fun i8 => sg k 3 (i8 * 8 + 5)) m))), (12, .int (iI (sumN (fun i8 => sg k 3 (i8 * 8 + 4)) m))), (11, .int (iI (sumN (fun i8 => sg k 3 (i8 * 8 + 1)) m))), (10, .int (iI (((k : Nat) : Int)))), (9, .int (iI (c9))), (8, .int (iI (((t : Nat) : Int)))), (7, .int (iI (x))), (6, .int (iI (((t : Nat) : Int)))), (5, .ref pa), (4, .ref ea), (3, .int (iI (((n : Nat) : Int)))), (2, .ref ao), (1, .ref lo), (0, .ref bs)] dL_law_275 hl (by decide) rfl (fun ls hl => ?_)
        refine z_iconst E dL_law_277 ?_
        refine z_istore E [(17, .int (iI (0))), (16, .ref fo), (15, .int (iI (((m : Nat) : Int)))), (14, .int (iI (sumN (fun i8 => sg k 3 (i8 * 8 + 2)) m))), (13, .int (iI (sumN (fun i8 => sg k 3 (i8 * 8 + 5)) m))), (12, .int (iI (sumN (fun i8 => sg k 3 (i8 * 8 + 4)) m))), (11, .int (iI (sumN (fun i8 => sg k 3 (i8 * 8 + 1)) m))), (10, .int (iI (((k : Nat) : Int)))), (9, .int (iI (c9))), (8, .int (iI (((t : Nat) : Int)))), (7, .int (iI (x))), (6, .int (iI (((t : Nat) : Int)))), (5, .ref pa), (4, .ref ea), (3, .int (iI (((n : Nat) : Int)))), (2, .ref ao), (1, .ref lo), (0, .ref bs)] dL_law_278 hl (by decide) rfl (fun ls hl => ?_)
        refine t_what E S9 lo lnow lsl lcl lba ldu nsh nrk h1 r1 q1 h2 r2 q2 ta sa n t cc bc pot gr nw bal S1 S2 tx sg ea pa ao EF CP T k m x c9 (sumN (fun i8 => sg k 3 (i8 * 8 + 1)) m) (sumN (fun i8 => sg k 3 (i8 * 8 + 4)) m) (sumN (fun i8 => sg k 3 (i8 * 8 + 5)) m) (sumN (fun i8 => sg k 3 (i8 * 8 + 2)) m) fo (fun _ => 0) hX (by omega) hk ht (fun w hw => hsl.2.2.2.1.1 m (by omega) w hw) (by omega) (by omega) G (lv_sub hl [0, 1, 2, 3, 4, 5, 6, 7, 8, 9, 10, 11, 12, 13, 14, 15, 16, 17] rfl) (fun H locs ls G hl => ?_)
        have G : zG D AA ss.heap ((fo, .inl (k4 0, 8, .inl (fun i9 => iI ((cp (fun i8 => sg k 3 (m * 8 + i8)) (fun _ => 0) 8) i9)))) :: (ea, .inl (k4 0, 48, .inl (fun i9 => iI (EF i9)))) :: (pa, .inl (k4 0, 48, .inl (fun i9 => iI (CP i9)))) :: (ao, .inl (k4 0, 19, .inl (fun i9 => iI (T i9)))) :: (xW k4 lo lnow lsl lcl lba ldu nsh nrk h1 r1 q1 h2 r2 q2 ta sa n (t + 1) 0 cc bc pot gr 0 nw bal (fun _ => 0) S1 S2 tx sg)) H locs := G
        have hmf := fc_mem hsl hfc (m := m) (by omega)
        obtain ⟨⟨f1, f2, f3⟩, ⟨f4, f5, f6⟩, f7, f8, f9⟩ := hmf
        have b1 := hsl.2.1 m (by omega)
        have b2 := hsl.2.2.1 m (by omega)
        refine z_aload E hl 0 rfl dL_law_325 ?_
        refine z_iconst E dL_law_327 ?_
        refine z_iald E G 0 rfl (0) rfl (by decide) (by decide) dL_law_328 ?_
        refine z_eq (y := sg k 3 (m * 8 + 0)) rfl ?_
        refine z_aload E hl 0 rfl dL_law_329 ?_
        refine z_iconst E dL_law_331 ?_
        refine z_iald E G 0 rfl (1) rfl (by decide) (by decide) dL_law_332 ?_
        refine z_eq (y := sg k 3 (m * 8 + 1)) rfl ?_
        refine z_iadd E dL_law_333 ?_
        refine z_aload E hl 0 rfl dL_law_334 ?_
        refine z_iconst E dL_law_336 ?_
        refine z_iald E G 0 rfl (2) rfl (by decide) (by decide) dL_law_337 ?_
        refine z_eq (y := sg k 3 (m * 8 + 2)) rfl ?_
        refine z_iadd E dL_law_338 ?_
        refine z_aload E hl 0 rfl dL_law_339 ?_
        refine z_iconst E dL_law_341 ?_
        refine z_iald E G 0 rfl (3) rfl (by decide) (by decide) dL_law_342 ?_
        refine z_eq (y := sg k 3 (m * 8 + 3)) rfl ?_
        refine z_iadd E dL_law_343 ?_
        refine z_aload_n E hl 15 rfl dL_law_344 rfl ?_
        refine z_iload E hl 1 rfl dL_law_345 ?_
        refine z_iload E hl 6 rfl dL_law_347 ?_
        refine z_iconst E dL_law_349 ?_
        refine z_callVs (pre := [(fo, .inl (k4 0, 8, .inl (fun i9 => iI ((cp (fun i8 => sg k 3 (m * 8 + i8)) (fun _ => 0) 8) i9)))), (ea, .inl (k4 0, 48, .inl (fun i9 => iI (EF i9)))), (pa, .inl (k4 0, 48, .inl (fun i9 => iI (CP i9)))), (ao, .inl (k4 0, 19, .inl (fun i9 => iI (T i9))))]) E G hl.1 (c_X4_reading l D k4 lo lnow lsl lcl lba ldu nsh nrk h1 r1 q1 h2 r2 q2 ta sa n (t + 1) 0 cc bc pot gr 0 nw bal (fun _ => 0) S1 S2 tx sg m k 1 hX (by omega) (by omega) (Or.inr rfl)) kV_L_79 ⟨rfl, rfl, Nat.le_of_ble_eq_true rfl, Nat.le_of_ble_eq_true rfl⟩ 4 4 rfl rfl rfl rfl rfl (Nat.le_of_ble_eq_true rfl) dL_law_350 ⟨(by omega), (by omega)⟩ (fun v9 w9 H locs hq G => ?_)
        obtain ⟨rfl, rfl⟩ := hq
        refine W.eq (g2 := F0 mm 353 ls [.int (iI (if 1 = 0 then sg k 1 m else sg k 2 m)), .int (iI ((((sg k 3 (m * 8 + 0)) + (sg k 3 (m * 8 + 1))) + (sg k 3 (m * 8 + 2))) + (sg k 3 (m * 8 + 3))))]) rfl ?_
        have G : zG D AA ss.heap ((fo, .inl (k4 0, 8, .inl (fun i9 => iI ((cp (fun i8 => sg k 3 (m * 8 + i8)) (fun _ => 0) 8) i9)))) :: (ea, .inl (k4 0, 48, .inl (fun i9 => iI (EF i9)))) :: (pa, .inl (k4 0, 48, .inl (fun i9 => iI (CP i9)))) :: (ao, .inl (k4 0, 19, .inl (fun i9 => iI (T i9)))) :: (xW k4 lo lnow lsl lcl lba ldu nsh nrk h1 r1 q1 h2 r2 q2 ta sa n (t + 1) 0 cc bc pot gr 0 nw bal (fun _ => 0) S1 S2 tx sg)) H locs := G
        refine z_eq (y := sg k 2 m) (if_neg (by decide)) ?_
        refine z_icmp_ne (tgt := 416) E dL_law_353 (by decide) ⟨by omega, by omega⟩ ⟨by omega, by omega⟩ (fun c_353 => absurd c_353 (by omega)) (fun c_353 => ?_)
        refine z_aload E hl 0 rfl dL_law_356 ?_
        refine z_iconst E dL_law_358 ?_
        refine z_iald E G 0 rfl (0) rfl (by decide) (by decide) dL_law_359 ?_
        refine z_eq (y := sg k 3 (m * 8 + 0)) rfl ?_
        refine z_aload E hl 0 rfl dL_law_360 ?_
        refine z_iconst E dL_law_362 ?_
        refine z_iald E G 0 rfl (4) rfl (by decide) (by decide) dL_law_363 ?_
        refine z_eq (y := sg k 3 (m * 8 + 4)) rfl ?_
        refine z_iadd E dL_law_364 ?_
        refine z_aload E hl 0 rfl dL_law_365 ?_
        refine z_iconst E dL_law_367 ?_
        refine z_iald E G 0 rfl (5) rfl (by decide) (by decide) dL_law_368 ?_
        refine z_eq (y := sg k 3 (m * 8 + 5)) rfl ?_
        refine z_iadd E dL_law_369 ?_
        refine z_aload E hl 0 rfl dL_law_370 ?_
        refine z_bipush E dL_law_372 (by decide) ?_
        refine z_iald E G 0 rfl (6) rfl (by decide) (by decide) dL_law_374 ?_
        refine z_eq (y := sg k 3 (m * 8 + 6)) rfl ?_
        refine z_iadd E dL_law_375 ?_
        refine z_aload_n E hl 15 rfl dL_law_376 rfl ?_
        refine z_iload E hl 1 rfl dL_law_377 ?_
        refine z_iload E hl 6 rfl dL_law_379 ?_
        refine z_iconst E dL_law_381 ?_
        refine z_callVs (pre := [(fo, .inl (k4 0, 8, .inl (fun i9 => iI ((cp (fun i8 => sg k 3 (m * 8 + i8)) (fun _ => 0) 8) i9)))), (ea, .inl (k4 0, 48, .inl (fun i9 => iI (EF i9)))), (pa, .inl (k4 0, 48, .inl (fun i9 => iI (CP i9)))), (ao, .inl (k4 0, 19, .inl (fun i9 => iI (T i9))))]) E G hl.1 (c_X4_reading l D k4 lo lnow lsl lcl lba ldu nsh nrk h1 r1 q1 h2 r2 q2 ta sa n (t + 1) 0 cc bc pot gr 0 nw bal (fun _ => 0) S1 S2 tx sg m k 0 hX (by omega) (by omega) (Or.inl rfl)) kV_L_79 ⟨rfl, rfl, Nat.le_of_ble_eq_true rfl, Nat.le_of_ble_eq_true rfl⟩ 4 4 rfl rfl rfl rfl rfl (Nat.le_of_ble_eq_true rfl) dL_law_382 ⟨(by omega), (by omega)⟩ (fun v9 w9 H locs hq G => ?_)
        obtain ⟨rfl, rfl⟩ := hq
        refine W.eq (g2 := F0 mm 385 ls [.int (iI (if 0 = 0 then sg k 1 m else sg k 2 m)), .int (iI ((((sg k 3 (m * 8 + 0)) + (sg k 3 (m * 8 + 4))) + (sg k 3 (m * 8 + 5))) + (sg k 3 (m * 8 + 6))))]) rfl ?_
        have G : zG D AA ss.heap ((fo, .inl (k4 0, 8, .inl (fun i9 => iI ((cp (fun i8 => sg k 3 (m * 8 + i8)) (fun _ => 0) 8) i9)))) :: (ea, .inl (k4 0, 48, .inl (fun i9 => iI (EF i9)))) :: (pa, .inl (k4 0, 48, .inl (fun i9 => iI (CP i9)))) :: (ao, .inl (k4 0, 19, .inl (fun i9 => iI (T i9)))) :: (xW k4 lo lnow lsl lcl lba ldu nsh nrk h1 r1 q1 h2 r2 q2 ta sa n (t + 1) 0 cc bc pot gr 0 nw bal (fun _ => 0) S1 S2 tx sg)) H locs := G
        refine z_eq (y := sg k 1 m) (if_pos rfl) ?_
        refine z_icmp_ne (tgt := 416) E dL_law_385 (by decide) ⟨by omega, by omega⟩ ⟨by omega, by omega⟩ (fun c_385 => absurd c_385 (by omega)) (fun c_385 => ?_)
        refine z_aload E hl 0 rfl dL_law_388 ?_
        refine z_iconst E dL_law_390 ?_
        refine z_iald E G 0 rfl (0) rfl (by decide) (by decide) dL_law_391 ?_
        refine z_eq (y := sg k 3 (m * 8 + 0)) rfl ?_
        refine z_aload_n E hl 15 rfl dL_law_392 rfl ?_
        refine z_iload E hl 1 rfl dL_law_393 ?_
        refine z_iload E hl 6 rfl dL_law_395 ?_
        refine z_iconst E dL_law_397 ?_
        refine z_callVs (pre := [(fo, .inl (k4 0, 8, .inl (fun i9 => iI ((cp (fun i8 => sg k 3 (m * 8 + i8)) (fun _ => 0) 8) i9)))), (ea, .inl (k4 0, 48, .inl (fun i9 => iI (EF i9)))), (pa, .inl (k4 0, 48, .inl (fun i9 => iI (CP i9)))), (ao, .inl (k4 0, 19, .inl (fun i9 => iI (T i9))))]) E G hl.1 (c_X4_reading l D k4 lo lnow lsl lcl lba ldu nsh nrk h1 r1 q1 h2 r2 q2 ta sa n (t + 1) 0 cc bc pot gr 0 nw bal (fun _ => 0) S1 S2 tx sg m k 1 hX (by omega) (by omega) (Or.inr rfl)) kV_L_79 ⟨rfl, rfl, Nat.le_of_ble_eq_true rfl, Nat.le_of_ble_eq_true rfl⟩ 4 4 rfl rfl rfl rfl rfl (Nat.le_of_ble_eq_true rfl) dL_law_398 ⟨(by omega), (by omega)⟩ (fun v9 w9 H locs hq G => ?_)
        obtain ⟨rfl, rfl⟩ := hq
        refine W.eq (g2 := F0 mm 401 ls [.int (iI (if 1 = 0 then sg k 1 m else sg k 2 m)), .int (iI (sg k 3 (m * 8 + 0)))]) rfl ?_
        have G : zG D AA ss.heap ((fo, .inl (k4 0, 8, .inl (fun i9 => iI ((cp (fun i8 => sg k 3 (m * 8 + i8)) (fun _ => 0) 8) i9)))) :: (ea, .inl (k4 0, 48, .inl (fun i9 => iI (EF i9)))) :: (pa, .inl (k4 0, 48, .inl (fun i9 => iI (CP i9)))) :: (ao, .inl (k4 0, 19, .inl (fun i9 => iI (T i9)))) :: (xW k4 lo lnow lsl lcl lba ldu nsh nrk h1 r1 q1 h2 r2 q2 ta sa n (t + 1) 0 cc bc pot gr 0 nw bal (fun _ => 0) S1 S2 tx sg)) H locs := G
        refine z_eq (y := sg k 2 m) (if_neg (by decide)) ?_
        refine z_aload_n E hl 15 rfl dL_law_401 rfl ?_
        refine z_iload E hl 1 rfl dL_law_402 ?_
        refine z_iload E hl 6 rfl dL_law_404 ?_
        refine z_iconst E dL_law_406 ?_
        refine z_callVs (pre := [(fo, .inl (k4 0, 8, .inl (fun i9 => iI ((cp (fun i8 => sg k 3 (m * 8 + i8)) (fun _ => 0) 8) i9)))), (ea, .inl (k4 0, 48, .inl (fun i9 => iI (EF i9)))), (pa, .inl (k4 0, 48, .inl (fun i9 => iI (CP i9)))), (ao, .inl (k4 0, 19, .inl (fun i9 => iI (T i9))))]) E G hl.1 (c_X4_reading l D k4 lo lnow lsl lcl lba ldu nsh nrk h1 r1 q1 h2 r2 q2 ta sa n (t + 1) 0 cc bc pot gr 0 nw bal (fun _ => 0) S1 S2 tx sg m k 0 hX (by omega) (by omega) (Or.inl rfl)) kV_L_79 ⟨rfl, rfl, Nat.le_of_ble_eq_true rfl, Nat.le_of_ble_eq_true rfl⟩ 4 4 rfl rfl rfl rfl rfl (Nat.le_of_ble_eq_true rfl) dL_law_407 ⟨(by omega), (by omega)⟩ (fun v9 w9 H locs hq G => ?_)
        obtain ⟨rfl, rfl⟩ := hq
        refine W.eq (g2 := F0 mm 410 ls [.int (iI (if 0 = 0 then sg k 1 m else sg k 2 m)), .int (iI (sg k 2 m)), .int (iI (sg k 3 (m * 8 + 0)))]) rfl ?_
        have G : zG D AA ss.heap ((fo, .inl (k4 0, 8, .inl (fun i9 => iI ((cp (fun i8 => sg k 3 (m * 8 + i8)) (fun _ => 0) 8) i9)))) :: (ea, .inl (k4 0, 48, .inl (fun i9 => iI (EF i9)))) :: (pa, .inl (k4 0, 48, .inl (fun i9 => iI (CP i9)))) :: (ao, .inl (k4 0, 19, .inl (fun i9 => iI (T i9)))) :: (xW k4 lo lnow lsl lcl lba ldu nsh nrk h1 r1 q1 h2 r2 q2 ta sa n (t + 1) 0 cc bc pot gr 0 nw bal (fun _ => 0) S1 S2 tx sg)) H locs := G
        refine z_eq (y := sg k 1 m) (if_pos rfl) ?_
        refine z_min E hl.1 zw_4 zw_6 zw_5 zw_7 (Nat.le_of_ble_eq_true rfl) (Nat.le_of_ble_eq_true rfl) (by omega) (by omega) ⟨by omega, by omega⟩ ⟨by omega, by omega⟩ dL_law_410 ?_
        refine z_icmp_eq (tgt := 418) E dL_law_413 (by decide) ⟨by omega, by omega⟩ ⟨by omega, by omega⟩ (fun c_413 => ?_) (fun c_413 => absurd c_413 (by omega))
        refine z_iload E hl 5 rfl dL_law_418 ?_
        refine z_aload E hl 0 rfl dL_law_420 ?_
        refine z_iconst E dL_law_422 ?_
        refine z_iald E G 0 rfl (1) rfl (by decide) (by decide) dL_law_423 ?_
        refine z_eq (y := sg k 3 (m * 8 + 1)) rfl ?_
        refine z_iadd E dL_law_424 ?_
        refine z_eq (y := sumN (fun i8 => sg k 3 (i8 * 8 + 1)) (m + 1)) rfl ?_
        refine z_istore E [(11, .int (iI (sumN (fun i8 => sg k 3 (i8 * 8 + 1)) (m + 1)))), (16, .ref fo), (15, .int (iI (((m : Nat) : Int)))), (14, .int (iI ((sumN (fun i8 => sg k 3 (i8 * 8 + 2)) m)))), (13, .int (iI ((sumN (fun i8 => sg k 3 (i8 * 8 + 5)) m)))), (12, .int (iI ((sumN (fun i8 => sg k 3 (i8 * 8 + 4)) m)))), (10, .int (iI (((k : Nat) : Int)))), (9, .int (iI (c9))), (8, .int (iI (((t : Nat) : Int)))), (7, .int (iI (x))), (6, .int (iI (((t : Nat) : Int)))), (5, .ref pa), (4, .ref ea), (3, .int (iI (((n : Nat) : Int)))), (2, .ref ao), (1, .ref lo), (0, .ref bs)] dL_law_425 hl (by decide) rfl (fun ls hl => ?_)
        refine z_iload E hl 5 rfl dL_law_427 ?_
        refine z_aload E hl 1 rfl dL_law_429 ?_
        refine z_iconst E dL_law_431 ?_
        refine z_iald E G 0 rfl (4) rfl (by decide) (by decide) dL_law_432 ?_
        refine z_eq (y := sg k 3 (m * 8 + 4)) rfl ?_
        refine z_iadd E dL_law_433 ?_
        refine z_eq (y := sumN (fun i8 => sg k 3 (i8 * 8 + 4)) (m + 1)) rfl ?_
        refine z_istore E [(12, .int (iI (sumN (fun i8 => sg k 3 (i8 * 8 + 4)) (m + 1)))), (11, .int (iI (sumN (fun i8 => sg k 3 (i8 * 8 + 1)) (m + 1)))), (16, .ref fo), (15, .int (iI (((m : Nat) : Int)))), (14, .int (iI ((sumN (fun i8 => sg k 3 (i8 * 8 + 2)) m)))), (13, .int (iI ((sumN (fun i8 => sg k 3 (i8 * 8 + 5)) m)))), (10, .int (iI (((k : Nat) : Int)))), (9, .int (iI (c9))), (8, .int (iI (((t : Nat) : Int)))), (7, .int (iI (x))), (6, .int (iI (((t : Nat) : Int)))), (5, .ref pa), (4, .ref ea), (3, .int (iI (((n : Nat) : Int)))), (2, .ref ao), (1, .ref lo), (0, .ref bs)] dL_law_434 hl (by decide) rfl (fun ls hl => ?_)
        refine z_iload E hl 5 rfl dL_law_436 ?_
        refine z_aload E hl 2 rfl dL_law_438 ?_
        refine z_iconst E dL_law_440 ?_
        refine z_iald E G 0 rfl (5) rfl (by decide) (by decide) dL_law_441 ?_
        refine z_eq (y := sg k 3 (m * 8 + 5)) rfl ?_
        refine z_iadd E dL_law_442 ?_
        refine z_eq (y := sumN (fun i8 => sg k 3 (i8 * 8 + 5)) (m + 1)) rfl ?_
        refine z_istore E [(13, .int (iI (sumN (fun i8 => sg k 3 (i8 * 8 + 5)) (m + 1)))), (12, .int (iI (sumN (fun i8 => sg k 3 (i8 * 8 + 4)) (m + 1)))), (11, .int (iI (sumN (fun i8 => sg k 3 (i8 * 8 + 1)) (m + 1)))), (16, .ref fo), (15, .int (iI (((m : Nat) : Int)))), (14, .int (iI ((sumN (fun i8 => sg k 3 (i8 * 8 + 2)) m)))), (10, .int (iI (((k : Nat) : Int)))), (9, .int (iI (c9))), (8, .int (iI (((t : Nat) : Int)))), (7, .int (iI (x))), (6, .int (iI (((t : Nat) : Int)))), (5, .ref pa), (4, .ref ea), (3, .int (iI (((n : Nat) : Int)))), (2, .ref ao), (1, .ref lo), (0, .ref bs)] dL_law_443 hl (by decide) rfl (fun ls hl => ?_)
        refine z_iload E hl 5 rfl dL_law_445 ?_
        refine z_aload E hl 3 rfl dL_law_447 ?_
        refine z_iconst E dL_law_449 ?_
        refine z_iald E G 0 rfl (2) rfl (by decide) (by decide) dL_law_450 ?_
        refine z_eq (y := sg k 3 (m * 8 + 2)) rfl ?_
        refine z_iadd E dL_law_451 ?_
        refine z_eq (y := sumN (fun i8 => sg k 3 (i8 * 8 + 2)) (m + 1)) rfl ?_
        refine z_istore E [(14, .int (iI (sumN (fun i8 => sg k 3 (i8 * 8 + 2)) (m + 1)))), (13, .int (iI (sumN (fun i8 => sg k 3 (i8 * 8 + 5)) (m + 1)))), (12, .int (iI (sumN (fun i8 => sg k 3 (i8 * 8 + 4)) (m + 1)))), (11, .int (iI (sumN (fun i8 => sg k 3 (i8 * 8 + 1)) (m + 1)))), (16, .ref fo), (15, .int (iI (((m : Nat) : Int)))), (10, .int (iI (((k : Nat) : Int)))), (9, .int (iI (c9))), (8, .int (iI (((t : Nat) : Int)))), (7, .int (iI (x))), (6, .int (iI (((t : Nat) : Int)))), (5, .ref pa), (4, .ref ea), (3, .int (iI (((n : Nat) : Int)))), (2, .ref ao), (1, .ref lo), (0, .ref bs)] dL_law_452 hl (by decide) rfl (fun ls hl => ?_)
        refine z_iinc E [(15, .int (iI (((m : Nat) : Int) + 1))), (14, .int (iI (sumN (fun i8 => sg k 3 (i8 * 8 + 2)) (m + 1)))), (13, .int (iI (sumN (fun i8 => sg k 3 (i8 * 8 + 5)) (m + 1)))), (12, .int (iI (sumN (fun i8 => sg k 3 (i8 * 8 + 4)) (m + 1)))), (11, .int (iI (sumN (fun i8 => sg k 3 (i8 * 8 + 1)) (m + 1)))), (16, .ref fo), (10, .int (iI (((k : Nat) : Int)))), (9, .int (iI (c9))), (8, .int (iI (((t : Nat) : Int)))), (7, .int (iI (x))), (6, .int (iI (((t : Nat) : Int)))), (5, .ref pa), (4, .ref ea), (3, .int (iI (((n : Nat) : Int)))), (2, .ref ao), (1, .ref lo), (0, .ref bs)] dL_law_454 hl (k := 5) rfl (by decide) rfl (fun ls hl => ?_)
        refine z_goto (tgt := 265) E dL_law_457 (by decide) ?_
        have G := zG.tail G
        refine W.cs (cells' := cl9 + (m + 1)) (slots' := sl9 + 8 * (m + 1)) (by omega) (by omega) ?_
        exact ih265_1 (m + 1) _ _ _ (by omega) (by omega) G (lv_sub hl [0, 1, 2, 3, 4, 6, 7, 8, 9, 10, 11, 12, 13, 14, 15, 16] rfl)
  exact hp265_1 (n + 1) 0 _ _ _ (by omega) (by omega) G (lv_sub hl [0, 1, 2, 3, 4, 5, 6, 7, 8, 9, 10, 11, 12, 13, 14, 15] rfl)
