set_option maxHeartbeats 4000000 in
set_option maxRecDepth 100000 in
theorem t_what {pp : Program} {l : Launch} {ee : Env} {ss : State} {mm : MethodId} {bl : List Frame} {me : Method} {co : Code} {AA : Nat → Prop} {H : Heap} {locs : List Loc} {ls : Array Slot} {Q9 : State → Prop} {D : va_G} {k4 : Nat → ClassId} {bs Ls : Nat} {xs : Nat → Int32} {cl9 sl9 : Nat} (E : zE pp mm co cL_law 18 ss #[Value.ref bs] RL D k4) (S9 : zSc bs Ls xs ss AA) (lo lnow lsl lcl lba ldu nsh nrk h1 r1 q1 h2 r2 q2 : Nat) (ta : Nat → Nat) (sa : Nat → Nat → Nat) (n t : Nat) (cc bc pot gr : Int) (nw bal : Nat → Int) (S1 S2 : sS) (tx : Nat → Nat → Int) (sg : Nat → Nat → Nat → Int) (ea pa ao : Nat) (EF CP T : Nat → Int) (k m : Nat) (x c9 s1 s2 s3 s4 : Int) (fo : Nat) (FF : Nat → Int) (hX : xOK n (t + 1) 0 bc nw S1 S2 tx sg) (hm : m < n) (hk : k ≤ t) (ht : t < 14) (hfl : ∀ w, w < 7 → 0 ≤ sg k 3 (m * 8 + w) ∧ sg k 3 (m * 8 + w) ≤ 5000) (hc9 : cl9 ≤ room_1.cells) (hs9 : sl9 ≤ room_1.slots) (G : zG D AA ss.heap ((fo, .inl (k4 0, 8, .inl (fun i9 => iI (FF i9)))) :: (ea, .inl (k4 0, 48, .inl (fun i9 => iI (EF i9)))) :: (pa, .inl (k4 0, 48, .inl (fun i9 => iI (CP i9)))) :: (ao, .inl (k4 0, 19, .inl (fun i9 => iI (T i9)))) :: (xW k4 lo lnow lsl lcl lba ldu nsh nrk h1 r1 q1 h2 r2 q2 ta sa n (t + 1) 0 cc bc pot gr 0 nw bal (fun _ => 0) S1 S2 tx sg)) H locs) (hl : lv_has ls 18 [(17, .int (iI (0))), (16, .ref fo), (15, .int (iI (((m : Nat) : Int)))), (14, .int (iI (s4))), (13, .int (iI (s3))), (12, .int (iI (s2))), (11, .int (iI (s1))), (10, .int (iI (((k : Nat) : Int)))), (9, .int (iI (c9))), (8, .int (iI (((t : Nat) : Int)))), (7, .int (iI (x))), (6, .int (iI (((t : Nat) : Int)))), (5, .ref pa), (4, .ref ea), (3, .int (iI (((n : Nat) : Int)))), (2, .ref ao), (1, .ref lo), (0, .ref bs)]) (kk : ∀  (H : Heap) (locs : List Loc) (ls : Array Slot), zG D AA ss.heap ((fo, .inl (k4 0, 8, .inl (fun i9 => iI ((cp (fun i8 => sg k 3 (m * 8 + i8)) FF 8) i9)))) :: (ea, .inl (k4 0, 48, .inl (fun i9 => iI (EF i9)))) :: (pa, .inl (k4 0, 48, .inl (fun i9 => iI (CP i9)))) :: (ao, .inl (k4 0, 19, .inl (fun i9 => iI (T i9)))) :: (xW k4 lo lnow lsl lcl lba ldu nsh nrk h1 r1 q1 h2 r2 q2 ta sa n (t + 1) 0 cc bc pot gr 0 nw bal (fun _ => 0) S1 S2 tx sg)) H locs → lv_has ls 18 [(16, .ref fo), (15, .int (iI (((m : Nat) : Int)))), (14, .int (iI (s4))), (13, .int (iI (s3))), (12, .int (iI (s2))), (11, .int (iI (s1))), (10, .int (iI (((k : Nat) : Int)))), (9, .int (iI (c9))), (8, .int (iI (((t : Nat) : Int)))), (7, .int (iI (x))), (6, .int (iI (((t : Nat) : Int)))), (5, .ref pa), (4, .ref ea), (3, .int (iI (((n : Nat) : Int)))), (2, .ref ao), (1, .ref lo), (0, .ref bs)] → W pp l ee room_1 ss mm #[Value.ref bs] bl me co H locs (cl9) (sl9) Q9 (F0 mm 325 ls [])) : W pp l ee room_1 ss mm #[Value.ref bs] bl me co H locs (cl9) (sl9) Q9 (F0 mm 280 ls []) := by
  have hp280_1 : ∀ (n9 : Nat) (w : Nat) (H : Heap) (locs : List Loc) (ls : Array Slot), (8 - w < n9) → (w ≤ 8) → zG D AA ss.heap ((fo, .inl (k4 0, 8, .inl (fun i9 => iI ((cp (fun i8 => sg k 3 (m * 8 + i8)) FF w) i9)))) :: (ea, .inl (k4 0, 48, .inl (fun i9 => iI (EF i9)))) :: (pa, .inl (k4 0, 48, .inl (fun i9 => iI (CP i9)))) :: (ao, .inl (k4 0, 19, .inl (fun i9 => iI (T i9)))) :: (xW k4 lo lnow lsl lcl lba ldu nsh nrk h1 r1 q1 h2 r2 q2 ta sa n (t + 1) 0 cc bc pot gr 0 nw bal (fun _ => 0) S1 S2 tx sg)) H locs → lv_has ls 18 [(17, .int (iI (((w : Nat) : Int)))), (16, .ref fo), (15, .int (iI (((m : Nat) : Int)))), (14, .int (iI (s4))), (13, .int (iI (s3))), (12, .int (iI (s2))), (11, .int (iI (s1))), (10, .int (iI (((k : Nat) : Int)))), (9, .int (iI (c9))), (8, .int (iI (((t : Nat) : Int)))), (7, .int (iI (x))), (6, .int (iI (((t : Nat) : Int)))), (5, .ref pa), (4, .ref ea), (3, .int (iI (((n : Nat) : Int)))), (2, .ref ao), (1, .ref lo), (0, .ref bs)] → W pp l ee room_1 ss mm #[Value.ref bs] bl me co H locs (cl9) (sl9) Q9 (F0 mm 280 ls []) := by
    intro n9
    induction n9 with
    | zero => intro w H locs ls hn9 hw G hl; exact absurd hn9 (by omega)
    | succ n9 ih =>
      intro w H locs ls hn9 hw G hl
      have ih280_1 := @ih
      refine z_iload E hl 0 rfl dL_law_280 ?_
      refine z_bipush E dL_law_282 (by decide) ?_
      refine z_icmp_ge (tgt := 325) E dL_law_284 (by decide) ⟨by omega, by omega⟩ (by decide) (fun c_284 => ?_) (fun c_284 => ?_)
      · skip
        obtain rfl : w = 8 := by omega
        exact kk _ _ _ G (lv_sub hl [1, 2, 3, 4, 5, 6, 7, 8, 9, 10, 11, 12, 13, 14, 15, 16, 17] rfl)
      · skip
        refine z_aload E hl 1 rfl dL_law_287 ?_
        refine z_iload E hl 0 rfl dL_law_289 ?_
        refine z_aload_n E hl 16 rfl dL_law_291 rfl ?_
        refine z_iload E hl 7 rfl dL_law_292 ?_
        refine z_iload E hl 2 rfl dL_law_294 ?_
        refine z_iload E hl 0 rfl dL_law_296 ?_
        refine z_callVs (pre := [(fo, .inl (k4 0, 8, .inl (fun i9 => iI ((cp (fun i8 => sg k 3 (m * 8 + i8)) FF w) i9)))), (ea, .inl (k4 0, 48, .inl (fun i9 => iI (EF i9)))), (pa, .inl (k4 0, 48, .inl (fun i9 => iI (CP i9)))), (ao, .inl (k4 0, 19, .inl (fun i9 => iI (T i9))))]) E G hl.1 (c_X4_flow l D k4 lo lnow lsl lcl lba ldu nsh nrk h1 r1 q1 h2 r2 q2 ta sa n (t + 1) 0 cc bc pot gr 0 nw bal (fun _ => 0) S1 S2 tx sg k m w hX hm (by omega) (by omega)) kV_L_76 ⟨rfl, rfl, Nat.le_of_ble_eq_true rfl, Nat.le_of_ble_eq_true rfl⟩ 4 4 rfl rfl rfl rfl rfl (Nat.le_of_ble_eq_true rfl) dL_law_298 ⟨(by omega), (by omega)⟩ (fun v9 w9 H locs hq G => ?_)
        obtain ⟨rfl, rfl⟩ := hq
        refine W.eq (g2 := F0 mm 301 ls [.int (iI (if k < (t + 1) then sg k 3 (m * 8 + w) else 0)), .int (iI (((w : Nat) : Int))), .ref fo]) rfl ?_
        have G : zG D AA ss.heap ((fo, .inl (k4 0, 8, .inl (fun i9 => iI ((cp (fun i8 => sg k 3 (m * 8 + i8)) FF w) i9)))) :: (ea, .inl (k4 0, 48, .inl (fun i9 => iI (EF i9)))) :: (pa, .inl (k4 0, 48, .inl (fun i9 => iI (CP i9)))) :: (ao, .inl (k4 0, 19, .inl (fun i9 => iI (T i9)))) :: (xW k4 lo lnow lsl lcl lba ldu nsh nrk h1 r1 q1 h2 r2 q2 ta sa n (t + 1) 0 cc bc pot gr 0 nw bal (fun _ => 0) S1 S2 tx sg)) H locs := G
        refine z_eq (y := sg k 3 (m * 8 + w)) (if_pos (by omega)) ?_
        refine z_iast E G 0 rfl (w) rfl (by omega) (by decide) dL_law_301 (fun H locs G => ?_)
        have G : zG D AA ss.heap ((fo, .inl (k4 0, 8, .inl (fun i9 => iI ((up (cp (fun i8 => sg k 3 (m * 8 + i8)) FF w) (w) (sg k 3 (m * 8 + w))) i9)))) :: (ea, .inl (k4 0, 48, .inl (fun i9 => iI (EF i9)))) :: (pa, .inl (k4 0, 48, .inl (fun i9 => iI (CP i9)))) :: (ao, .inl (k4 0, 19, .inl (fun i9 => iI (T i9)))) :: (xW k4 lo lnow lsl lcl lba ldu nsh nrk h1 r1 q1 h2 r2 q2 ta sa n (t + 1) 0 cc bc pot gr 0 nw bal (fun _ => 0) S1 S2 tx sg)) H locs := G
        rw [show up (cp (fun i8 => sg k 3 (m * 8 + i8)) FF w) (w) (sg k 3 (m * 8 + w)) = cp (fun i8 => sg k 3 (m * 8 + i8)) FF (w + 1) from cp_s (fun i8 => sg k 3 (m * 8 + i8)) FF w] at G
        have G : zG D AA ss.heap ((fo, .inl (k4 0, 8, .inl (fun i9 => iI ((cp (fun i8 => sg k 3 (m * 8 + i8)) FF (w + 1)) i9)))) :: (ea, .inl (k4 0, 48, .inl (fun i9 => iI (EF i9)))) :: (pa, .inl (k4 0, 48, .inl (fun i9 => iI (CP i9)))) :: (ao, .inl (k4 0, 19, .inl (fun i9 => iI (T i9)))) :: (xW k4 lo lnow lsl lcl lba ldu nsh nrk h1 r1 q1 h2 r2 q2 ta sa n (t + 1) 0 cc bc pot gr 0 nw bal (fun _ => 0) S1 S2 tx sg)) H locs := G
        refine z_iload E hl 0 rfl dL_law_302 ?_
        refine z_bipush E dL_law_304 (by decide) ?_
        refine z_icmp_ge (tgt := 319) E dL_law_306 (by decide) ⟨by omega, by omega⟩ (by decide) (fun c_306 => ?_) (fun c_306 => ?_)
        · skip
          refine z_iinc E [(17, .int (iI (((w : Nat) : Int) + 1))), (16, .ref fo), (15, .int (iI (((m : Nat) : Int)))), (14, .int (iI (s4))), (13, .int (iI (s3))), (12, .int (iI (s2))), (11, .int (iI (s1))), (10, .int (iI (((k : Nat) : Int)))), (9, .int (iI (c9))), (8, .int (iI (((t : Nat) : Int)))), (7, .int (iI (x))), (6, .int (iI (((t : Nat) : Int)))), (5, .ref pa), (4, .ref ea), (3, .int (iI (((n : Nat) : Int)))), (2, .ref ao), (1, .ref lo), (0, .ref bs)] dL_law_319 hl (k := 0) rfl (by decide) rfl (fun ls hl => ?_)
          refine z_goto (tgt := 280) E dL_law_322 (by decide) ?_
          exact ih280_1 (w + 1) _ _ _ (by omega) (by omega) G (lv_sub hl [0, 1, 2, 3, 4, 5, 6, 7, 8, 9, 10, 11, 12, 13, 14, 15, 16, 17] rfl)
        · skip
          refine z_aload E hl 1 rfl dL_law_309 ?_
          refine z_iload E hl 0 rfl dL_law_311 ?_
          have hw9 := hfl w (by omega)
          refine z_iald E G 0 rfl (w) rfl (by omega) (by decide) dL_law_313 ?_
          refine z_eq (y := sg k 3 (m * 8 + w)) (cp_in (by omega)) ?_
          refine z_if_ge (tgt := 319) E dL_law_314 (by decide) ⟨by omega, by omega⟩ (fun c_314 => ?_) (fun c_314 => absurd c_314 (by omega))
          refine z_iinc E [(17, .int (iI (((w : Nat) : Int) + 1))), (16, .ref fo), (15, .int (iI (((m : Nat) : Int)))), (14, .int (iI (s4))), (13, .int (iI (s3))), (12, .int (iI (s2))), (11, .int (iI (s1))), (10, .int (iI (((k : Nat) : Int)))), (9, .int (iI (c9))), (8, .int (iI (((t : Nat) : Int)))), (7, .int (iI (x))), (6, .int (iI (((t : Nat) : Int)))), (5, .ref pa), (4, .ref ea), (3, .int (iI (((n : Nat) : Int)))), (2, .ref ao), (1, .ref lo), (0, .ref bs)] dL_law_319 hl (k := 0) rfl (by decide) rfl (fun ls hl => ?_)
          refine z_goto (tgt := 280) E dL_law_322 (by decide) ?_
          exact ih280_1 (w + 1) _ _ _ (by omega) (by omega) G (lv_sub hl [0, 1, 2, 3, 4, 5, 6, 7, 8, 9, 10, 11, 12, 13, 14, 15, 16, 17] rfl)
  exact hp280_1 9 0 _ _ _ (by omega) (by omega) ((by rw [cp_0]; exact G)) (lv_sub hl [0, 1, 2, 3, 4, 5, 6, 7, 8, 9, 10, 11, 12, 13, 14, 15, 16, 17] rfl)
