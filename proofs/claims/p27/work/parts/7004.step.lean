set_option maxHeartbeats 4000000 in
set_option maxRecDepth 100000 in
theorem t_meter {pp : Program} {l : Launch} {ee : Env} {ss : State} {mm : MethodId} {bl : List Frame} {me : Method} {co : Code} {AA : Nat → Prop} {H : Heap} {locs : List Loc} {ls : Array Slot} {Q9 : State → Prop} {D : va_G} {k4 : Nat → ClassId} {bs Ls : Nat} {xs : Nat → Int32} {cl9 sl9 : Nat} (E : zE pp mm co cL_law 18 ss #[Value.ref bs] RL D k4) (S9 : zSc bs Ls xs ss AA) (lo lnow lsl lcl lba ldu nsh nrk h1 r1 q1 h2 r2 q2 : Nat) (ta : Nat → Nat) (sa : Nat → Nat → Nat) (n t : Nat) (cc bc pot gr : Int) (nw bal : Nat → Int) (S1 S2 : sS) (tx : Nat → Nat → Int) (sg : Nat → Nat → Nat → Int) (ea pa ao : Nat) (EF CP T : Nat → Int) (x : Int) (hI : LH n t bc pot gr nw bal T EF CP S1 S2 tx sg) (ht : t < 14) (hc9 : cl9 ≤ room_1.cells) (hs9 : sl9 ≤ room_1.slots) (G : zG D AA ss.heap ((ea, .inl (k4 0, 48, .inl (fun i9 => iI (EF i9)))) :: (pa, .inl (k4 0, 48, .inl (fun i9 => iI (CP i9)))) :: (ao, .inl (k4 0, 19, .inl (fun i9 => iI (T i9)))) :: (xW k4 lo lnow lsl lcl lba ldu nsh nrk h1 r1 q1 h2 r2 q2 ta sa n t 0 cc bc pot gr 0 nw bal (fun _ => 0) S1 S2 tx sg)) H locs) (hl : lv_has ls 18 [(9, .int (iI (0))), (8, .int (iI (((t : Nat) : Int)))), (7, .int (iI (x))), (6, .int (iI (((t : Nat) : Int)))), (5, .ref pa), (4, .ref ea), (3, .int (iI (((n : Nat) : Int)))), (2, .ref ao), (1, .ref lo), (0, .ref bs)]) (kk : ∀ (SGm : Nat → Nat → Nat → Int) (H : Heap) (locs : List Loc) (ls : Array Slot), (LH n t bc pot gr nw bal T EF CP S1 S2 tx SGm) → zG D AA ss.heap ((ea, .inl (k4 0, 48, .inl (fun i9 => iI (EF i9)))) :: (pa, .inl (k4 0, 48, .inl (fun i9 => iI (CP i9)))) :: (ao, .inl (k4 0, 19, .inl (fun i9 => iI (T i9)))) :: (xW k4 lo lnow lsl lcl lba ldu nsh nrk h1 r1 q1 h2 r2 q2 ta sa n t 0 cc bc pot gr 0 nw bal (fun _ => 0) S1 S2 tx SGm)) H locs → lv_has ls 18 [(8, .int (iI (((t : Nat) : Int)))), (7, .int (iI (x))), (6, .int (iI (((t : Nat) : Int)))), (5, .ref pa), (4, .ref ea), (3, .int (iI (((n : Nat) : Int)))), (2, .ref ao), (1, .ref lo), (0, .ref bs)] → W pp l ee room_1 ss mm #[Value.ref bs] bl me co H locs (cl9) (sl9) Q9 (F0 mm 119 ls [])) : W pp l ee room_1 ss mm #[Value.ref bs] bl me co H locs (cl9) (sl9) Q9 (F0 mm 78 ls []) := by
  have hp78_1 : ∀ (n9 : Nat) (m : Nat) (SGm : Nat → Nat → Nat → Int) (H : Heap) (locs : List Loc) (ls : Array Slot), (n - m < n9) → (m ≤ n) → (LH n t bc pot gr nw bal T EF CP S1 S2 tx SGm) → zG D AA ss.heap ((ea, .inl (k4 0, 48, .inl (fun i9 => iI (EF i9)))) :: (pa, .inl (k4 0, 48, .inl (fun i9 => iI (CP i9)))) :: (ao, .inl (k4 0, 19, .inl (fun i9 => iI (T i9)))) :: (xW k4 lo lnow lsl lcl lba ldu nsh nrk h1 r1 q1 h2 r2 q2 ta sa n t 0 cc bc pot gr 0 nw bal (fun _ => 0) S1 S2 tx SGm)) H locs → lv_has ls 18 [(9, .int (iI (((m : Nat) : Int)))), (8, .int (iI (((t : Nat) : Int)))), (7, .int (iI (x))), (6, .int (iI (((t : Nat) : Int)))), (5, .ref pa), (4, .ref ea), (3, .int (iI (((n : Nat) : Int)))), (2, .ref ao), (1, .ref lo), (0, .ref bs)] → W pp l ee room_1 ss mm #[Value.ref bs] bl me co H locs (cl9) (sl9) Q9 (F0 mm 78 ls []) := by
    intro n9
    induction n9 with
    | zero => intro m SGm H locs ls hn9 hm hJ G hl; exact absurd hn9 (by omega)
    | succ n9 ih =>
      intro m SGm H locs ls hn9 hm hJ G hl
      have ih78_1 := @ih
      have hX := hJ.1.2.1
      have y1 := hX.1
      refine z_iload E hl 0 rfl dL_law_78 ?_
      refine z_iload_n E hl 6 rfl dL_law_80 rfl ?_
      refine z_icmp_ge (tgt := 119) E dL_law_81 (by decide) ⟨by omega, by omega⟩ ⟨by omega, by omega⟩ (fun c_81 => ?_) (fun c_81 => ?_)
      · skip
        obtain rfl : m = n := by omega
        exact kk SGm _ _ _ hJ G (lv_sub hl [1, 2, 3, 4, 5, 6, 7, 8, 9] rfl)
      · skip
        refine z_aload_n E hl 8 rfl dL_law_84 rfl ?_
        refine z_iload E hl 0 rfl dL_law_85 ?_
        refine z_iload E hl 1 rfl dL_law_87 ?_
        refine z_iload E hl 2 rfl dL_law_89 ?_
        refine z_iload E hl 0 rfl dL_law_91 ?_
        refine z_iconst E dL_law_93 ?_
        refine z_imul E dL_law_94 ?_
        refine z_ishr E dL_law_95 (fun z1 hz1 => ?_)
        refine z_callS E G hl.1 (c_L_generated l D k4 (z1)) kS_L_51 ⟨rfl, rfl, Nat.le_of_ble_eq_true rfl, Nat.le_of_ble_eq_true rfl⟩ [] rfl (by decide) rfl rfl (Nat.le_of_ble_eq_true rfl) dL_law_96 ⟨(by omega), (by omega)⟩ (fun v9 w9 H locs hq G => ?_)
        obtain ⟨z2, rfl, rfl, hz2⟩ := hq
        refine W.eq (g2 := F0 mm 99 ls [.int (iI (z2)), .int (iI (((t : Nat) : Int))), .int (iI (((m : Nat) : Int))), .ref lo]) rfl ?_
        have G : zG D AA ss.heap ((ea, .inl (k4 0, 48, .inl (fun i9 => iI (EF i9)))) :: (pa, .inl (k4 0, 48, .inl (fun i9 => iI (CP i9)))) :: (ao, .inl (k4 0, 19, .inl (fun i9 => iI (T i9)))) :: (xW k4 lo lnow lsl lcl lba ldu nsh nrk h1 r1 q1 h2 r2 q2 ta sa n t 0 cc bc pot gr 0 nw bal (fun _ => 0) S1 S2 tx SGm)) H locs := G
        refine z_iload E hl 2 rfl dL_law_99 ?_
        refine z_iload E hl 0 rfl dL_law_101 ?_
        refine z_iconst E dL_law_103 ?_
        refine z_imul E dL_law_104 ?_
        refine z_ishr E dL_law_105 (fun z3 hz3 => ?_)
        refine z_callS E G hl.1 (c_L_used l D k4 (z3)) kS_L_54 ⟨rfl, rfl, Nat.le_of_ble_eq_true rfl, Nat.le_of_ble_eq_true rfl⟩ [] rfl (by decide) rfl rfl (Nat.le_of_ble_eq_true rfl) dL_law_106 ⟨(by omega), (by omega)⟩ (fun v9 w9 H locs hq G => ?_)
        obtain ⟨z4, rfl, rfl, hz4⟩ := hq
        refine W.eq (g2 := F0 mm 109 ls [.int (iI (z4)), .int (iI (z2)), .int (iI (((t : Nat) : Int))), .int (iI (((m : Nat) : Int))), .ref lo]) rfl ?_
        have G : zG D AA ss.heap ((ea, .inl (k4 0, 48, .inl (fun i9 => iI (EF i9)))) :: (pa, .inl (k4 0, 48, .inl (fun i9 => iI (CP i9)))) :: (ao, .inl (k4 0, 19, .inl (fun i9 => iI (T i9)))) :: (xW k4 lo lnow lsl lcl lba ldu nsh nrk h1 r1 q1 h2 r2 q2 ta sa n t 0 cc bc pot gr 0 nw bal (fun _ => 0) S1 S2 tx SGm)) H locs := G
        refine z_callVs (pre := [(ea, .inl (k4 0, 48, .inl (fun i9 => iI (EF i9)))), (pa, .inl (k4 0, 48, .inl (fun i9 => iI (CP i9)))), (ao, .inl (k4 0, 19, .inl (fun i9 => iI (T i9))))]) E G hl.1 (c_X4_meter l D k4 lo lnow lsl lcl lba ldu nsh nrk h1 r1 q1 h2 r2 q2 ta sa n t 0 cc bc pot gr 0 nw bal (fun _ => 0) S1 S2 tx SGm m t z2 z4 hX (by omega) (by omega) (by omega) (by omega) (by omega)) kV_L_57 ⟨rfl, rfl, Nat.le_of_ble_eq_true rfl, Nat.le_of_ble_eq_true rfl⟩ 3 4 rfl rfl rfl rfl rfl (Nat.le_of_ble_eq_true rfl) dL_law_109 ⟨(by omega), (by omega)⟩ (fun v9 w9 H locs hq G => ?_)
        obtain ⟨rfl, rfl⟩ := hq
        refine W.eq (g2 := F0 mm 112 ls [.int (iI (if SGm t 1 m ≠ z2 ∨ SGm t 2 m ≠ z4 then 1 else 0))]) rfl ?_
        have G : zG D AA ss.heap ((ea, .inl (k4 0, 48, .inl (fun i9 => iI (EF i9)))) :: (pa, .inl (k4 0, 48, .inl (fun i9 => iI (CP i9)))) :: (ao, .inl (k4 0, 19, .inl (fun i9 => iI (T i9)))) :: (xW k4 lo lnow lsl lcl lba ldu nsh nrk h1 r1 q1 h2 r2 q2 ta sa n t 0 cc bc pot gr 0 nw bal (fun _ => 0) S1 S2 tx (upS SGm t (mkS (SGm t 0) (up (SGm t 1) m z2) (up (SGm t 2) m z4) (SGm t 3) (SGm t 4 0) (SGm t 4 1))))) H locs := G
        refine z_pop E dL_law_112 rfl ?_
        refine z_iinc E [(9, .int (iI (((m : Nat) : Int) + 1))), (8, .int (iI (((t : Nat) : Int)))), (7, .int (iI (x))), (6, .int (iI (((t : Nat) : Int)))), (5, .ref pa), (4, .ref ea), (3, .int (iI (((n : Nat) : Int)))), (2, .ref ao), (1, .ref lo), (0, .ref bs)] dL_law_113 hl (k := 0) rfl (by decide) rfl (fun ls hl => ?_)
        refine z_goto (tgt := 78) E dL_law_116 (by decide) ?_
        exact ih78_1 (m + 1) (upS SGm t (mkS (SGm t 0) (up (SGm t 1) m z2) (up (SGm t 2) m z4) (SGm t 3) (SGm t 4 0) (SGm t 4 1))) _ _ _ (by omega) (by omega) (hJ.meter (m := m) (a := z2) (b := z4) (by omega) (by omega) (by omega)) G (lv_sub hl [0, 1, 2, 3, 4, 5, 6, 7, 8, 9] rfl)
  exact hp78_1 (n + 1) 0 sg _ _ _ (by omega) (by omega) hI G (lv_sub hl [0, 1, 2, 3, 4, 5, 6, 7, 8, 9] rfl)

set_option maxHeartbeats 4000000 in
set_option maxRecDepth 100000 in
theorem t_terms {pp : Program} {l : Launch} {ee : Env} {ss : State} {mm : MethodId} {bl : List Frame} {me : Method} {co : Code} {AA : Nat → Prop} {H : Heap} {locs : List Loc} {ls : Array Slot} {Q9 : State → Prop} {D : va_G} {k4 : Nat → ClassId} {bs Ls : Nat} {xs : Nat → Int32} {cl9 sl9 : Nat} (E : zE pp mm co cL_law 18 ss #[Value.ref bs] RL D k4) (S9 : zSc bs Ls xs ss AA) (lo lnow lsl lcl lba ldu nsh nrk h1 r1 q1 h2 r2 q2 : Nat) (ta : Nat → Nat) (sa : Nat → Nat → Nat) (n t : Nat) (cc bc pot gr : Int) (nw bal : Nat → Int) (S1 S2 : sS) (tx : Nat → Nat → Int) (sg : Nat → Nat → Nat → Int) (ea pa ao : Nat) (EF CP T : Nat → Int) (x : Int) (hI : LH n t bc pot gr nw bal T EF CP S1 S2 tx sg) (hc9 : cl9 ≤ room_1.cells) (hs9 : sl9 ≤ room_1.slots) (G : zG D AA ss.heap ((ea, .inl (k4 0, 48, .inl (fun i9 => iI (EF i9)))) :: (pa, .inl (k4 0, 48, .inl (fun i9 => iI (CP i9)))) :: (ao, .inl (k4 0, 19, .inl (fun i9 => iI (T i9)))) :: (xW k4 lo lnow lsl lcl lba ldu nsh nrk h1 r1 q1 h2 r2 q2 ta sa n t 0 cc bc pot gr 0 nw bal (fun _ => 0) S1 S2 tx sg)) H locs) (hl : lv_has ls 18 [(8, .int (iI (((t : Nat) : Int)))), (7, .int (iI (x))), (6, .int (iI (((t : Nat) : Int)))), (5, .ref pa), (4, .ref ea), (3, .int (iI (((n : Nat) : Int)))), (2, .ref ao), (1, .ref lo), (0, .ref bs)]) (kk : ∀ (bc9 : Int) (nw9 T9 : Nat → Int) (H : Heap) (locs : List Loc) (ls : Array Slot), (LM n t bc9 pot gr nw9 bal T9 EF CP S1 S2 tx sg) → zG D AA ss.heap ((ea, .inl (k4 0, 48, .inl (fun i9 => iI (EF i9)))) :: (pa, .inl (k4 0, 48, .inl (fun i9 => iI (CP i9)))) :: (ao, .inl (k4 0, 19, .inl (fun i9 => iI (T9 i9)))) :: (xW k4 lo lnow lsl lcl lba ldu nsh nrk h1 r1 q1 h2 r2 q2 ta sa n t 0 cc bc9 pot gr 0 nw9 bal (fun _ => 0) S1 S2 tx sg)) H locs → lv_has ls 18 [(8, .int (iI (((t : Nat) : Int)))), (7, .int (iI (x))), (6, .int (iI (((t : Nat) : Int)))), (5, .ref pa), (4, .ref ea), (3, .int (iI (((n : Nat) : Int)))), (2, .ref ao), (1, .ref lo), (0, .ref bs)] → W pp l ee room_1 ss mm #[Value.ref bs] bl me co H locs (cl9) (sl9) Q9 (F0 mm 137 ls [])) : W pp l ee room_1 ss mm #[Value.ref bs] bl me co H locs (cl9) (sl9) Q9 (F0 mm 119 ls []) := by
  refine z_iload E hl 1 rfl dL_law_119 ?_
  refine z_iconst E dL_law_121 ?_
  refine z_callS E G hl.1 (c_L_below l D k4 (x) (4) (by decide)) kS_L_15 ⟨rfl, rfl, Nat.le_of_ble_eq_true rfl, Nat.le_of_ble_eq_true rfl⟩ [] rfl (by decide) rfl rfl (Nat.le_of_ble_eq_true rfl) dL_law_122 ⟨(by omega), (by omega)⟩ (fun v9 w9 H locs hq G => ?_)
  obtain ⟨z1, rfl, rfl, hz1⟩ := hq
  refine W.eq (g2 := F0 mm 125 ls [.int (iI (z1))]) rfl ?_
  have G : zG D AA ss.heap ((ea, .inl (k4 0, 48, .inl (fun i9 => iI (EF i9)))) :: (pa, .inl (k4 0, 48, .inl (fun i9 => iI (CP i9)))) :: (ao, .inl (k4 0, 19, .inl (fun i9 => iI (T i9)))) :: (xW k4 lo lnow lsl lcl lba ldu nsh nrk h1 r1 q1 h2 r2 q2 ta sa n t 0 cc bc pot gr 0 nw bal (fun _ => 0) S1 S2 tx sg)) H locs := G
  refine z_if_ne (tgt := 137) E dL_law_125 (by decide) ⟨by omega, by omega⟩ (fun c_125 => ?_) (fun c_125 => ?_)
  · skip
    exact kk bc nw T _ _ _ hI.lm G (lv_sub hl [0, 1, 2, 3, 4, 5, 6, 7, 8] rfl)
  · skip
    refine z_aload_n E hl 7 rfl dL_law_128 rfl ?_
    refine z_iload E hl 1 rfl dL_law_129 ?_
    refine z_iconst E dL_law_131 ?_
    refine z_ishr E dL_law_132 (fun z2 hz2 => ?_)
    refine z_aload_n E hl 6 rfl dL_law_133 rfl ?_
    refine z_callSx (pre := [(ea, .inl (k4 0, 48, .inl (fun i9 => iI (EF i9)))), (pa, .inl (k4 0, 48, .inl (fun i9 => iI (CP i9))))]) E G hl.1 (c_L_set l D k4 lo lnow lsl lcl lba ldu nsh nrk h1 r1 q1 h2 r2 q2 ta sa n t 0 cc bc pot gr 0 nw bal (fun _ => 0) S1 S2 tx sg ao T z2 hI.1.2.1) kS_L_29 ⟨rfl, rfl, Nat.le_of_ble_eq_true rfl, Nat.le_of_ble_eq_true rfl⟩ rfl rfl (Nat.le_of_ble_eq_true rfl) dL_law_134 ⟨(by omega), (by omega)⟩ (fun v9 w9 H locs hq G => ?_)
    obtain ⟨a1, a2, a3, c4, c5, c6, ru, rfl, rfl, w1, w2, w3, w4, w5, w6, w7⟩ := hq
    refine W.eq (g2 := F0 mm 137 ls []) rfl ?_
    have G : zG D AA ss.heap ((ea, .inl (k4 0, 48, .inl (fun i9 => iI (EF i9)))) :: (pa, .inl (k4 0, 48, .inl (fun i9 => iI (CP i9)))) :: (ao, .inl (k4 0, 19, .inl (fun i9 => iI ((up (up (up (up (up (up (up T 12 (a1)) 13 (a2)) 14 (a3)) 15 (c4)) 16 (c5)) 17 (c6)) 18 (ru)) i9)))) :: (xW k4 lo lnow lsl lcl lba ldu nsh nrk h1 r1 q1 h2 r2 q2 ta sa n t 0 cc (min bc c4) pot gr 0 (up (up (up (up (up (up (up nw 1 a1) 2 a2) 3 a3) 4 c4) 5 c5) 6 c6) 0 ru) bal (fun _ => 0) S1 S2 tx sg)) H locs := G
    exact kk (min bc c4) (up (up (up (up (up (up (up nw 1 a1) 2 a2) 3 a3) 4 c4) 5 c5) 6 c6) 0 ru) (up (up (up (up (up (up (up T 12 (a1)) 13 (a2)) 14 (a3)) 15 (c4)) 16 (c5)) 17 (c6)) 18 (ru)) _ _ _ (hI.set (tOK_set hI.1.2.1.2.2.2.1 w1 w2 w3 w4 w5 w6 w7) rfl rfl) G (lv_sub hl [0, 1, 2, 3, 4, 5, 6, 7, 8] rfl)
