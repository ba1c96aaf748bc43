set_option maxHeartbeats 4000000 in
set_option maxRecDepth 100000 in
theorem t_begin {pp : Program} {l : Launch} {ee : Env} {ss : State} {mm : MethodId} {bl : List Frame} {me : Method} {co : Code} {AA : Nat → Prop} {H : Heap} {locs : List Loc} {ls : Array Slot} {Q9 : State → Prop} {D : va_G} {k4 : Nat → ClassId} {bs Ls : Nat} {xs : Nat → Int32} {cl9 sl9 : Nat} (E : zE pp mm co cL_law 18 ss #[Value.ref bs] RL D k4) (S9 : zSc bs Ls xs ss AA) (lo lnow lsl lcl lba ldu nsh nrk h1 r1 q1 h2 r2 q2 : Nat) (ta : Nat → Nat) (sa : Nat → Nat → Nat) (n t : Nat) (cc bc pot gr : Int) (nw bal : Nat → Int) (S1 S2 : sS) (tx : Nat → Nat → Int) (sg : Nat → Nat → Nat → Int) (ea pa ao : Nat) (EF CP T : Nat → Int) (ht : t < 14) (hc9 : cl9 ≤ room_1.cells) (hs9 : sl9 ≤ room_1.slots) (G : zG D AA ss.heap ((ea, .inl (k4 0, 48, .inl (fun i9 => iI (EF i9)))) :: (pa, .inl (k4 0, 48, .inl (fun i9 => iI (CP i9)))) :: (ao, .inl (k4 0, 19, .inl (fun i9 => iI (T i9)))) :: (xW k4 lo lnow lsl lcl lba ldu nsh nrk h1 r1 q1 h2 r2 q2 ta sa n t 0 cc bc pot gr 0 nw bal (fun _ => 0) S1 S2 tx sg)) H locs) (hl : lv_has ls 18 [(6, .int (iI (((t : Nat) : Int)))), (5, .ref pa), (4, .ref ea), (3, .int (iI (((n : Nat) : Int)))), (2, .ref ao), (1, .ref lo), (0, .ref bs)]) (kk : ∀ (x : Int) (H : Heap) (locs : List Loc) (ls : Array Slot), zG D AA ss.heap ((ea, .inl (k4 0, 48, .inl (fun i9 => iI (EF i9)))) :: (pa, .inl (k4 0, 48, .inl (fun i9 => iI (CP i9)))) :: (ao, .inl (k4 0, 19, .inl (fun i9 => iI (T i9)))) :: (xW k4 lo lnow lsl lcl lba ldu nsh nrk h1 r1 q1 h2 r2 q2 ta sa n t 0 cc bc pot gr 0 nw bal (fun _ => 0) S1 S2 tx sg)) H locs → lv_has ls 18 [(9, .int (iI (0))), (8, .int (iI (((t : Nat) : Int)))), (7, .int (iI (x))), (6, .int (iI (((t : Nat) : Int)))), (5, .ref pa), (4, .ref ea), (3, .int (iI (((n : Nat) : Int)))), (2, .ref ao), (1, .ref lo), (0, .ref bs)] → W pp l ee room_1 ss mm #[Value.ref bs] bl me co H locs (cl9) (sl9) Q9 (F0 mm 78 ls [])) : W pp l ee room_1 ss mm #[Value.ref bs] bl me co H locs (cl9) (sl9) Q9 (F0 mm 49 ls []) := by
  refine z_aload_n E hl 6 rfl dL_law_49 rfl ?_
  refine z_iconst E dL_law_50 ?_
  refine z_iload E hl 0 rfl dL_law_51 ?_
  refine z_bipush E dL_law_53 (by decide) ?_
  refine z_irem E dL_law_55 ⟨by omega, by omega⟩ ⟨by omega, by omega⟩ ?_
  refine z_iadd E dL_law_56 ?_
  refine z_eq (y := ((2 + t % 9 : Nat) : Int)) (by omega) ?_
  refine z_callSs E S9 G hl.1 (c_L_cell l D k4 (2 + t % 9) bs Ls xs S9.2.2.2 (by omega)) kS_L_9 ⟨rfl, rfl, Nat.le_of_ble_eq_true rfl, Nat.le_of_ble_eq_true rfl⟩ [] rfl (by decide) rfl rfl (Nat.le_of_ble_eq_true rfl) dL_law_57 ⟨(by omega), (by omega)⟩ (fun v9 w9 H locs hq G => ?_)
  obtain ⟨z1, rfl, rfl⟩ := hq
  refine W.eq (g2 := F0 mm 60 ls [.int (iI (z1))]) rfl ?_
  have G : zG D AA ss.heap ((ea, .inl (k4 0, 48, .inl (fun i9 => iI (EF i9)))) :: (pa, .inl (k4 0, 48, .inl (fun i9 => iI (CP i9)))) :: (ao, .inl (k4 0, 19, .inl (fun i9 => iI (T i9)))) :: (xW k4 lo lnow lsl lcl lba ldu nsh nrk h1 r1 q1 h2 r2 q2 ta sa n t 0 cc bc pot gr 0 nw bal (fun _ => 0) S1 S2 tx sg)) H locs := G
  refine z_iload E hl 0 rfl dL_law_60 ?_
  refine z_sipush E dL_law_62 (by decide) ?_
  refine z_imul E dL_law_65 ?_
  refine z_ixor E dL_law_66 (fun z2 hz2 => ?_)
  refine z_istore E [(7, .int (iI (z2))), (6, .int (iI (((t : Nat) : Int)))), (5, .ref pa), (4, .ref ea), (3, .int (iI (((n : Nat) : Int)))), (2, .ref ao), (1, .ref lo), (0, .ref bs)] dL_law_67 hl (by decide) rfl (fun ls hl => ?_)
  refine z_aload_n E hl 6 rfl dL_law_69 rfl ?_
  refine z_callVs (pre := [(ea, .inl (k4 0, 48, .inl (fun i9 => iI (EF i9)))), (pa, .inl (k4 0, 48, .inl (fun i9 => iI (CP i9)))), (ao, .inl (k4 0, 19, .inl (fun i9 => iI (T i9))))]) E G hl.1 (c_X4_present l D k4 lo lnow lsl lcl lba ldu nsh nrk h1 r1 q1 h2 r2 q2 ta sa n t 0 cc bc pot gr 0 nw bal (fun _ => 0) S1 S2 tx sg ) kV_L_48 ⟨rfl, rfl, Nat.le_of_ble_eq_true rfl, Nat.le_of_ble_eq_true rfl⟩ 3 4 rfl rfl rfl rfl rfl (Nat.le_of_ble_eq_true rfl) dL_law_70 ⟨(by omega), (by omega)⟩ (fun v9 w9 H locs hq G => ?_)
  obtain ⟨rfl, rfl⟩ := hq
  refine W.eq (g2 := F0 mm 73 ls [.int (iI (((t : Nat) : Int)))]) rfl ?_
  have G : zG D AA ss.heap ((ea, .inl (k4 0, 48, .inl (fun i9 => iI (EF i9)))) :: (pa, .inl (k4 0, 48, .inl (fun i9 => iI (CP i9)))) :: (ao, .inl (k4 0, 19, .inl (fun i9 => iI (T i9)))) :: (xW k4 lo lnow lsl lcl lba ldu nsh nrk h1 r1 q1 h2 r2 q2 ta sa n t 0 cc bc pot gr 0 nw bal (fun _ => 0) S1 S2 tx sg)) H locs := G
  refine z_istore E [(8, .int (iI (((t : Nat) : Int)))), (7, .int (iI (z2))), (6, .int (iI (((t : Nat) : Int)))), (5, .ref pa), (4, .ref ea), (3, .int (iI (((n : Nat) : Int)))), (2, .ref ao), (1, .ref lo), (0, .ref bs)] dL_law_73 hl (by decide) rfl (fun ls hl => ?_)
  refine z_iconst E dL_law_75 ?_
  refine z_istore E [(9, .int (iI (0))), (8, .int (iI (((t : Nat) : Int)))), (7, .int (iI (z2))), (6, .int (iI (((t : Nat) : Int)))), (5, .ref pa), (4, .ref ea), (3, .int (iI (((n : Nat) : Int)))), (2, .ref ao), (1, .ref lo), (0, .ref bs)] dL_law_76 hl (by decide) rfl (fun ls hl => ?_)
  exact kk z2 _ _ _ G (lv_sub hl [0, 1, 2, 3, 4, 5, 6, 7, 8, 9] rfl)
