set_option maxHeartbeats 4000000 in
set_option maxRecDepth 100000 in
theorem s_addMember {pp : Program} {l : Launch} {ee : Env} {ss : State} {mm : MethodId} {bl : List Frame} {me : Method} {co : Code} {AA : Nat → Prop} {H : Heap} {locs : List Loc} {ls : Array Slot} {Q9 : State → Prop} {D : va_G} {k4 : Nat → ClassId} {bs Ls : Nat} {xs : Nat → Int32} {cl9 sl9 : Nat} (hl9 : l.stackTraces = false) (E : zE pp mm co cL_law 9 ss #[Value.ref bs] RL D k4) (X : zEL ss AA) (S9 : zSc bs Ls xs ss AA) (i : Nat) (hi5 : i + 4 < Ls) (lo lnow lsl lcl lba ldu nsh nrk h1 r1 q1 h2 r2 q2 : Nat) (ta : Nat → Nat) (sa : Nat → Nat → Nat) (n p st : Nat) (cc bc pot gr bk : Int) (nw bal due : Nat → Int) (S1 S2 : sS) (tx : Nat → Nat → Int) (sg : Nat → Nat → Nat → Int)  (mo mnw mte mge mus mco mfl mba mdu : Nat) (th btw bhd : Int) (NW TE GE US CO FL BA DU : Nat → Int) (ao : Nat) (O : Nat → Int) (hX : xOK n p st bc nw S1 S2 tx sg) (hn : n < 6) (hp : p = 0) (hn9 : n ≤ 6) (hp9 : p ≤ 48) (hs9 : st ≤ 48) (hcc : rng cc) (hb9 : 0 ≤ bc ∧ bc ≤ 20000) (hrb : rng (((n : Nat) : Int))) (hc9 : cl9 + ((0) + (0)) ≤ room_1.cells) (hs99 : sl9 + ((0) + (0)) ≤ room_1.slots) (G : zG D AA ss.heap ((mo, .inr (5, [.int (iI (th)), .int (iI (((n : Nat) : Int))), .ref mnw, .ref mte, .ref mge, .ref mus, .int (iI (((p : Nat) : Int))), .int (iI (((st : Nat) : Int))), .int (iI (cc)), .int (iI (bc)), .ref mco, .ref mfl, .ref mba, .ref mdu, .long (lI (pot)), .long (lI (gr)), .long (lI (bk)), .int (iI (btw)), .int (iI (bhd))])) :: (mnw, .inl (k4 0, 19, .inl (fun i9 => iI (NW i9)))) :: (mte, .inl (k4 0, 912, .inl (fun i9 => iI (TE i9)))) :: (mge, .inl (k4 0, 288, .inl (fun i9 => iI (GE i9)))) :: (mus, .inl (k4 0, 288, .inl (fun i9 => iI (US i9)))) :: (mco, .inl (k4 0, 48, .inl (fun i9 => iI (CO i9)))) :: (mfl, .inl (k4 0, 2304, .inl (fun i9 => iI (FL i9)))) :: (mba, .inl (k4 1, 6, .inr (.inl (fun i9 => lI (BA i9))))) :: (mdu, .inl (k4 1, 6, .inr (.inl (fun i9 => lI (DU i9))))) :: (ao, .inl (k4 1, 1, .inr (.inl (fun i9 => lI (O i9))))) :: (xW k4 lo lnow lsl lcl lba ldu nsh nrk h1 r1 q1 h2 r2 q2 ta sa n p st cc bc pot gr bk nw bal due S1 S2 tx sg)) H locs) (hl : lv_has ls 9 [(0, .ref bs), (1, .ref lo), (2, .ref mo), (3, .ref ao), (4, .int (iI (((i : Nat) : Int))))]) (kk : ∀ (H : Heap) (locs : List Loc) (ls : Array Slot), zG D AA ss.heap ((mo, .inr (5, [.int (iI (0)), .int (iI ((((n + 1) : Nat) : Int))), .ref mnw, .ref mte, .ref mge, .ref mus, .int (iI (((p : Nat) : Int))), .int (iI (((st : Nat) : Int))), .int (iI (cc)), .int (iI (bc)), .ref mco, .ref mfl, .ref mba, .ref mdu, .long (lI (pot)), .long (lI (gr)), .long (lI (bk)), .int (iI (btw)), .int (iI (bhd))])) :: (mnw, .inl (k4 0, 19, .inl (fun i9 => iI ((up (up NW (7 + n) 10) (13 + n) n) i9)))) :: (mte, .inl (k4 0, 912, .inl (fun i9 => iI (TE i9)))) :: (mge, .inl (k4 0, 288, .inl (fun i9 => iI (GE i9)))) :: (mus, .inl (k4 0, 288, .inl (fun i9 => iI (US i9)))) :: (mco, .inl (k4 0, 48, .inl (fun i9 => iI (CO i9)))) :: (mfl, .inl (k4 0, 2304, .inl (fun i9 => iI (FL i9)))) :: (mba, .inl (k4 1, 6, .inr (.inl (fun i9 => lI (BA i9))))) :: (mdu, .inl (k4 1, 6, .inr (.inl (fun i9 => lI (DU i9))))) :: (ao, .inl (k4 1, 1, .inr (.inl (fun i9 => lI ((up O 0 (((n : Nat) : Int))) i9))))) :: (xW k4 lo lnow lsl lcl lba ldu nsh nrk h1 r1 q1 h2 r2 q2 ta sa (n + 1) p st cc bc pot gr bk (up (up nw (7 + n) 10) (13 + n) n) bal due S1 S2 tx sg)) H locs → lv_has ls 9 [(0, .ref bs), (1, .ref lo), (2, .ref mo), (3, .ref ao), (4, .int (iI (((i : Nat) : Int))))] → W pp l ee room_1 ss mm #[Value.ref bs] bl me co H locs (cl9 + ((0) + (0))) (sl9 + ((0) + (0))) Q9 (F0 mm 1502 ls [])) : W pp l ee room_1 ss mm #[Value.ref bs] bl me co H locs (cl9) (sl9) Q9 (F0 mm 148 ls []) := by
  refine z_aload_n E hl 1 rfl dL_law_148 rfl ?_
  refine z_aload_n E hl 3 rfl dL_law_149 rfl ?_
  refine z_callL (n := 2) (pre := [(mo, .inr (5, [.int (iI (th)), .int (iI (((n : Nat) : Int))), .ref mnw, .ref mte, .ref mge, .ref mus, .int (iI (((p : Nat) : Int))), .int (iI (((st : Nat) : Int))), .int (iI (cc)), .int (iI (bc)), .ref mco, .ref mfl, .ref mba, .ref mdu, .long (lI (pot)), .long (lI (gr)), .long (lI (bk)), .int (iI (btw)), .int (iI (bhd))])), (mnw, .inl (k4 0, 19, .inl (fun i9 => iI (NW i9)))), (mte, .inl (k4 0, 912, .inl (fun i9 => iI (TE i9)))), (mge, .inl (k4 0, 288, .inl (fun i9 => iI (GE i9)))), (mus, .inl (k4 0, 288, .inl (fun i9 => iI (US i9)))), (mco, .inl (k4 0, 48, .inl (fun i9 => iI (CO i9)))), (mfl, .inl (k4 0, 2304, .inl (fun i9 => iI (FL i9)))), (mba, .inl (k4 1, 6, .inr (.inl (fun i9 => lI (BA i9))))), (mdu, .inl (k4 1, 6, .inr (.inl (fun i9 => lI (DU i9)))))]) E X G hl.1 (w_addMember l D k4 lo lnow lsl lcl lba ldu nsh nrk h1 r1 q1 h2 r2 q2 ta sa n p st cc bc pot gr bk nw bal due S1 S2 tx sg ao O hX hn hp) zw_72 zw_73 zw_74 zw_75 (by decide +kernel) (by decide +kernel) ⟨rfl, rfl, Nat.le_of_ble_eq_true rfl, Nat.le_of_ble_eq_true rfl⟩ rfl rfl (Nat.le_of_ble_eq_true rfl) dL_law_150 ⟨by omega, by omega⟩ (fun v9 w9 H locs hq G => ?_)
  obtain ⟨rfl, rfl⟩ := hq
  refine W.eq (g2 := F0 mm 153 ls [.int (iI (0))]) rfl ?_
  have G : zG D AA ss.heap ((mo, .inr (5, [.int (iI (th)), .int (iI (((n : Nat) : Int))), .ref mnw, .ref mte, .ref mge, .ref mus, .int (iI (((p : Nat) : Int))), .int (iI (((st : Nat) : Int))), .int (iI (cc)), .int (iI (bc)), .ref mco, .ref mfl, .ref mba, .ref mdu, .long (lI (pot)), .long (lI (gr)), .long (lI (bk)), .int (iI (btw)), .int (iI (bhd))])) :: (mnw, .inl (k4 0, 19, .inl (fun i9 => iI (NW i9)))) :: (mte, .inl (k4 0, 912, .inl (fun i9 => iI (TE i9)))) :: (mge, .inl (k4 0, 288, .inl (fun i9 => iI (GE i9)))) :: (mus, .inl (k4 0, 288, .inl (fun i9 => iI (US i9)))) :: (mco, .inl (k4 0, 48, .inl (fun i9 => iI (CO i9)))) :: (mfl, .inl (k4 0, 2304, .inl (fun i9 => iI (FL i9)))) :: (mba, .inl (k4 1, 6, .inr (.inl (fun i9 => lI (BA i9))))) :: (mdu, .inl (k4 1, 6, .inr (.inl (fun i9 => lI (DU i9))))) :: (ao, .inl (k4 1, 1, .inr (.inl (fun i9 => lI ((up O 0 (((n : Nat) : Int))) i9))))) :: (xW k4 lo lnow lsl lcl lba ldu nsh nrk h1 r1 q1 h2 r2 q2 ta sa (n + 1) p st cc bc pot gr bk (up (up nw (7 + n) 10) (13 + n) n) bal due S1 S2 tx sg)) H locs := G
  refine z_istore E [(5, .int (iI (0))), (0, .ref bs), (1, .ref lo), (2, .ref mo), (3, .ref ao), (4, .int (iI (((i : Nat) : Int))))] dL_law_153 hl (by decide) rfl (fun ls hl => ?_)
  refine z_aload_n E hl 3 rfl dL_law_155 rfl ?_
  refine z_callV E G hl.1 (c_X5_addMember l D k4 mo mnw mte mge mus mco mfl mba mdu th n p st cc bc pot gr bk btw bhd NW (by omega) (by omega) (by omega)) kV_L_88 ⟨rfl, rfl, Nat.le_of_ble_eq_true rfl, Nat.le_of_ble_eq_true rfl⟩ [0, 1] rfl (by decide) 0 5 rfl rfl rfl rfl rfl (Nat.le_of_ble_eq_true rfl) dL_law_156 ⟨by omega, by omega⟩ (fun v9 w9 H locs hq G => ?_)
  obtain ⟨rfl, rfl⟩ := hq
  refine W.eq (g2 := F0 mm 159 ls [.int (iI (((n : Nat) : Int)))]) rfl ?_
  have G : zG D AA ss.heap ((mo, .inr (5, [.int (iI (0)), .int (iI (((n + 1 : Nat) : Int))), .ref mnw, .ref mte, .ref mge, .ref mus, .int (iI (((p : Nat) : Int))), .int (iI (((st : Nat) : Int))), .int (iI (cc)), .int (iI (bc)), .ref mco, .ref mfl, .ref mba, .ref mdu, .long (lI (pot)), .long (lI (gr)), .long (lI (bk)), .int (iI (btw)), .int (iI (bhd))])) :: (mnw, .inl (k4 0, 19, .inl (fun i9 => iI ((up (up NW (7 + n) 10) (13 + n) n) i9)))) :: (mte, .inl (k4 0, 912, .inl (fun i9 => iI (TE i9)))) :: (mge, .inl (k4 0, 288, .inl (fun i9 => iI (GE i9)))) :: (mus, .inl (k4 0, 288, .inl (fun i9 => iI (US i9)))) :: (mco, .inl (k4 0, 48, .inl (fun i9 => iI (CO i9)))) :: (mfl, .inl (k4 0, 2304, .inl (fun i9 => iI (FL i9)))) :: (mba, .inl (k4 1, 6, .inr (.inl (fun i9 => lI (BA i9))))) :: (mdu, .inl (k4 1, 6, .inr (.inl (fun i9 => lI (DU i9))))) :: (ao, .inl (k4 1, 1, .inr (.inl (fun i9 => lI ((up O 0 (((n : Nat) : Int))) i9))))) :: (xW k4 lo lnow lsl lcl lba ldu nsh nrk h1 r1 q1 h2 r2 q2 ta sa (n + 1) p st cc bc pot gr bk (up (up nw (7 + n) 10) (13 + n) n) bal due S1 S2 tx sg)) H locs := G
  refine z_istore E [(6, .int (iI (((n : Nat) : Int)))), (5, .int (iI (0))), (0, .ref bs), (1, .ref lo), (2, .ref mo), (3, .ref ao), (4, .int (iI (((i : Nat) : Int))))] dL_law_159 hl (by decide) rfl (fun ls hl => ?_)
  refine z_aload_n E hl 4 rfl dL_law_161 rfl ?_
  refine z_callV E G hl.1 (c_X5_thrown l D k4 mo mnw mte mge mus mco mfl mba mdu 0 (n + 1) p st cc bc pot gr bk btw bhd ) kV_L_89 ⟨rfl, rfl, Nat.le_of_ble_eq_true rfl, Nat.le_of_ble_eq_true rfl⟩ [0] rfl (by decide) 0 5 rfl rfl rfl rfl rfl (Nat.le_of_ble_eq_true rfl) dL_law_162 ⟨by omega, by omega⟩ (fun v9 w9 H locs hq G => ?_)
  obtain ⟨rfl, rfl⟩ := hq
  refine W.eq (g2 := F0 mm 165 ls [.int (iI (0))]) rfl ?_
  have G : zG D AA ss.heap ((mo, .inr (5, [.int (iI (0)), .int (iI ((((n + 1) : Nat) : Int))), .ref mnw, .ref mte, .ref mge, .ref mus, .int (iI (((p : Nat) : Int))), .int (iI (((st : Nat) : Int))), .int (iI (cc)), .int (iI (bc)), .ref mco, .ref mfl, .ref mba, .ref mdu, .long (lI (pot)), .long (lI (gr)), .long (lI (bk)), .int (iI (btw)), .int (iI (bhd))])) :: (mnw, .inl (k4 0, 19, .inl (fun i9 => iI ((up (up NW (7 + n) 10) (13 + n) n) i9)))) :: (mte, .inl (k4 0, 912, .inl (fun i9 => iI (TE i9)))) :: (mge, .inl (k4 0, 288, .inl (fun i9 => iI (GE i9)))) :: (mus, .inl (k4 0, 288, .inl (fun i9 => iI (US i9)))) :: (mco, .inl (k4 0, 48, .inl (fun i9 => iI (CO i9)))) :: (mfl, .inl (k4 0, 2304, .inl (fun i9 => iI (FL i9)))) :: (mba, .inl (k4 1, 6, .inr (.inl (fun i9 => lI (BA i9))))) :: (mdu, .inl (k4 1, 6, .inr (.inl (fun i9 => lI (DU i9))))) :: (ao, .inl (k4 1, 1, .inr (.inl (fun i9 => lI ((up O 0 (((n : Nat) : Int))) i9))))) :: (xW k4 lo lnow lsl lcl lba ldu nsh nrk h1 r1 q1 h2 r2 q2 ta sa (n + 1) p st cc bc pot gr bk (up (up nw (7 + n) 10) (13 + n) n) bal due S1 S2 tx sg)) H locs := G
  refine z_iload E hl 1 rfl dL_law_165 ?_
  refine z_icmp_eq (tgt := 172) E dL_law_167 (by decide) (by decide) (by decide) (fun c_167 => ?_) (fun c_167 => absurd c_167 (by decide))
  refine z_iload E hl 1 rfl dL_law_172 ?_
  refine z_if_ne (tgt := 189) E dL_law_174 (by decide) (by decide) (fun c_174 => absurd c_174 (by decide)) (fun c_174 => ?_)
  refine z_aload_n E hl 5 rfl dL_law_177 rfl ?_
  refine z_iconst E dL_law_178 ?_
  refine z_lald E G 9 rfl (0) rfl (by decide) (by decide) dL_law_179 ?_
  refine z_eql (y := ((n : Nat) : Int)) up_s ?_
  refine z_iload E hl 0 rfl dL_law_180 ?_
  refine z_i2l E dL_law_182 hrb ?_
  refine z_lcmp E dL_law_183 ?_
  refine z_if_eq (tgt := 189) E dL_law_184 (by decide) (lcI_rng _ _) (fun c_184 => ?_) (fun c_184 => absurd c_184 (by rw [lcI_self]; decide))
  refine z_goto (tgt := 1502) E dL_law_189 (by decide) ?_
  refine W.cs (cells' := cl9 + ((0) + (0))) (slots' := sl9 + ((0) + (0))) (by omega) (by omega) ?_
  exact kk _ _ _ G (lv_sub hl [2, 3, 4, 5, 6] rfl)

set_option maxHeartbeats 4000000 in
set_option maxRecDepth 100000 in
theorem s_addMember_0 {pp : Program} {l : Launch} {ee : Env} {ss : State} {mm : MethodId} {bl : List Frame} {me : Method} {co : Code} {AA : Nat → Prop} {H : Heap} {locs : List Loc} {ls : Array Slot} {Q9 : State → Prop} {D : va_G} {k4 : Nat → ClassId} {bs Ls : Nat} {xs : Nat → Int32} {cl9 sl9 : Nat} (hl9 : l.stackTraces = false) (E : zE pp mm co cL_law 9 ss #[Value.ref bs] RL D k4) (X : zEL ss AA) (S9 : zSc bs Ls xs ss AA) (i : Nat) (hi5 : i + 4 < Ls) (lo lnow lsl lcl lba ldu nsh nrk h1 r1 q1 h2 r2 q2 : Nat) (ta : Nat → Nat) (sa : Nat → Nat → Nat) (n p st : Nat) (cc bc pot gr bk : Int) (nw bal due : Nat → Int) (S1 S2 : sS) (tx : Nat → Nat → Int) (sg : Nat → Nat → Nat → Int)  (mo mnw mte mge mus mco mfl mba mdu : Nat) (th btw bhd : Int) (NW TE GE US CO FL BA DU : Nat → Int) (ao : Nat) (O : Nat → Int) (hX : xOK n p st bc nw S1 S2 tx sg) (hq : n = 6 ∨ 0 < p) (hn9 : n ≤ 6) (hp9 : p ≤ 48) (hs9 : st ≤ 48) (hcc : rng cc) (hb9 : 0 ≤ bc ∧ bc ≤ 20000) (hc9 : cl9 + ((1) + (0)) ≤ room_1.cells) (hs99 : sl9 + ((6) + (0)) ≤ room_1.slots) (G : zG D AA ss.heap ((mo, .inr (5, [.int (iI (th)), .int (iI (((n : Nat) : Int))), .ref mnw, .ref mte, .ref mge, .ref mus, .int (iI (((p : Nat) : Int))), .int (iI (((st : Nat) : Int))), .int (iI (cc)), .int (iI (bc)), .ref mco, .ref mfl, .ref mba, .ref mdu, .long (lI (pot)), .long (lI (gr)), .long (lI (bk)), .int (iI (btw)), .int (iI (bhd))])) :: (mnw, .inl (k4 0, 19, .inl (fun i9 => iI (NW i9)))) :: (mte, .inl (k4 0, 912, .inl (fun i9 => iI (TE i9)))) :: (mge, .inl (k4 0, 288, .inl (fun i9 => iI (GE i9)))) :: (mus, .inl (k4 0, 288, .inl (fun i9 => iI (US i9)))) :: (mco, .inl (k4 0, 48, .inl (fun i9 => iI (CO i9)))) :: (mfl, .inl (k4 0, 2304, .inl (fun i9 => iI (FL i9)))) :: (mba, .inl (k4 1, 6, .inr (.inl (fun i9 => lI (BA i9))))) :: (mdu, .inl (k4 1, 6, .inr (.inl (fun i9 => lI (DU i9))))) :: (ao, .inl (k4 1, 1, .inr (.inl (fun i9 => lI (O i9))))) :: (xW k4 lo lnow lsl lcl lba ldu nsh nrk h1 r1 q1 h2 r2 q2 ta sa n p st cc bc pot gr bk nw bal due S1 S2 tx sg)) H locs) (hl : lv_has ls 9 [(0, .ref bs), (1, .ref lo), (2, .ref mo), (3, .ref ao), (4, .int (iI (((i : Nat) : Int))))]) (kk : ∀ (H : Heap) (locs : List Loc) (ls : Array Slot), zG D AA ss.heap ((mo, .inr (5, [.int (iI (1)), .int (iI (((n : Nat) : Int))), .ref mnw, .ref mte, .ref mge, .ref mus, .int (iI (((p : Nat) : Int))), .int (iI (((st : Nat) : Int))), .int (iI (cc)), .int (iI (bc)), .ref mco, .ref mfl, .ref mba, .ref mdu, .long (lI (pot)), .long (lI (gr)), .long (lI (bk)), .int (iI (btw)), .int (iI (bhd))])) :: (mnw, .inl (k4 0, 19, .inl (fun i9 => iI (NW i9)))) :: (mte, .inl (k4 0, 912, .inl (fun i9 => iI (TE i9)))) :: (mge, .inl (k4 0, 288, .inl (fun i9 => iI (GE i9)))) :: (mus, .inl (k4 0, 288, .inl (fun i9 => iI (US i9)))) :: (mco, .inl (k4 0, 48, .inl (fun i9 => iI (CO i9)))) :: (mfl, .inl (k4 0, 2304, .inl (fun i9 => iI (FL i9)))) :: (mba, .inl (k4 1, 6, .inr (.inl (fun i9 => lI (BA i9))))) :: (mdu, .inl (k4 1, 6, .inr (.inl (fun i9 => lI (DU i9))))) :: (ao, .inl (k4 1, 1, .inr (.inl (fun i9 => lI (O i9))))) :: (xW k4 lo lnow lsl lcl lba ldu nsh nrk h1 r1 q1 h2 r2 q2 ta sa n p st cc bc pot gr bk nw bal due S1 S2 tx sg)) H locs → lv_has ls 9 [(0, .ref bs), (1, .ref lo), (2, .ref mo), (3, .ref ao), (4, .int (iI (((i : Nat) : Int))))] → W pp l ee room_1 ss mm #[Value.ref bs] bl me co H locs (cl9 + ((1) + (0))) (sl9 + ((6) + (0))) Q9 (F0 mm 1502 ls [])) : W pp l ee room_1 ss mm #[Value.ref bs] bl me co H locs (cl9) (sl9) Q9 (F0 mm 148 ls []) := by
  refine z_aload_n E hl 1 rfl dL_law_148 rfl ?_
  refine z_aload_n E hl 3 rfl dL_law_149 rfl ?_
  refine z_callL (n := 2) (pre := [(mo, .inr (5, [.int (iI (th)), .int (iI (((n : Nat) : Int))), .ref mnw, .ref mte, .ref mge, .ref mus, .int (iI (((p : Nat) : Int))), .int (iI (((st : Nat) : Int))), .int (iI (cc)), .int (iI (bc)), .ref mco, .ref mfl, .ref mba, .ref mdu, .long (lI (pot)), .long (lI (gr)), .long (lI (bk)), .int (iI (btw)), .int (iI (bhd))])), (mnw, .inl (k4 0, 19, .inl (fun i9 => iI (NW i9)))), (mte, .inl (k4 0, 912, .inl (fun i9 => iI (TE i9)))), (mge, .inl (k4 0, 288, .inl (fun i9 => iI (GE i9)))), (mus, .inl (k4 0, 288, .inl (fun i9 => iI (US i9)))), (mco, .inl (k4 0, 48, .inl (fun i9 => iI (CO i9)))), (mfl, .inl (k4 0, 2304, .inl (fun i9 => iI (FL i9)))), (mba, .inl (k4 1, 6, .inr (.inl (fun i9 => lI (BA i9))))), (mdu, .inl (k4 1, 6, .inr (.inl (fun i9 => lI (DU i9)))))]) E X G hl.1 (w_addMember_0 l hl9 D k4 lo lnow lsl lcl lba ldu nsh nrk h1 r1 q1 h2 r2 q2 ta sa n p st cc bc pot gr bk nw bal due S1 S2 tx sg ao O hX hq) zw_72 zw_73 zw_74 zw_75 (by decide +kernel) (by decide +kernel) ⟨rfl, rfl, Nat.le_of_ble_eq_true rfl, Nat.le_of_ble_eq_true rfl⟩ rfl rfl (Nat.le_of_ble_eq_true rfl) dL_law_150 ⟨by omega, by omega⟩ (fun v9 w9 H locs hq G => ?_)
  obtain ⟨rfl, rfl⟩ := hq
  refine W.eq (g2 := F0 mm 153 ls [.int (iI (1))]) rfl ?_
  have G : zG D AA ss.heap ((mo, .inr (5, [.int (iI (th)), .int (iI (((n : Nat) : Int))), .ref mnw, .ref mte, .ref mge, .ref mus, .int (iI (((p : Nat) : Int))), .int (iI (((st : Nat) : Int))), .int (iI (cc)), .int (iI (bc)), .ref mco, .ref mfl, .ref mba, .ref mdu, .long (lI (pot)), .long (lI (gr)), .long (lI (bk)), .int (iI (btw)), .int (iI (bhd))])) :: (mnw, .inl (k4 0, 19, .inl (fun i9 => iI (NW i9)))) :: (mte, .inl (k4 0, 912, .inl (fun i9 => iI (TE i9)))) :: (mge, .inl (k4 0, 288, .inl (fun i9 => iI (GE i9)))) :: (mus, .inl (k4 0, 288, .inl (fun i9 => iI (US i9)))) :: (mco, .inl (k4 0, 48, .inl (fun i9 => iI (CO i9)))) :: (mfl, .inl (k4 0, 2304, .inl (fun i9 => iI (FL i9)))) :: (mba, .inl (k4 1, 6, .inr (.inl (fun i9 => lI (BA i9))))) :: (mdu, .inl (k4 1, 6, .inr (.inl (fun i9 => lI (DU i9))))) :: (ao, .inl (k4 1, 1, .inr (.inl (fun i9 => lI (O i9))))) :: (xW k4 lo lnow lsl lcl lba ldu nsh nrk h1 r1 q1 h2 r2 q2 ta sa n p st cc bc pot gr bk nw bal due S1 S2 tx sg)) H locs := G
  refine z_istore E [(5, .int (iI (1))), (0, .ref bs), (1, .ref lo), (2, .ref mo), (3, .ref ao), (4, .int (iI (((i : Nat) : Int))))] dL_law_153 hl (by decide) rfl (fun ls hl => ?_)
  refine z_aload_n E hl 3 rfl dL_law_155 rfl ?_
  refine z_callV E G hl.1 (c_X5_addMember_0 l D k4 mo mnw mte mge mus mco mfl mba mdu th n p st cc bc pot gr bk btw bhd (by omega) (by omega) (by omega)) kV_L_88 ⟨rfl, rfl, Nat.le_of_ble_eq_true rfl, Nat.le_of_ble_eq_true rfl⟩ [0] rfl (by decide) 0 5 rfl rfl rfl rfl rfl (Nat.le_of_ble_eq_true rfl) dL_law_156 ⟨by omega, by omega⟩ (fun v9 w9 H locs hq G => ?_)
  obtain ⟨rfl, rfl⟩ := hq
  refine W.eq (g2 := F0 mm 159 ls [.int (iI (0))]) rfl ?_
  have G : zG D AA ss.heap ((mo, .inr (5, [.int (iI (1)), .int (iI (((n : Nat) : Int))), .ref mnw, .ref mte, .ref mge, .ref mus, .int (iI (((p : Nat) : Int))), .int (iI (((st : Nat) : Int))), .int (iI (cc)), .int (iI (bc)), .ref mco, .ref mfl, .ref mba, .ref mdu, .long (lI (pot)), .long (lI (gr)), .long (lI (bk)), .int (iI (btw)), .int (iI (bhd))])) :: (mnw, .inl (k4 0, 19, .inl (fun i9 => iI (NW i9)))) :: (mte, .inl (k4 0, 912, .inl (fun i9 => iI (TE i9)))) :: (mge, .inl (k4 0, 288, .inl (fun i9 => iI (GE i9)))) :: (mus, .inl (k4 0, 288, .inl (fun i9 => iI (US i9)))) :: (mco, .inl (k4 0, 48, .inl (fun i9 => iI (CO i9)))) :: (mfl, .inl (k4 0, 2304, .inl (fun i9 => iI (FL i9)))) :: (mba, .inl (k4 1, 6, .inr (.inl (fun i9 => lI (BA i9))))) :: (mdu, .inl (k4 1, 6, .inr (.inl (fun i9 => lI (DU i9))))) :: (ao, .inl (k4 1, 1, .inr (.inl (fun i9 => lI (O i9))))) :: (xW k4 lo lnow lsl lcl lba ldu nsh nrk h1 r1 q1 h2 r2 q2 ta sa n p st cc bc pot gr bk nw bal due S1 S2 tx sg)) H locs := G
  refine z_istore E [(6, .int (iI (0))), (5, .int (iI (1))), (0, .ref bs), (1, .ref lo), (2, .ref mo), (3, .ref ao), (4, .int (iI (((i : Nat) : Int))))] dL_law_159 hl (by decide) rfl (fun ls hl => ?_)
  refine z_aload_n E hl 4 rfl dL_law_161 rfl ?_
  refine z_callV E G hl.1 (c_X5_thrown l D k4 mo mnw mte mge mus mco mfl mba mdu 1 n p st cc bc pot gr bk btw bhd ) kV_L_89 ⟨rfl, rfl, Nat.le_of_ble_eq_true rfl, Nat.le_of_ble_eq_true rfl⟩ [0] rfl (by decide) 0 5 rfl rfl rfl rfl rfl (Nat.le_of_ble_eq_true rfl) dL_law_162 ⟨by omega, by omega⟩ (fun v9 w9 H locs hq G => ?_)
  obtain ⟨rfl, rfl⟩ := hq
  refine W.eq (g2 := F0 mm 165 ls [.int (iI (1))]) rfl ?_
  have G : zG D AA ss.heap ((mo, .inr (5, [.int (iI (1)), .int (iI (((n : Nat) : Int))), .ref mnw, .ref mte, .ref mge, .ref mus, .int (iI (((p : Nat) : Int))), .int (iI (((st : Nat) : Int))), .int (iI (cc)), .int (iI (bc)), .ref mco, .ref mfl, .ref mba, .ref mdu, .long (lI (pot)), .long (lI (gr)), .long (lI (bk)), .int (iI (btw)), .int (iI (bhd))])) :: (mnw, .inl (k4 0, 19, .inl (fun i9 => iI (NW i9)))) :: (mte, .inl (k4 0, 912, .inl (fun i9 => iI (TE i9)))) :: (mge, .inl (k4 0, 288, .inl (fun i9 => iI (GE i9)))) :: (mus, .inl (k4 0, 288, .inl (fun i9 => iI (US i9)))) :: (mco, .inl (k4 0, 48, .inl (fun i9 => iI (CO i9)))) :: (mfl, .inl (k4 0, 2304, .inl (fun i9 => iI (FL i9)))) :: (mba, .inl (k4 1, 6, .inr (.inl (fun i9 => lI (BA i9))))) :: (mdu, .inl (k4 1, 6, .inr (.inl (fun i9 => lI (DU i9))))) :: (ao, .inl (k4 1, 1, .inr (.inl (fun i9 => lI (O i9))))) :: (xW k4 lo lnow lsl lcl lba ldu nsh nrk h1 r1 q1 h2 r2 q2 ta sa n p st cc bc pot gr bk nw bal due S1 S2 tx sg)) H locs := G
  refine z_iload E hl 1 rfl dL_law_165 ?_
  refine z_icmp_eq (tgt := 172) E dL_law_167 (by decide) (by decide) (by decide) (fun c_167 => ?_) (fun c_167 => absurd c_167 (by decide))
  refine z_iload E hl 1 rfl dL_law_172 ?_
  refine z_if_ne (tgt := 189) E dL_law_174 (by decide) (by decide) (fun c_174 => ?_) (fun c_174 => absurd c_174 (by decide))
  refine z_goto (tgt := 1502) E dL_law_189 (by decide) ?_
  refine W.cs (cells' := cl9 + ((1) + (0))) (slots' := sl9 + ((6) + (0))) (by omega) (by omega) ?_
  exact kk _ _ _ G (lv_sub hl [2, 3, 4, 5, 6] rfl)

set_option maxHeartbeats 4000000 in
set_option maxRecDepth 100000 in
theorem s_setMember {pp : Program} {l : Launch} {ee : Env} {ss : State} {mm : MethodId} {bl : List Frame} {me : Method} {co : Code} {AA : Nat → Prop} {H : Heap} {locs : List Loc} {ls : Array Slot} {Q9 : State → Prop} {D : va_G} {k4 : Nat → ClassId} {bs Ls : Nat} {xs : Nat → Int32} {cl9 sl9 : Nat} (hl9 : l.stackTraces = false) (E : zE pp mm co cL_law 9 ss #[Value.ref bs] RL D k4) (X : zEL ss AA) (S9 : zSc bs Ls xs ss AA) (i : Nat) (hi5 : i + 4 < Ls) (lo lnow lsl lcl lba ldu nsh nrk h1 r1 q1 h2 r2 q2 : Nat) (ta : Nat → Nat) (sa : Nat → Nat → Nat) (n p st : Nat) (cc bc pot gr bk : Int) (nw bal due : Nat → Int) (S1 S2 : sS) (tx : Nat → Nat → Int) (sg : Nat → Nat → Nat → Int) (m : Nat) (a b : Int) (mo mnw mte mge mus mco mfl mba mdu : Nat) (th btw bhd : Int) (NW TE GE US CO FL BA DU : Nat → Int) (ao : Nat) (O : Nat → Int) (hX : xOK n p st bc nw S1 S2 tx sg) (hm : m < n) (ha : 0 ≤ a ∧ a ≤ 100) (hb : 0 ≤ b ∧ b ≤ 99) (hn9 : n ≤ 6) (hp9 : p ≤ 48) (hs9 : st ≤ 48) (hcc : rng cc) (hb9 : 0 ≤ bc ∧ bc ≤ 20000) (hx1 : (xs (i + 1)).toInt = ((m : Nat) : Int)) (hx2 : (xs (i + 2)).toInt = a) (hx3 : (xs (i + 3)).toInt = b) (hans : ((nw (7 + m)) : Int) = (NW (7 + m))) (hrb : rng (NW (7 + m))) (hc9 : cl9 + ((0) + (0)) ≤ room_1.cells) (hs99 : sl9 + ((0) + (0)) ≤ room_1.slots) (G : zG D AA ss.heap ((mo, .inr (5, [.int (iI (th)), .int (iI (((n : Nat) : Int))), .ref mnw, .ref mte, .ref mge, .ref mus, .int (iI (((p : Nat) : Int))), .int (iI (((st : Nat) : Int))), .int (iI (cc)), .int (iI (bc)), .ref mco, .ref mfl, .ref mba, .ref mdu, .long (lI (pot)), .long (lI (gr)), .long (lI (bk)), .int (iI (btw)), .int (iI (bhd))])) :: (mnw, .inl (k4 0, 19, .inl (fun i9 => iI (NW i9)))) :: (mte, .inl (k4 0, 912, .inl (fun i9 => iI (TE i9)))) :: (mge, .inl (k4 0, 288, .inl (fun i9 => iI (GE i9)))) :: (mus, .inl (k4 0, 288, .inl (fun i9 => iI (US i9)))) :: (mco, .inl (k4 0, 48, .inl (fun i9 => iI (CO i9)))) :: (mfl, .inl (k4 0, 2304, .inl (fun i9 => iI (FL i9)))) :: (mba, .inl (k4 1, 6, .inr (.inl (fun i9 => lI (BA i9))))) :: (mdu, .inl (k4 1, 6, .inr (.inl (fun i9 => lI (DU i9))))) :: (ao, .inl (k4 1, 1, .inr (.inl (fun i9 => lI (O i9))))) :: (xW k4 lo lnow lsl lcl lba ldu nsh nrk h1 r1 q1 h2 r2 q2 ta sa n p st cc bc pot gr bk nw bal due S1 S2 tx sg)) H locs) (hl : lv_has ls 9 [(0, .ref bs), (1, .ref lo), (2, .ref mo), (3, .ref ao), (4, .int (iI (((i : Nat) : Int))))]) (kk : ∀ (H : Heap) (locs : List Loc) (ls : Array Slot), zG D AA ss.heap ((mo, .inr (5, [.int (iI (0)), .int (iI (((n : Nat) : Int))), .ref mnw, .ref mte, .ref mge, .ref mus, .int (iI (((p : Nat) : Int))), .int (iI (((st : Nat) : Int))), .int (iI (cc)), .int (iI (bc)), .ref mco, .ref mfl, .ref mba, .ref mdu, .long (lI (pot)), .long (lI (gr)), .long (lI (bk)), .int (iI (btw)), .int (iI (bhd))])) :: (mnw, .inl (k4 0, 19, .inl (fun i9 => iI ((up (up NW (7 + m) a) (13 + m) b) i9)))) :: (mte, .inl (k4 0, 912, .inl (fun i9 => iI (TE i9)))) :: (mge, .inl (k4 0, 288, .inl (fun i9 => iI (GE i9)))) :: (mus, .inl (k4 0, 288, .inl (fun i9 => iI (US i9)))) :: (mco, .inl (k4 0, 48, .inl (fun i9 => iI (CO i9)))) :: (mfl, .inl (k4 0, 2304, .inl (fun i9 => iI (FL i9)))) :: (mba, .inl (k4 1, 6, .inr (.inl (fun i9 => lI (BA i9))))) :: (mdu, .inl (k4 1, 6, .inr (.inl (fun i9 => lI (DU i9))))) :: (ao, .inl (k4 1, 1, .inr (.inl (fun i9 => lI ((up O 0 (nw (7 + m))) i9))))) :: (xW k4 lo lnow lsl lcl lba ldu nsh nrk h1 r1 q1 h2 r2 q2 ta sa n p st cc bc pot gr bk (up (up nw (7 + m) a) (13 + m) b) bal due S1 S2 tx sg)) H locs → lv_has ls 9 [(0, .ref bs), (1, .ref lo), (2, .ref mo), (3, .ref ao), (4, .int (iI (((i : Nat) : Int))))] → W pp l ee room_1 ss mm #[Value.ref bs] bl me co H locs (cl9 + ((0) + (0))) (sl9 + ((0) + (0))) Q9 (F0 mm 1502 ls [])) : W pp l ee room_1 ss mm #[Value.ref bs] bl me co H locs (cl9) (sl9) Q9 (F0 mm 192 ls []) := by
  refine z_aload_n E hl 1 rfl dL_law_192 rfl ?_
  refine z_aload_n E hl 0 rfl dL_law_193 rfl ?_
  refine z_iload E hl 4 rfl dL_law_194 ?_
  refine z_iconst E dL_law_196 ?_
  refine z_iadd E dL_law_197 ?_
  refine z_sld E S9 G (i + 1) (by omega) (by omega) dL_law_198 ?_
  refine z_eq (y := ((m : Nat) : Int)) hx1 ?_
  refine z_aload_n E hl 0 rfl dL_law_199 rfl ?_
  refine z_iload E hl 4 rfl dL_law_200 ?_
  refine z_iconst E dL_law_202 ?_
  refine z_iadd E dL_law_203 ?_
  refine z_sld E S9 G (i + 2) (by omega) (by omega) dL_law_204 ?_
  refine z_eq (y := a) hx2 ?_
  refine z_aload_n E hl 0 rfl dL_law_205 rfl ?_
  refine z_iload E hl 4 rfl dL_law_206 ?_
  refine z_iconst E dL_law_208 ?_
  refine z_iadd E dL_law_209 ?_
  refine z_sld E S9 G (i + 3) (by omega) (by omega) dL_law_210 ?_
  refine z_eq (y := b) hx3 ?_
  refine z_aload_n E hl 3 rfl dL_law_211 rfl ?_
  refine z_callL (n := 5) (pre := [(mo, .inr (5, [.int (iI (th)), .int (iI (((n : Nat) : Int))), .ref mnw, .ref mte, .ref mge, .ref mus, .int (iI (((p : Nat) : Int))), .int (iI (((st : Nat) : Int))), .int (iI (cc)), .int (iI (bc)), .ref mco, .ref mfl, .ref mba, .ref mdu, .long (lI (pot)), .long (lI (gr)), .long (lI (bk)), .int (iI (btw)), .int (iI (bhd))])), (mnw, .inl (k4 0, 19, .inl (fun i9 => iI (NW i9)))), (mte, .inl (k4 0, 912, .inl (fun i9 => iI (TE i9)))), (mge, .inl (k4 0, 288, .inl (fun i9 => iI (GE i9)))), (mus, .inl (k4 0, 288, .inl (fun i9 => iI (US i9)))), (mco, .inl (k4 0, 48, .inl (fun i9 => iI (CO i9)))), (mfl, .inl (k4 0, 2304, .inl (fun i9 => iI (FL i9)))), (mba, .inl (k4 1, 6, .inr (.inl (fun i9 => lI (BA i9))))), (mdu, .inl (k4 1, 6, .inr (.inl (fun i9 => lI (DU i9)))))]) E X G hl.1 (w_setMember l D k4 lo lnow lsl lcl lba ldu nsh nrk h1 r1 q1 h2 r2 q2 ta sa n p st cc bc pot gr bk nw bal due S1 S2 tx sg m a b ao O hX hm ha hb) zw_105 zw_106 zw_74 zw_107 (by decide +kernel) (by decide +kernel) ⟨rfl, rfl, Nat.le_of_ble_eq_true rfl, Nat.le_of_ble_eq_true rfl⟩ rfl rfl (Nat.le_of_ble_eq_true rfl) dL_law_212 ⟨by omega, by omega⟩ (fun v9 w9 H locs hq G => ?_)
  obtain ⟨rfl, rfl⟩ := hq
  refine W.eq (g2 := F0 mm 215 ls [.int (iI (0))]) rfl ?_
  have G : zG D AA ss.heap ((mo, .inr (5, [.int (iI (th)), .int (iI (((n : Nat) : Int))), .ref mnw, .ref mte, .ref mge, .ref mus, .int (iI (((p : Nat) : Int))), .int (iI (((st : Nat) : Int))), .int (iI (cc)), .int (iI (bc)), .ref mco, .ref mfl, .ref mba, .ref mdu, .long (lI (pot)), .long (lI (gr)), .long (lI (bk)), .int (iI (btw)), .int (iI (bhd))])) :: (mnw, .inl (k4 0, 19, .inl (fun i9 => iI (NW i9)))) :: (mte, .inl (k4 0, 912, .inl (fun i9 => iI (TE i9)))) :: (mge, .inl (k4 0, 288, .inl (fun i9 => iI (GE i9)))) :: (mus, .inl (k4 0, 288, .inl (fun i9 => iI (US i9)))) :: (mco, .inl (k4 0, 48, .inl (fun i9 => iI (CO i9)))) :: (mfl, .inl (k4 0, 2304, .inl (fun i9 => iI (FL i9)))) :: (mba, .inl (k4 1, 6, .inr (.inl (fun i9 => lI (BA i9))))) :: (mdu, .inl (k4 1, 6, .inr (.inl (fun i9 => lI (DU i9))))) :: (ao, .inl (k4 1, 1, .inr (.inl (fun i9 => lI ((up O 0 (nw (7 + m))) i9))))) :: (xW k4 lo lnow lsl lcl lba ldu nsh nrk h1 r1 q1 h2 r2 q2 ta sa n p st cc bc pot gr bk (up (up nw (7 + m) a) (13 + m) b) bal due S1 S2 tx sg)) H locs := G
  refine z_istore E [(5, .int (iI (0))), (0, .ref bs), (1, .ref lo), (2, .ref mo), (3, .ref ao), (4, .int (iI (((i : Nat) : Int))))] dL_law_215 hl (by decide) rfl (fun ls hl => ?_)
  refine z_aload_n E hl 3 rfl dL_law_217 rfl ?_
  refine z_aload_n E hl 1 rfl dL_law_218 rfl ?_
  refine z_iload E hl 5 rfl dL_law_219 ?_
  refine z_iconst E dL_law_221 ?_
  refine z_iadd E dL_law_222 ?_
  refine z_sld E S9 G (i + 1) (by omega) (by omega) dL_law_223 ?_
  refine z_eq (y := ((m : Nat) : Int)) hx1 ?_
  refine z_aload_n E hl 1 rfl dL_law_224 rfl ?_
  refine z_iload E hl 5 rfl dL_law_225 ?_
  refine z_iconst E dL_law_227 ?_
  refine z_iadd E dL_law_228 ?_
  refine z_sld E S9 G (i + 2) (by omega) (by omega) dL_law_229 ?_
  refine z_eq (y := a) hx2 ?_
  refine z_aload_n E hl 1 rfl dL_law_230 rfl ?_
  refine z_iload E hl 5 rfl dL_law_231 ?_
  refine z_iconst E dL_law_233 ?_
  refine z_iadd E dL_law_234 ?_
  refine z_sld E S9 G (i + 3) (by omega) (by omega) dL_law_235 ?_
  refine z_eq (y := b) hx3 ?_
  refine z_callV E G hl.1 (c_X5_setMember l D k4 mo mnw mte mge mus mco mfl mba mdu th n p st cc bc pot gr bk btw bhd m a b NW (by omega) (by omega) (by omega) (by omega)) kV_L_95 ⟨rfl, rfl, Nat.le_of_ble_eq_true rfl, Nat.le_of_ble_eq_true rfl⟩ [0, 1] rfl (by decide) 0 5 rfl rfl rfl rfl rfl (Nat.le_of_ble_eq_true rfl) dL_law_236 ⟨by omega, by omega⟩ (fun v9 w9 H locs hq G => ?_)
  obtain ⟨rfl, rfl⟩ := hq
  refine W.eq (g2 := F0 mm 239 ls [.int (iI (NW (7 + m)))]) rfl ?_
  have G : zG D AA ss.heap ((mo, .inr (5, [.int (iI (0)), .int (iI (((n : Nat) : Int))), .ref mnw, .ref mte, .ref mge, .ref mus, .int (iI (((p : Nat) : Int))), .int (iI (((st : Nat) : Int))), .int (iI (cc)), .int (iI (bc)), .ref mco, .ref mfl, .ref mba, .ref mdu, .long (lI (pot)), .long (lI (gr)), .long (lI (bk)), .int (iI (btw)), .int (iI (bhd))])) :: (mnw, .inl (k4 0, 19, .inl (fun i9 => iI ((up (up NW (7 + m) a) (13 + m) b) i9)))) :: (mte, .inl (k4 0, 912, .inl (fun i9 => iI (TE i9)))) :: (mge, .inl (k4 0, 288, .inl (fun i9 => iI (GE i9)))) :: (mus, .inl (k4 0, 288, .inl (fun i9 => iI (US i9)))) :: (mco, .inl (k4 0, 48, .inl (fun i9 => iI (CO i9)))) :: (mfl, .inl (k4 0, 2304, .inl (fun i9 => iI (FL i9)))) :: (mba, .inl (k4 1, 6, .inr (.inl (fun i9 => lI (BA i9))))) :: (mdu, .inl (k4 1, 6, .inr (.inl (fun i9 => lI (DU i9))))) :: (ao, .inl (k4 1, 1, .inr (.inl (fun i9 => lI ((up O 0 (nw (7 + m))) i9))))) :: (xW k4 lo lnow lsl lcl lba ldu nsh nrk h1 r1 q1 h2 r2 q2 ta sa n p st cc bc pot gr bk (up (up nw (7 + m) a) (13 + m) b) bal due S1 S2 tx sg)) H locs := G
  refine z_istore E [(6, .int (iI (NW (7 + m)))), (5, .int (iI (0))), (0, .ref bs), (1, .ref lo), (2, .ref mo), (3, .ref ao), (4, .int (iI (((i : Nat) : Int))))] dL_law_239 hl (by decide) rfl (fun ls hl => ?_)
  refine z_aload_n E hl 4 rfl dL_law_241 rfl ?_
  refine z_callV E G hl.1 (c_X5_thrown l D k4 mo mnw mte mge mus mco mfl mba mdu 0 n p st cc bc pot gr bk btw bhd ) kV_L_89 ⟨rfl, rfl, Nat.le_of_ble_eq_true rfl, Nat.le_of_ble_eq_true rfl⟩ [0] rfl (by decide) 0 5 rfl rfl rfl rfl rfl (Nat.le_of_ble_eq_true rfl) dL_law_242 ⟨by omega, by omega⟩ (fun v9 w9 H locs hq G => ?_)
  obtain ⟨rfl, rfl⟩ := hq
  refine W.eq (g2 := F0 mm 245 ls [.int (iI (0))]) rfl ?_
  have G : zG D AA ss.heap ((mo, .inr (5, [.int (iI (0)), .int (iI (((n : Nat) : Int))), .ref mnw, .ref mte, .ref mge, .ref mus, .int (iI (((p : Nat) : Int))), .int (iI (((st : Nat) : Int))), .int (iI (cc)), .int (iI (bc)), .ref mco, .ref mfl, .ref mba, .ref mdu, .long (lI (pot)), .long (lI (gr)), .long (lI (bk)), .int (iI (btw)), .int (iI (bhd))])) :: (mnw, .inl (k4 0, 19, .inl (fun i9 => iI ((up (up NW (7 + m) a) (13 + m) b) i9)))) :: (mte, .inl (k4 0, 912, .inl (fun i9 => iI (TE i9)))) :: (mge, .inl (k4 0, 288, .inl (fun i9 => iI (GE i9)))) :: (mus, .inl (k4 0, 288, .inl (fun i9 => iI (US i9)))) :: (mco, .inl (k4 0, 48, .inl (fun i9 => iI (CO i9)))) :: (mfl, .inl (k4 0, 2304, .inl (fun i9 => iI (FL i9)))) :: (mba, .inl (k4 1, 6, .inr (.inl (fun i9 => lI (BA i9))))) :: (mdu, .inl (k4 1, 6, .inr (.inl (fun i9 => lI (DU i9))))) :: (ao, .inl (k4 1, 1, .inr (.inl (fun i9 => lI ((up O 0 (nw (7 + m))) i9))))) :: (xW k4 lo lnow lsl lcl lba ldu nsh nrk h1 r1 q1 h2 r2 q2 ta sa n p st cc bc pot gr bk (up (up nw (7 + m) a) (13 + m) b) bal due S1 S2 tx sg)) H locs := G
  refine z_iload E hl 1 rfl dL_law_245 ?_
  refine z_icmp_eq (tgt := 252) E dL_law_247 (by decide) (by decide) (by decide) (fun c_247 => ?_) (fun c_247 => absurd c_247 (by decide))
  refine z_iload E hl 1 rfl dL_law_252 ?_
  refine z_if_ne (tgt := 269) E dL_law_254 (by decide) (by decide) (fun c_254 => absurd c_254 (by decide)) (fun c_254 => ?_)
  refine z_aload_n E hl 5 rfl dL_law_257 rfl ?_
  refine z_iconst E dL_law_258 ?_
  refine z_lald E G 9 rfl (0) rfl (by decide) (by decide) dL_law_259 ?_
  refine z_eql (y := NW (7 + m)) (up_s.trans hans) ?_
  refine z_iload E hl 0 rfl dL_law_260 ?_
  refine z_i2l E dL_law_262 hrb ?_
  refine z_lcmp E dL_law_263 ?_
  refine z_if_eq (tgt := 269) E dL_law_264 (by decide) (lcI_rng _ _) (fun c_264 => ?_) (fun c_264 => absurd c_264 (by rw [lcI_self]; decide))
  refine z_goto (tgt := 1502) E dL_law_269 (by decide) ?_
  refine W.cs (cells' := cl9 + ((0) + (0))) (slots' := sl9 + ((0) + (0))) (by omega) (by omega) ?_
  exact kk _ _ _ G (lv_sub hl [2, 3, 4, 5, 6] rfl)

set_option maxHeartbeats 4000000 in
set_option maxRecDepth 100000 in
theorem s_setMember_0 {pp : Program} {l : Launch} {ee : Env} {ss : State} {mm : MethodId} {bl : List Frame} {me : Method} {co : Code} {AA : Nat → Prop} {H : Heap} {locs : List Loc} {ls : Array Slot} {Q9 : State → Prop} {D : va_G} {k4 : Nat → ClassId} {bs Ls : Nat} {xs : Nat → Int32} {cl9 sl9 : Nat} (hl9 : l.stackTraces = false) (E : zE pp mm co cL_law 9 ss #[Value.ref bs] RL D k4) (X : zEL ss AA) (S9 : zSc bs Ls xs ss AA) (i : Nat) (hi5 : i + 4 < Ls) (lo lnow lsl lcl lba ldu nsh nrk h1 r1 q1 h2 r2 q2 : Nat) (ta : Nat → Nat) (sa : Nat → Nat → Nat) (n p st : Nat) (cc bc pot gr bk : Int) (nw bal due : Nat → Int) (S1 S2 : sS) (tx : Nat → Nat → Int) (sg : Nat → Nat → Nat → Int) (m : Int) (a : Int) (b : Int) (mo mnw mte mge mus mco mfl mba mdu : Nat) (th btw bhd : Int) (NW TE GE US CO FL BA DU : Nat → Int) (ao : Nat) (O : Nat → Int) (hX : xOK n p st bc nw S1 S2 tx sg) (hm : -2147483648 ≤ m ∧ m ≤ 2147483647 ∧ (m < 0 ∨ (n : Int) ≤ m)) (hn9 : n ≤ 6) (hp9 : p ≤ 48) (hs9 : st ≤ 48) (hcc : rng cc) (hb9 : 0 ≤ bc ∧ bc ≤ 20000) (hx1 : (xs (i + 1)).toInt = m) (hx2 : (xs (i + 2)).toInt = a) (hx3 : (xs (i + 3)).toInt = b) (hc9 : cl9 + ((1) + (0)) ≤ room_1.cells) (hs99 : sl9 + ((6) + (0)) ≤ room_1.slots) (G : zG D AA ss.heap ((mo, .inr (5, [.int (iI (th)), .int (iI (((n : Nat) : Int))), .ref mnw, .ref mte, .ref mge, .ref mus, .int (iI (((p : Nat) : Int))), .int (iI (((st : Nat) : Int))), .int (iI (cc)), .int (iI (bc)), .ref mco, .ref mfl, .ref mba, .ref mdu, .long (lI (pot)), .long (lI (gr)), .long (lI (bk)), .int (iI (btw)), .int (iI (bhd))])) :: (mnw, .inl (k4 0, 19, .inl (fun i9 => iI (NW i9)))) :: (mte, .inl (k4 0, 912, .inl (fun i9 => iI (TE i9)))) :: (mge, .inl (k4 0, 288, .inl (fun i9 => iI (GE i9)))) :: (mus, .inl (k4 0, 288, .inl (fun i9 => iI (US i9)))) :: (mco, .inl (k4 0, 48, .inl (fun i9 => iI (CO i9)))) :: (mfl, .inl (k4 0, 2304, .inl (fun i9 => iI (FL i9)))) :: (mba, .inl (k4 1, 6, .inr (.inl (fun i9 => lI (BA i9))))) :: (mdu, .inl (k4 1, 6, .inr (.inl (fun i9 => lI (DU i9))))) :: (ao, .inl (k4 1, 1, .inr (.inl (fun i9 => lI (O i9))))) :: (xW k4 lo lnow lsl lcl lba ldu nsh nrk h1 r1 q1 h2 r2 q2 ta sa n p st cc bc pot gr bk nw bal due S1 S2 tx sg)) H locs) (hl : lv_has ls 9 [(0, .ref bs), (1, .ref lo), (2, .ref mo), (3, .ref ao), (4, .int (iI (((i : Nat) : Int))))]) (kk : ∀ (H : Heap) (locs : List Loc) (ls : Array Slot), zG D AA ss.heap ((mo, .inr (5, [.int (iI (1)), .int (iI (((n : Nat) : Int))), .ref mnw, .ref mte, .ref mge, .ref mus, .int (iI (((p : Nat) : Int))), .int (iI (((st : Nat) : Int))), .int (iI (cc)), .int (iI (bc)), .ref mco, .ref mfl, .ref mba, .ref mdu, .long (lI (pot)), .long (lI (gr)), .long (lI (bk)), .int (iI (btw)), .int (iI (bhd))])) :: (mnw, .inl (k4 0, 19, .inl (fun i9 => iI (NW i9)))) :: (mte, .inl (k4 0, 912, .inl (fun i9 => iI (TE i9)))) :: (mge, .inl (k4 0, 288, .inl (fun i9 => iI (GE i9)))) :: (mus, .inl (k4 0, 288, .inl (fun i9 => iI (US i9)))) :: (mco, .inl (k4 0, 48, .inl (fun i9 => iI (CO i9)))) :: (mfl, .inl (k4 0, 2304, .inl (fun i9 => iI (FL i9)))) :: (mba, .inl (k4 1, 6, .inr (.inl (fun i9 => lI (BA i9))))) :: (mdu, .inl (k4 1, 6, .inr (.inl (fun i9 => lI (DU i9))))) :: (ao, .inl (k4 1, 1, .inr (.inl (fun i9 => lI (O i9))))) :: (xW k4 lo lnow lsl lcl lba ldu nsh nrk h1 r1 q1 h2 r2 q2 ta sa n p st cc bc pot gr bk nw bal due S1 S2 tx sg)) H locs → lv_has ls 9 [(0, .ref bs), (1, .ref lo), (2, .ref mo), (3, .ref ao), (4, .int (iI (((i : Nat) : Int))))] → W pp l ee room_1 ss mm #[Value.ref bs] bl me co H locs (cl9 + ((1) + (0))) (sl9 + ((6) + (0))) Q9 (F0 mm 1502 ls [])) : W pp l ee room_1 ss mm #[Value.ref bs] bl me co H locs (cl9) (sl9) Q9 (F0 mm 192 ls []) := by
  refine z_aload_n E hl 1 rfl dL_law_192 rfl ?_
  refine z_aload_n E hl 0 rfl dL_law_193 rfl ?_
  refine z_iload E hl 4 rfl dL_law_194 ?_
  refine z_iconst E dL_law_196 ?_
  refine z_iadd E dL_law_197 ?_
  refine z_sld E S9 G (i + 1) (by omega) (by omega) dL_law_198 ?_
  refine z_eq (y := m) hx1 ?_
  refine z_aload_n E hl 0 rfl dL_law_199 rfl ?_
  refine z_iload E hl 4 rfl dL_law_200 ?_
  refine z_iconst E dL_law_202 ?_
  refine z_iadd E dL_law_203 ?_
  refine z_sld E S9 G (i + 2) (by omega) (by omega) dL_law_204 ?_
  refine z_eq (y := a) hx2 ?_
  refine z_aload_n E hl 0 rfl dL_law_205 rfl ?_
  refine z_iload E hl 4 rfl dL_law_206 ?_
  refine z_iconst E dL_law_208 ?_
  refine z_iadd E dL_law_209 ?_
  refine z_sld E S9 G (i + 3) (by omega) (by omega) dL_law_210 ?_
  refine z_eq (y := b) hx3 ?_
  refine z_aload_n E hl 3 rfl dL_law_211 rfl ?_
  refine z_callL (n := 5) (pre := [(mo, .inr (5, [.int (iI (th)), .int (iI (((n : Nat) : Int))), .ref mnw, .ref mte, .ref mge, .ref mus, .int (iI (((p : Nat) : Int))), .int (iI (((st : Nat) : Int))), .int (iI (cc)), .int (iI (bc)), .ref mco, .ref mfl, .ref mba, .ref mdu, .long (lI (pot)), .long (lI (gr)), .long (lI (bk)), .int (iI (btw)), .int (iI (bhd))])), (mnw, .inl (k4 0, 19, .inl (fun i9 => iI (NW i9)))), (mte, .inl (k4 0, 912, .inl (fun i9 => iI (TE i9)))), (mge, .inl (k4 0, 288, .inl (fun i9 => iI (GE i9)))), (mus, .inl (k4 0, 288, .inl (fun i9 => iI (US i9)))), (mco, .inl (k4 0, 48, .inl (fun i9 => iI (CO i9)))), (mfl, .inl (k4 0, 2304, .inl (fun i9 => iI (FL i9)))), (mba, .inl (k4 1, 6, .inr (.inl (fun i9 => lI (BA i9))))), (mdu, .inl (k4 1, 6, .inr (.inl (fun i9 => lI (DU i9)))))]) E X G hl.1 (w_setMember_0 l hl9 D k4 lo lnow lsl lcl lba ldu nsh nrk h1 r1 q1 h2 r2 q2 ta sa n p st cc bc pot gr bk nw bal due S1 S2 tx sg m a b ao O hX hm) zw_105 zw_106 zw_74 zw_107 (by decide +kernel) (by decide +kernel) ⟨rfl, rfl, Nat.le_of_ble_eq_true rfl, Nat.le_of_ble_eq_true rfl⟩ rfl rfl (Nat.le_of_ble_eq_true rfl) dL_law_212 ⟨by omega, by omega⟩ (fun v9 w9 H locs hq G => ?_)
  obtain ⟨rfl, rfl⟩ := hq
  refine W.eq (g2 := F0 mm 215 ls [.int (iI (1))]) rfl ?_
  have G : zG D AA ss.heap ((mo, .inr (5, [.int (iI (th)), .int (iI (((n : Nat) : Int))), .ref mnw, .ref mte, .ref mge, .ref mus, .int (iI (((p : Nat) : Int))), .int (iI (((st : Nat) : Int))), .int (iI (cc)), .int (iI (bc)), .ref mco, .ref mfl, .ref mba, .ref mdu, .long (lI (pot)), .long (lI (gr)), .long (lI (bk)), .int (iI (btw)), .int (iI (bhd))])) :: (mnw, .inl (k4 0, 19, .inl (fun i9 => iI (NW i9)))) :: (mte, .inl (k4 0, 912, .inl (fun i9 => iI (TE i9)))) :: (mge, .inl (k4 0, 288, .inl (fun i9 => iI (GE i9)))) :: (mus, .inl (k4 0, 288, .inl (fun i9 => iI (US i9)))) :: (mco, .inl (k4 0, 48, .inl (fun i9 => iI (CO i9)))) :: (mfl, .inl (k4 0, 2304, .inl (fun i9 => iI (FL i9)))) :: (mba, .inl (k4 1, 6, .inr (.inl (fun i9 => lI (BA i9))))) :: (mdu, .inl (k4 1, 6, .inr (.inl (fun i9 => lI (DU i9))))) :: (ao, .inl (k4 1, 1, .inr (.inl (fun i9 => lI (O i9))))) :: (xW k4 lo lnow lsl lcl lba ldu nsh nrk h1 r1 q1 h2 r2 q2 ta sa n p st cc bc pot gr bk nw bal due S1 S2 tx sg)) H locs := G
  refine z_istore E [(5, .int (iI (1))), (0, .ref bs), (1, .ref lo), (2, .ref mo), (3, .ref ao), (4, .int (iI (((i : Nat) : Int))))] dL_law_215 hl (by decide) rfl (fun ls hl => ?_)
  refine z_aload_n E hl 3 rfl dL_law_217 rfl ?_
  refine z_aload_n E hl 1 rfl dL_law_218 rfl ?_
  refine z_iload E hl 5 rfl dL_law_219 ?_
  refine z_iconst E dL_law_221 ?_
  refine z_iadd E dL_law_222 ?_
  refine z_sld E S9 G (i + 1) (by omega) (by omega) dL_law_223 ?_
  refine z_eq (y := m) hx1 ?_
  refine z_aload_n E hl 1 rfl dL_law_224 rfl ?_
  refine z_iload E hl 5 rfl dL_law_225 ?_
  refine z_iconst E dL_law_227 ?_
  refine z_iadd E dL_law_228 ?_
  refine z_sld E S9 G (i + 2) (by omega) (by omega) dL_law_229 ?_
  refine z_eq (y := a) hx2 ?_
  refine z_aload_n E hl 1 rfl dL_law_230 rfl ?_
  refine z_iload E hl 5 rfl dL_law_231 ?_
  refine z_iconst E dL_law_233 ?_
  refine z_iadd E dL_law_234 ?_
  refine z_sld E S9 G (i + 3) (by omega) (by omega) dL_law_235 ?_
  refine z_eq (y := b) hx3 ?_
  refine z_callV E G hl.1 (c_X5_setMember_0 l D k4 mo mnw mte mge mus mco mfl mba mdu th n p st cc bc pot gr bk btw bhd m a b (by omega) (by omega)) kV_L_95 ⟨rfl, rfl, Nat.le_of_ble_eq_true rfl, Nat.le_of_ble_eq_true rfl⟩ [0] rfl (by decide) 0 5 rfl rfl rfl rfl rfl (Nat.le_of_ble_eq_true rfl) dL_law_236 ⟨by omega, by omega⟩ (fun v9 w9 H locs hq G => ?_)
  obtain ⟨rfl, rfl⟩ := hq
  refine W.eq (g2 := F0 mm 239 ls [.int (iI (0))]) rfl ?_
  have G : zG D AA ss.heap ((mo, .inr (5, [.int (iI (1)), .int (iI (((n : Nat) : Int))), .ref mnw, .ref mte, .ref mge, .ref mus, .int (iI (((p : Nat) : Int))), .int (iI (((st : Nat) : Int))), .int (iI (cc)), .int (iI (bc)), .ref mco, .ref mfl, .ref mba, .ref mdu, .long (lI (pot)), .long (lI (gr)), .long (lI (bk)), .int (iI (btw)), .int (iI (bhd))])) :: (mnw, .inl (k4 0, 19, .inl (fun i9 => iI (NW i9)))) :: (mte, .inl (k4 0, 912, .inl (fun i9 => iI (TE i9)))) :: (mge, .inl (k4 0, 288, .inl (fun i9 => iI (GE i9)))) :: (mus, .inl (k4 0, 288, .inl (fun i9 => iI (US i9)))) :: (mco, .inl (k4 0, 48, .inl (fun i9 => iI (CO i9)))) :: (mfl, .inl (k4 0, 2304, .inl (fun i9 => iI (FL i9)))) :: (mba, .inl (k4 1, 6, .inr (.inl (fun i9 => lI (BA i9))))) :: (mdu, .inl (k4 1, 6, .inr (.inl (fun i9 => lI (DU i9))))) :: (ao, .inl (k4 1, 1, .inr (.inl (fun i9 => lI (O i9))))) :: (xW k4 lo lnow lsl lcl lba ldu nsh nrk h1 r1 q1 h2 r2 q2 ta sa n p st cc bc pot gr bk nw bal due S1 S2 tx sg)) H locs := G
  refine z_istore E [(6, .int (iI (0))), (5, .int (iI (1))), (0, .ref bs), (1, .ref lo), (2, .ref mo), (3, .ref ao), (4, .int (iI (((i : Nat) : Int))))] dL_law_239 hl (by decide) rfl (fun ls hl => ?_)
  refine z_aload_n E hl 4 rfl dL_law_241 rfl ?_
  refine z_callV E G hl.1 (c_X5_thrown l D k4 mo mnw mte mge mus mco mfl mba mdu 1 n p st cc bc pot gr bk btw bhd ) kV_L_89 ⟨rfl, rfl, Nat.le_of_ble_eq_true rfl, Nat.le_of_ble_eq_true rfl⟩ [0] rfl (by decide) 0 5 rfl rfl rfl rfl rfl (Nat.le_of_ble_eq_true rfl) dL_law_242 ⟨by omega, by omega⟩ (fun v9 w9 H locs hq G => ?_)
  obtain ⟨rfl, rfl⟩ := hq
  refine W.eq (g2 := F0 mm 245 ls [.int (iI (1))]) rfl ?_
  have G : zG D AA ss.heap ((mo, .inr (5, [.int (iI (1)), .int (iI (((n : Nat) : Int))), .ref mnw, .ref mte, .ref mge, .ref mus, .int (iI (((p : Nat) : Int))), .int (iI (((st : Nat) : Int))), .int (iI (cc)), .int (iI (bc)), .ref mco, .ref mfl, .ref mba, .ref mdu, .long (lI (pot)), .long (lI (gr)), .long (lI (bk)), .int (iI (btw)), .int (iI (bhd))])) :: (mnw, .inl (k4 0, 19, .inl (fun i9 => iI (NW i9)))) :: (mte, .inl (k4 0, 912, .inl (fun i9 => iI (TE i9)))) :: (mge, .inl (k4 0, 288, .inl (fun i9 => iI (GE i9)))) :: (mus, .inl (k4 0, 288, .inl (fun i9 => iI (US i9)))) :: (mco, .inl (k4 0, 48, .inl (fun i9 => iI (CO i9)))) :: (mfl, .inl (k4 0, 2304, .inl (fun i9 => iI (FL i9)))) :: (mba, .inl (k4 1, 6, .inr (.inl (fun i9 => lI (BA i9))))) :: (mdu, .inl (k4 1, 6, .inr (.inl (fun i9 => lI (DU i9))))) :: (ao, .inl (k4 1, 1, .inr (.inl (fun i9 => lI (O i9))))) :: (xW k4 lo lnow lsl lcl lba ldu nsh nrk h1 r1 q1 h2 r2 q2 ta sa n p st cc bc pot gr bk nw bal due S1 S2 tx sg)) H locs := G
  refine z_iload E hl 1 rfl dL_law_245 ?_
  refine z_icmp_eq (tgt := 252) E dL_law_247 (by decide) (by decide) (by decide) (fun c_247 => ?_) (fun c_247 => absurd c_247 (by decide))
  refine z_iload E hl 1 rfl dL_law_252 ?_
  refine z_if_ne (tgt := 269) E dL_law_254 (by decide) (by decide) (fun c_254 => ?_) (fun c_254 => absurd c_254 (by decide))
  refine z_goto (tgt := 1502) E dL_law_269 (by decide) ?_
  refine W.cs (cells' := cl9 + ((1) + (0))) (slots' := sl9 + ((6) + (0))) (by omega) (by omega) ?_
  exact kk _ _ _ G (lv_sub hl [2, 3, 4, 5, 6] rfl)

set_option maxHeartbeats 4000000 in
set_option maxRecDepth 100000 in
theorem s_setMember_1 {pp : Program} {l : Launch} {ee : Env} {ss : State} {mm : MethodId} {bl : List Frame} {me : Method} {co : Code} {AA : Nat → Prop} {H : Heap} {locs : List Loc} {ls : Array Slot} {Q9 : State → Prop} {D : va_G} {k4 : Nat → ClassId} {bs Ls : Nat} {xs : Nat → Int32} {cl9 sl9 : Nat} (hl9 : l.stackTraces = false) (E : zE pp mm co cL_law 9 ss #[Value.ref bs] RL D k4) (X : zEL ss AA) (S9 : zSc bs Ls xs ss AA) (i : Nat) (hi5 : i + 4 < Ls) (lo lnow lsl lcl lba ldu nsh nrk h1 r1 q1 h2 r2 q2 : Nat) (ta : Nat → Nat) (sa : Nat → Nat → Nat) (n p st : Nat) (cc bc pot gr bk : Int) (nw bal due : Nat → Int) (S1 S2 : sS) (tx : Nat → Nat → Int) (sg : Nat → Nat → Nat → Int) (m : Nat) (a : Int) (b : Int) (mo mnw mte mge mus mco mfl mba mdu : Nat) (th btw bhd : Int) (NW TE GE US CO FL BA DU : Nat → Int) (ao : Nat) (O : Nat → Int) (hX : xOK n p st bc nw S1 S2 tx sg) (hm : m < n) (ha : -2147483648 ≤ a ∧ a ≤ 2147483647 ∧ (a < 0 ∨ 100 < a)) (hn9 : n ≤ 6) (hp9 : p ≤ 48) (hs9 : st ≤ 48) (hcc : rng cc) (hb9 : 0 ≤ bc ∧ bc ≤ 20000) (hx1 : (xs (i + 1)).toInt = ((m : Nat) : Int)) (hx2 : (xs (i + 2)).toInt = a) (hx3 : (xs (i + 3)).toInt = b) (hc9 : cl9 + ((1) + (0)) ≤ room_1.cells) (hs99 : sl9 + ((6) + (0)) ≤ room_1.slots) (G : zG D AA ss.heap ((mo, .inr (5, [.int (iI (th)), .int (iI (((n : Nat) : Int))), .ref mnw, .ref mte, .ref mge, .ref mus, .int (iI (((p : Nat) : Int))), .int (iI (((st : Nat) : Int))), .int (iI (cc)), .int (iI (bc)), .ref mco, .ref mfl, .ref mba, .ref mdu, .long (lI (pot)), .long (lI (gr)), .long (lI (bk)), .int (iI (btw)), .int (iI (bhd))])) :: (mnw, .inl (k4 0, 19, .inl (fun i9 => iI (NW i9)))) :: (mte, .inl (k4 0, 912, .inl (fun i9 => iI (TE i9)))) :: (mge, .inl (k4 0, 288, .inl (fun i9 => iI (GE i9)))) :: (mus, .inl (k4 0, 288, .inl (fun i9 => iI (US i9)))) :: (mco, .inl (k4 0, 48, .inl (fun i9 => iI (CO i9)))) :: (mfl, .inl (k4 0, 2304, .inl (fun i9 => iI (FL i9)))) :: (mba, .inl (k4 1, 6, .inr (.inl (fun i9 => lI (BA i9))))) :: (mdu, .inl (k4 1, 6, .inr (.inl (fun i9 => lI (DU i9))))) :: (ao, .inl (k4 1, 1, .inr (.inl (fun i9 => lI (O i9))))) :: (xW k4 lo lnow lsl lcl lba ldu nsh nrk h1 r1 q1 h2 r2 q2 ta sa n p st cc bc pot gr bk nw bal due S1 S2 tx sg)) H locs) (hl : lv_has ls 9 [(0, .ref bs), (1, .ref lo), (2, .ref mo), (3, .ref ao), (4, .int (iI (((i : Nat) : Int))))]) (kk : ∀ (H : Heap) (locs : List Loc) (ls : Array Slot), zG D AA ss.heap ((mo, .inr (5, [.int (iI (2)), .int (iI (((n : Nat) : Int))), .ref mnw, .ref mte, .ref mge, .ref mus, .int (iI (((p : Nat) : Int))), .int (iI (((st : Nat) : Int))), .int (iI (cc)), .int (iI (bc)), .ref mco, .ref mfl, .ref mba, .ref mdu, .long (lI (pot)), .long (lI (gr)), .long (lI (bk)), .int (iI (btw)), .int (iI (bhd))])) :: (mnw, .inl (k4 0, 19, .inl (fun i9 => iI (NW i9)))) :: (mte, .inl (k4 0, 912, .inl (fun i9 => iI (TE i9)))) :: (mge, .inl (k4 0, 288, .inl (fun i9 => iI (GE i9)))) :: (mus, .inl (k4 0, 288, .inl (fun i9 => iI (US i9)))) :: (mco, .inl (k4 0, 48, .inl (fun i9 => iI (CO i9)))) :: (mfl, .inl (k4 0, 2304, .inl (fun i9 => iI (FL i9)))) :: (mba, .inl (k4 1, 6, .inr (.inl (fun i9 => lI (BA i9))))) :: (mdu, .inl (k4 1, 6, .inr (.inl (fun i9 => lI (DU i9))))) :: (ao, .inl (k4 1, 1, .inr (.inl (fun i9 => lI (O i9))))) :: (xW k4 lo lnow lsl lcl lba ldu nsh nrk h1 r1 q1 h2 r2 q2 ta sa n p st cc bc pot gr bk nw bal due S1 S2 tx sg)) H locs → lv_has ls 9 [(0, .ref bs), (1, .ref lo), (2, .ref mo), (3, .ref ao), (4, .int (iI (((i : Nat) : Int))))] → W pp l ee room_1 ss mm #[Value.ref bs] bl me co H locs (cl9 + ((1) + (0))) (sl9 + ((6) + (0))) Q9 (F0 mm 1502 ls [])) : W pp l ee room_1 ss mm #[Value.ref bs] bl me co H locs (cl9) (sl9) Q9 (F0 mm 192 ls []) := by
  refine z_aload_n E hl 1 rfl dL_law_192 rfl ?_
  refine z_aload_n E hl 0 rfl dL_law_193 rfl ?_
  refine z_iload E hl 4 rfl dL_law_194 ?_
  refine z_iconst E dL_law_196 ?_
  refine z_iadd E dL_law_197 ?_
  refine z_sld E S9 G (i + 1) (by omega) (by omega) dL_law_198 ?_
  refine z_eq (y := ((m : Nat) : Int)) hx1 ?_
  refine z_aload_n E hl 0 rfl dL_law_199 rfl ?_
  refine z_iload E hl 4 rfl dL_law_200 ?_
  refine z_iconst E dL_law_202 ?_
  refine z_iadd E dL_law_203 ?_
  refine z_sld E S9 G (i + 2) (by omega) (by omega) dL_law_204 ?_
  refine z_eq (y := a) hx2 ?_
  refine z_aload_n E hl 0 rfl dL_law_205 rfl ?_
  refine z_iload E hl 4 rfl dL_law_206 ?_
  refine z_iconst E dL_law_208 ?_
  refine z_iadd E dL_law_209 ?_
  refine z_sld E S9 G (i + 3) (by omega) (by omega) dL_law_210 ?_
  refine z_eq (y := b) hx3 ?_
  refine z_aload_n E hl 3 rfl dL_law_211 rfl ?_
  refine z_callL (n := 5) (pre := [(mo, .inr (5, [.int (iI (th)), .int (iI (((n : Nat) : Int))), .ref mnw, .ref mte, .ref mge, .ref mus, .int (iI (((p : Nat) : Int))), .int (iI (((st : Nat) : Int))), .int (iI (cc)), .int (iI (bc)), .ref mco, .ref mfl, .ref mba, .ref mdu, .long (lI (pot)), .long (lI (gr)), .long (lI (bk)), .int (iI (btw)), .int (iI (bhd))])), (mnw, .inl (k4 0, 19, .inl (fun i9 => iI (NW i9)))), (mte, .inl (k4 0, 912, .inl (fun i9 => iI (TE i9)))), (mge, .inl (k4 0, 288, .inl (fun i9 => iI (GE i9)))), (mus, .inl (k4 0, 288, .inl (fun i9 => iI (US i9)))), (mco, .inl (k4 0, 48, .inl (fun i9 => iI (CO i9)))), (mfl, .inl (k4 0, 2304, .inl (fun i9 => iI (FL i9)))), (mba, .inl (k4 1, 6, .inr (.inl (fun i9 => lI (BA i9))))), (mdu, .inl (k4 1, 6, .inr (.inl (fun i9 => lI (DU i9)))))]) E X G hl.1 (w_setMember_1 l hl9 D k4 lo lnow lsl lcl lba ldu nsh nrk h1 r1 q1 h2 r2 q2 ta sa n p st cc bc pot gr bk nw bal due S1 S2 tx sg m a b ao O hX hm ha) zw_105 zw_106 zw_74 zw_107 (by decide +kernel) (by decide +kernel) ⟨rfl, rfl, Nat.le_of_ble_eq_true rfl, Nat.le_of_ble_eq_true rfl⟩ rfl rfl (Nat.le_of_ble_eq_true rfl) dL_law_212 ⟨by omega, by omega⟩ (fun v9 w9 H locs hq G => ?_)
  obtain ⟨rfl, rfl⟩ := hq
  refine W.eq (g2 := F0 mm 215 ls [.int (iI (2))]) rfl ?_
  have G : zG D AA ss.heap ((mo, .inr (5, [.int (iI (th)), .int (iI (((n : Nat) : Int))), .ref mnw, .ref mte, .ref mge, .ref mus, .int (iI (((p : Nat) : Int))), .int (iI (((st : Nat) : Int))), .int (iI (cc)), .int (iI (bc)), .ref mco, .ref mfl, .ref mba, .ref mdu, .long (lI (pot)), .long (lI (gr)), .long (lI (bk)), .int (iI (btw)), .int (iI (bhd))])) :: (mnw, .inl (k4 0, 19, .inl (fun i9 => iI (NW i9)))) :: (mte, .inl (k4 0, 912, .inl (fun i9 => iI (TE i9)))) :: (mge, .inl (k4 0, 288, .inl (fun i9 => iI (GE i9)))) :: (mus, .inl (k4 0, 288, .inl (fun i9 => iI (US i9)))) :: (mco, .inl (k4 0, 48, .inl (fun i9 => iI (CO i9)))) :: (mfl, .inl (k4 0, 2304, .inl (fun i9 => iI (FL i9)))) :: (mba, .inl (k4 1, 6, .inr (.inl (fun i9 => lI (BA i9))))) :: (mdu, .inl (k4 1, 6, .inr (.inl (fun i9 => lI (DU i9))))) :: (ao, .inl (k4 1, 1, .inr (.inl (fun i9 => lI (O i9))))) :: (xW k4 lo lnow lsl lcl lba ldu nsh nrk h1 r1 q1 h2 r2 q2 ta sa n p st cc bc pot gr bk nw bal due S1 S2 tx sg)) H locs := G
  refine z_istore E [(5, .int (iI (2))), (0, .ref bs), (1, .ref lo), (2, .ref mo), (3, .ref ao), (4, .int (iI (((i : Nat) : Int))))] dL_law_215 hl (by decide) rfl (fun ls hl => ?_)
  refine z_aload_n E hl 3 rfl dL_law_217 rfl ?_
  refine z_aload_n E hl 1 rfl dL_law_218 rfl ?_
  refine z_iload E hl 5 rfl dL_law_219 ?_
  refine z_iconst E dL_law_221 ?_
  refine z_iadd E dL_law_222 ?_
  refine z_sld E S9 G (i + 1) (by omega) (by omega) dL_law_223 ?_
  refine z_eq (y := ((m : Nat) : Int)) hx1 ?_
  refine z_aload_n E hl 1 rfl dL_law_224 rfl ?_
  refine z_iload E hl 5 rfl dL_law_225 ?_
  refine z_iconst E dL_law_227 ?_
  refine z_iadd E dL_law_228 ?_
  refine z_sld E S9 G (i + 2) (by omega) (by omega) dL_law_229 ?_
  refine z_eq (y := a) hx2 ?_
  refine z_aload_n E hl 1 rfl dL_law_230 rfl ?_
  refine z_iload E hl 5 rfl dL_law_231 ?_
  refine z_iconst E dL_law_233 ?_
  refine z_iadd E dL_law_234 ?_
  refine z_sld E S9 G (i + 3) (by omega) (by omega) dL_law_235 ?_
  refine z_eq (y := b) hx3 ?_
  refine z_callV E G hl.1 (c_X5_setMember_1 l D k4 mo mnw mte mge mus mco mfl mba mdu th n p st cc bc pot gr bk btw bhd m a b (by omega) (by omega) (by omega)) kV_L_95 ⟨rfl, rfl, Nat.le_of_ble_eq_true rfl, Nat.le_of_ble_eq_true rfl⟩ [0] rfl (by decide) 0 5 rfl rfl rfl rfl rfl (Nat.le_of_ble_eq_true rfl) dL_law_236 ⟨by omega, by omega⟩ (fun v9 w9 H locs hq G => ?_)
  obtain ⟨rfl, rfl⟩ := hq
  refine W.eq (g2 := F0 mm 239 ls [.int (iI (0))]) rfl ?_
  have G : zG D AA ss.heap ((mo, .inr (5, [.int (iI (2)), .int (iI (((n : Nat) : Int))), .ref mnw, .ref mte, .ref mge, .ref mus, .int (iI (((p : Nat) : Int))), .int (iI (((st : Nat) : Int))), .int (iI (cc)), .int (iI (bc)), .ref mco, .ref mfl, .ref mba, .ref mdu, .long (lI (pot)), .long (lI (gr)), .long (lI (bk)), .int (iI (btw)), .int (iI (bhd))])) :: (mnw, .inl (k4 0, 19, .inl (fun i9 => iI (NW i9)))) :: (mte, .inl (k4 0, 912, .inl (fun i9 => iI (TE i9)))) :: (mge, .inl (k4 0, 288, .inl (fun i9 => iI (GE i9)))) :: (mus, .inl (k4 0, 288, .inl (fun i9 => iI (US i9)))) :: (mco, .inl (k4 0, 48, .inl (fun i9 => iI (CO i9)))) :: (mfl, .inl (k4 0, 2304, .inl (fun i9 => iI (FL i9)))) :: (mba, .inl (k4 1, 6, .inr (.inl (fun i9 => lI (BA i9))))) :: (mdu, .inl (k4 1, 6, .inr (.inl (fun i9 => lI (DU i9))))) :: (ao, .inl (k4 1, 1, .inr (.inl (fun i9 => lI (O i9))))) :: (xW k4 lo lnow lsl lcl lba ldu nsh nrk h1 r1 q1 h2 r2 q2 ta sa n p st cc bc pot gr bk nw bal due S1 S2 tx sg)) H locs := G
  refine z_istore E [(6, .int (iI (0))), (5, .int (iI (2))), (0, .ref bs), (1, .ref lo), (2, .ref mo), (3, .ref ao), (4, .int (iI (((i : Nat) : Int))))] dL_law_239 hl (by decide) rfl (fun ls hl => ?_)
  refine z_aload_n E hl 4 rfl dL_law_241 rfl ?_
  refine z_callV E G hl.1 (c_X5_thrown l D k4 mo mnw mte mge mus mco mfl mba mdu 2 n p st cc bc pot gr bk btw bhd ) kV_L_89 ⟨rfl, rfl, Nat.le_of_ble_eq_true rfl, Nat.le_of_ble_eq_true rfl⟩ [0] rfl (by decide) 0 5 rfl rfl rfl rfl rfl (Nat.le_of_ble_eq_true rfl) dL_law_242 ⟨by omega, by omega⟩ (fun v9 w9 H locs hq G => ?_)
  obtain ⟨rfl, rfl⟩ := hq
  refine W.eq (g2 := F0 mm 245 ls [.int (iI (2))]) rfl ?_
  have G : zG D AA ss.heap ((mo, .inr (5, [.int (iI (2)), .int (iI (((n : Nat) : Int))), .ref mnw, .ref mte, .ref mge, .ref mus, .int (iI (((p : Nat) : Int))), .int (iI (((st : Nat) : Int))), .int (iI (cc)), .int (iI (bc)), .ref mco, .ref mfl, .ref mba, .ref mdu, .long (lI (pot)), .long (lI (gr)), .long (lI (bk)), .int (iI (btw)), .int (iI (bhd))])) :: (mnw, .inl (k4 0, 19, .inl (fun i9 => iI (NW i9)))) :: (mte, .inl (k4 0, 912, .inl (fun i9 => iI (TE i9)))) :: (mge, .inl (k4 0, 288, .inl (fun i9 => iI (GE i9)))) :: (mus, .inl (k4 0, 288, .inl (fun i9 => iI (US i9)))) :: (mco, .inl (k4 0, 48, .inl (fun i9 => iI (CO i9)))) :: (mfl, .inl (k4 0, 2304, .inl (fun i9 => iI (FL i9)))) :: (mba, .inl (k4 1, 6, .inr (.inl (fun i9 => lI (BA i9))))) :: (mdu, .inl (k4 1, 6, .inr (.inl (fun i9 => lI (DU i9))))) :: (ao, .inl (k4 1, 1, .inr (.inl (fun i9 => lI (O i9))))) :: (xW k4 lo lnow lsl lcl lba ldu nsh nrk h1 r1 q1 h2 r2 q2 ta sa n p st cc bc pot gr bk nw bal due S1 S2 tx sg)) H locs := G
  refine z_iload E hl 1 rfl dL_law_245 ?_
  refine z_icmp_eq (tgt := 252) E dL_law_247 (by decide) (by decide) (by decide) (fun c_247 => ?_) (fun c_247 => absurd c_247 (by decide))
  refine z_iload E hl 1 rfl dL_law_252 ?_
  refine z_if_ne (tgt := 269) E dL_law_254 (by decide) (by decide) (fun c_254 => ?_) (fun c_254 => absurd c_254 (by decide))
  refine z_goto (tgt := 1502) E dL_law_269 (by decide) ?_
  refine W.cs (cells' := cl9 + ((1) + (0))) (slots' := sl9 + ((6) + (0))) (by omega) (by omega) ?_
  exact kk _ _ _ G (lv_sub hl [2, 3, 4, 5, 6] rfl)

set_option maxHeartbeats 4000000 in
set_option maxRecDepth 100000 in
theorem s_setMember_2 {pp : Program} {l : Launch} {ee : Env} {ss : State} {mm : MethodId} {bl : List Frame} {me : Method} {co : Code} {AA : Nat → Prop} {H : Heap} {locs : List Loc} {ls : Array Slot} {Q9 : State → Prop} {D : va_G} {k4 : Nat → ClassId} {bs Ls : Nat} {xs : Nat → Int32} {cl9 sl9 : Nat} (hl9 : l.stackTraces = false) (E : zE pp mm co cL_law 9 ss #[Value.ref bs] RL D k4) (X : zEL ss AA) (S9 : zSc bs Ls xs ss AA) (i : Nat) (hi5 : i + 4 < Ls) (lo lnow lsl lcl lba ldu nsh nrk h1 r1 q1 h2 r2 q2 : Nat) (ta : Nat → Nat) (sa : Nat → Nat → Nat) (n p st : Nat) (cc bc pot gr bk : Int) (nw bal due : Nat → Int) (S1 S2 : sS) (tx : Nat → Nat → Int) (sg : Nat → Nat → Nat → Int) (m : Nat) (a : Int) (b : Int) (mo mnw mte mge mus mco mfl mba mdu : Nat) (th btw bhd : Int) (NW TE GE US CO FL BA DU : Nat → Int) (ao : Nat) (O : Nat → Int) (hX : xOK n p st bc nw S1 S2 tx sg) (hm : m < n) (ha : 0 ≤ a ∧ a ≤ 100) (hb : -2147483648 ≤ b ∧ b ≤ 2147483647 ∧ (b < 0 ∨ 99 < b)) (hn9 : n ≤ 6) (hp9 : p ≤ 48) (hs9 : st ≤ 48) (hcc : rng cc) (hb9 : 0 ≤ bc ∧ bc ≤ 20000) (hx1 : (xs (i + 1)).toInt = ((m : Nat) : Int)) (hx2 : (xs (i + 2)).toInt = a) (hx3 : (xs (i + 3)).toInt = b) (hc9 : cl9 + ((1) + (0)) ≤ room_1.cells) (hs99 : sl9 + ((6) + (0)) ≤ room_1.slots) (G : zG D AA ss.heap ((mo, .inr (5, [.int (iI (th)), .int (iI (((n : Nat) : Int))), .ref mnw, .ref mte, .ref mge, .ref mus, .int (iI (((p : Nat) : Int))), .int (iI (((st : Nat) : Int))), .int (iI (cc)), .int (iI (bc)), .ref mco, .ref mfl, .ref mba, .ref mdu, .long (lI (pot)), .long (lI (gr)), .long (lI (bk)), .int (iI (btw)), .int (iI (bhd))])) :: (mnw, .inl (k4 0, 19, .inl (fun i9 => iI (NW i9)))) :: (mte, .inl (k4 0, 912, .inl (fun i9 => iI (TE i9)))) :: (mge, .inl (k4 0, 288, .inl (fun i9 => iI (GE i9)))) :: (mus, .inl (k4 0, 288, .inl (fun i9 => iI (US i9)))) :: (mco, .inl (k4 0, 48, .inl (fun i9 => iI (CO i9)))) :: (mfl, .inl (k4 0, 2304, .inl (fun i9 => iI (FL i9)))) :: (mba, .inl (k4 1, 6, .inr (.inl (fun i9 => lI (BA i9))))) :: (mdu, .inl (k4 1, 6, .inr (.inl (fun i9 => lI (DU i9))))) :: (ao, .inl (k4 1, 1, .inr (.inl (fun i9 => lI (O i9))))) :: (xW k4 lo lnow lsl lcl lba ldu nsh nrk h1 r1 q1 h2 r2 q2 ta sa n p st cc bc pot gr bk nw bal due S1 S2 tx sg)) H locs) (hl : lv_has ls 9 [(0, .ref bs), (1, .ref lo), (2, .ref mo), (3, .ref ao), (4, .int (iI (((i : Nat) : Int))))]) (kk : ∀ (H : Heap) (locs : List Loc) (ls : Array Slot), zG D AA ss.heap ((mo, .inr (5, [.int (iI (2)), .int (iI (((n : Nat) : Int))), .ref mnw, .ref mte, .ref mge, .ref mus, .int (iI (((p : Nat) : Int))), .int (iI (((st : Nat) : Int))), .int (iI (cc)), .int (iI (bc)), .ref mco, .ref mfl, .ref mba, .ref mdu, .long (lI (pot)), .long (lI (gr)), .long (lI (bk)), .int (iI (btw)), .int (iI (bhd))])) :: (mnw, .inl (k4 0, 19, .inl (fun i9 => iI (NW i9)))) :: (mte, .inl (k4 0, 912, .inl (fun i9 => iI (TE i9)))) :: (mge, .inl (k4 0, 288, .inl (fun i9 => iI (GE i9)))) :: (mus, .inl (k4 0, 288, .inl (fun i9 => iI (US i9)))) :: (mco, .inl (k4 0, 48, .inl (fun i9 => iI (CO i9)))) :: (mfl, .inl (k4 0, 2304, .inl (fun i9 => iI (FL i9)))) :: (mba, .inl (k4 1, 6, .inr (.inl (fun i9 => lI (BA i9))))) :: (mdu, .inl (k4 1, 6, .inr (.inl (fun i9 => lI (DU i9))))) :: (ao, .inl (k4 1, 1, .inr (.inl (fun i9 => lI (O i9))))) :: (xW k4 lo lnow lsl lcl lba ldu nsh nrk h1 r1 q1 h2 r2 q2 ta sa n p st cc bc pot gr bk nw bal due S1 S2 tx sg)) H locs → lv_has ls 9 [(0, .ref bs), (1, .ref lo), (2, .ref mo), (3, .ref ao), (4, .int (iI (((i : Nat) : Int))))] → W pp l ee room_1 ss mm #[Value.ref bs] bl me co H locs (cl9 + ((1) + (0))) (sl9 + ((6) + (0))) Q9 (F0 mm 1502 ls [])) : W pp l ee room_1 ss mm #[Value.ref bs] bl me co H locs (cl9) (sl9) Q9 (F0 mm 192 ls []) := by
  refine z_aload_n E hl 1 rfl dL_law_192 rfl ?_
  refine z_aload_n E hl 0 rfl dL_law_193 rfl ?_
  refine z_iload E hl 4 rfl dL_law_194 ?_
  refine z_iconst E dL_law_196 ?_
  refine z_iadd E dL_law_197 ?_
  refine z_sld E S9 G (i + 1) (by omega) (by omega) dL_law_198 ?_
  refine z_eq (y := ((m : Nat) : Int)) hx1 ?_
  refine z_aload_n E hl 0 rfl dL_law_199 rfl ?_
  refine z_iload E hl 4 rfl dL_law_200 ?_
  refine z_iconst E dL_law_202 ?_
  refine z_iadd E dL_law_203 ?_
  refine z_sld E S9 G (i + 2) (by omega) (by omega) dL_law_204 ?_
  refine z_eq (y := a) hx2 ?_
  refine z_aload_n E hl 0 rfl dL_law_205 rfl ?_
  refine z_iload E hl 4 rfl dL_law_206 ?_
  refine z_iconst E dL_law_208 ?_
  refine z_iadd E dL_law_209 ?_
  refine z_sld E S9 G (i + 3) (by omega) (by omega) dL_law_210 ?_
  refine z_eq (y := b) hx3 ?_
  refine z_aload_n E hl 3 rfl dL_law_211 rfl ?_
  refine z_callL (n := 5) (pre := [(mo, .inr (5, [.int (iI (th)), .int (iI (((n : Nat) : Int))), .ref mnw, .ref mte, .ref mge, .ref mus, .int (iI (((p : Nat) : Int))), .int (iI (((st : Nat) : Int))), .int (iI (cc)), .int (iI (bc)), .ref mco, .ref mfl, .ref mba, .ref mdu, .long (lI (pot)), .long (lI (gr)), .long (lI (bk)), .int (iI (btw)), .int (iI (bhd))])), (mnw, .inl (k4 0, 19, .inl (fun i9 => iI (NW i9)))), (mte, .inl (k4 0, 912, .inl (fun i9 => iI (TE i9)))), (mge, .inl (k4 0, 288, .inl (fun i9 => iI (GE i9)))), (mus, .inl (k4 0, 288, .inl (fun i9 => iI (US i9)))), (mco, .inl (k4 0, 48, .inl (fun i9 => iI (CO i9)))), (mfl, .inl (k4 0, 2304, .inl (fun i9 => iI (FL i9)))), (mba, .inl (k4 1, 6, .inr (.inl (fun i9 => lI (BA i9))))), (mdu, .inl (k4 1, 6, .inr (.inl (fun i9 => lI (DU i9)))))]) E X G hl.1 (w_setMember_2 l hl9 D k4 lo lnow lsl lcl lba ldu nsh nrk h1 r1 q1 h2 r2 q2 ta sa n p st cc bc pot gr bk nw bal due S1 S2 tx sg m a b ao O hX hm ha hb) zw_105 zw_106 zw_74 zw_107 (by decide +kernel) (by decide +kernel) ⟨rfl, rfl, Nat.le_of_ble_eq_true rfl, Nat.le_of_ble_eq_true rfl⟩ rfl rfl (Nat.le_of_ble_eq_true rfl) dL_law_212 ⟨by omega, by omega⟩ (fun v9 w9 H locs hq G => ?_)
  obtain ⟨rfl, rfl⟩ := hq
  refine W.eq (g2 := F0 mm 215 ls [.int (iI (2))]) rfl ?_
  have G : zG D AA ss.heap ((mo, .inr (5, [.int (iI (th)), .int (iI (((n : Nat) : Int))), .ref mnw, .ref mte, .ref mge, .ref mus, .int (iI (((p : Nat) : Int))), .int (iI (((st : Nat) : Int))), .int (iI (cc)), .int (iI (bc)), .ref mco, .ref mfl, .ref mba, .ref mdu, .long (lI (pot)), .long (lI (gr)), .long (lI (bk)), .int (iI (btw)), .int (iI (bhd))])) :: (mnw, .inl (k4 0, 19, .inl (fun i9 => iI (NW i9)))) :: (mte, .inl (k4 0, 912, .inl (fun i9 => iI (TE i9)))) :: (mge, .inl (k4 0, 288, .inl (fun i9 => iI (GE i9)))) :: (mus, .inl (k4 0, 288, .inl (fun i9 => iI (US i9)))) :: (mco, .inl (k4 0, 48, .inl (fun i9 => iI (CO i9)))) :: (mfl, .inl (k4 0, 2304, .inl (fun i9 => iI (FL i9)))) :: (mba, .inl (k4 1, 6, .inr (.inl (fun i9 => lI (BA i9))))) :: (mdu, .inl (k4 1, 6, .inr (.inl (fun i9 => lI (DU i9))))) :: (ao, .inl (k4 1, 1, .inr (.inl (fun i9 => lI (O i9))))) :: (xW k4 lo lnow lsl lcl lba ldu nsh nrk h1 r1 q1 h2 r2 q2 ta sa n p st cc bc pot gr bk nw bal due S1 S2 tx sg)) H locs := G
  refine z_istore E [(5, .int (iI (2))), (0, .ref bs), (1, .ref lo), (2, .ref mo), (3, .ref ao), (4, .int (iI (((i : Nat) : Int))))] dL_law_215 hl (by decide) rfl (fun ls hl => ?_)
  refine z_aload_n E hl 3 rfl dL_law_217 rfl ?_
  refine z_aload_n E hl 1 rfl dL_law_218 rfl ?_
  refine z_iload E hl 5 rfl dL_law_219 ?_
  refine z_iconst E dL_law_221 ?_
  refine z_iadd E dL_law_222 ?_
  refine z_sld E S9 G (i + 1) (by omega) (by omega) dL_law_223 ?_
  refine z_eq (y := ((m : Nat) : Int)) hx1 ?_
  refine z_aload_n E hl 1 rfl dL_law_224 rfl ?_
  refine z_iload E hl 5 rfl dL_law_225 ?_
  refine z_iconst E dL_law_227 ?_
  refine z_iadd E dL_law_228 ?_
  refine z_sld E S9 G (i + 2) (by omega) (by omega) dL_law_229 ?_
  refine z_eq (y := a) hx2 ?_
  refine z_aload_n E hl 1 rfl dL_law_230 rfl ?_
  refine z_iload E hl 5 rfl dL_law_231 ?_
  refine z_iconst E dL_law_233 ?_
  refine z_iadd E dL_law_234 ?_
  refine z_sld E S9 G (i + 3) (by omega) (by omega) dL_law_235 ?_
  refine z_eq (y := b) hx3 ?_
  refine z_callV E G hl.1 (c_X5_setMember_2 l D k4 mo mnw mte mge mus mco mfl mba mdu th n p st cc bc pot gr bk btw bhd m a b (by omega) (by omega) (by omega) (by omega)) kV_L_95 ⟨rfl, rfl, Nat.le_of_ble_eq_true rfl, Nat.le_of_ble_eq_true rfl⟩ [0] rfl (by decide) 0 5 rfl rfl rfl rfl rfl (Nat.le_of_ble_eq_true rfl) dL_law_236 ⟨by omega, by omega⟩ (fun v9 w9 H locs hq G => ?_)
  obtain ⟨rfl, rfl⟩ := hq
  refine W.eq (g2 := F0 mm 239 ls [.int (iI (0))]) rfl ?_
  have G : zG D AA ss.heap ((mo, .inr (5, [.int (iI (2)), .int (iI (((n : Nat) : Int))), .ref mnw, .ref mte, .ref mge, .ref mus, .int (iI (((p : Nat) : Int))), .int (iI (((st : Nat) : Int))), .int (iI (cc)), .int (iI (bc)), .ref mco, .ref mfl, .ref mba, .ref mdu, .long (lI (pot)), .long (lI (gr)), .long (lI (bk)), .int (iI (btw)), .int (iI (bhd))])) :: (mnw, .inl (k4 0, 19, .inl (fun i9 => iI (NW i9)))) :: (mte, .inl (k4 0, 912, .inl (fun i9 => iI (TE i9)))) :: (mge, .inl (k4 0, 288, .inl (fun i9 => iI (GE i9)))) :: (mus, .inl (k4 0, 288, .inl (fun i9 => iI (US i9)))) :: (mco, .inl (k4 0, 48, .inl (fun i9 => iI (CO i9)))) :: (mfl, .inl (k4 0, 2304, .inl (fun i9 => iI (FL i9)))) :: (mba, .inl (k4 1, 6, .inr (.inl (fun i9 => lI (BA i9))))) :: (mdu, .inl (k4 1, 6, .inr (.inl (fun i9 => lI (DU i9))))) :: (ao, .inl (k4 1, 1, .inr (.inl (fun i9 => lI (O i9))))) :: (xW k4 lo lnow lsl lcl lba ldu nsh nrk h1 r1 q1 h2 r2 q2 ta sa n p st cc bc pot gr bk nw bal due S1 S2 tx sg)) H locs := G
  refine z_istore E [(6, .int (iI (0))), (5, .int (iI (2))), (0, .ref bs), (1, .ref lo), (2, .ref mo), (3, .ref ao), (4, .int (iI (((i : Nat) : Int))))] dL_law_239 hl (by decide) rfl (fun ls hl => ?_)
  refine z_aload_n E hl 4 rfl dL_law_241 rfl ?_
  refine z_callV E G hl.1 (c_X5_thrown l D k4 mo mnw mte mge mus mco mfl mba mdu 2 n p st cc bc pot gr bk btw bhd ) kV_L_89 ⟨rfl, rfl, Nat.le_of_ble_eq_true rfl, Nat.le_of_ble_eq_true rfl⟩ [0] rfl (by decide) 0 5 rfl rfl rfl rfl rfl (Nat.le_of_ble_eq_true rfl) dL_law_242 ⟨by omega, by omega⟩ (fun v9 w9 H locs hq G => ?_)
  obtain ⟨rfl, rfl⟩ := hq
  refine W.eq (g2 := F0 mm 245 ls [.int (iI (2))]) rfl ?_
  have G : zG D AA ss.heap ((mo, .inr (5, [.int (iI (2)), .int (iI (((n : Nat) : Int))), .ref mnw, .ref mte, .ref mge, .ref mus, .int (iI (((p : Nat) : Int))), .int (iI (((st : Nat) : Int))), .int (iI (cc)), .int (iI (bc)), .ref mco, .ref mfl, .ref mba, .ref mdu, .long (lI (pot)), .long (lI (gr)), .long (lI (bk)), .int (iI (btw)), .int (iI (bhd))])) :: (mnw, .inl (k4 0, 19, .inl (fun i9 => iI (NW i9)))) :: (mte, .inl (k4 0, 912, .inl (fun i9 => iI (TE i9)))) :: (mge, .inl (k4 0, 288, .inl (fun i9 => iI (GE i9)))) :: (mus, .inl (k4 0, 288, .inl (fun i9 => iI (US i9)))) :: (mco, .inl (k4 0, 48, .inl (fun i9 => iI (CO i9)))) :: (mfl, .inl (k4 0, 2304, .inl (fun i9 => iI (FL i9)))) :: (mba, .inl (k4 1, 6, .inr (.inl (fun i9 => lI (BA i9))))) :: (mdu, .inl (k4 1, 6, .inr (.inl (fun i9 => lI (DU i9))))) :: (ao, .inl (k4 1, 1, .inr (.inl (fun i9 => lI (O i9))))) :: (xW k4 lo lnow lsl lcl lba ldu nsh nrk h1 r1 q1 h2 r2 q2 ta sa n p st cc bc pot gr bk nw bal due S1 S2 tx sg)) H locs := G
  refine z_iload E hl 1 rfl dL_law_245 ?_
  refine z_icmp_eq (tgt := 252) E dL_law_247 (by decide) (by decide) (by decide) (fun c_247 => ?_) (fun c_247 => absurd c_247 (by decide))
  refine z_iload E hl 1 rfl dL_law_252 ?_
  refine z_if_ne (tgt := 269) E dL_law_254 (by decide) (by decide) (fun c_254 => ?_) (fun c_254 => absurd c_254 (by decide))
  refine z_goto (tgt := 1502) E dL_law_269 (by decide) ?_
  refine W.cs (cells' := cl9 + ((1) + (0))) (slots' := sl9 + ((6) + (0))) (by omega) (by omega) ?_
  exact kk _ _ _ G (lv_sub hl [2, 3, 4, 5, 6] rfl)

set_option maxHeartbeats 4000000 in
set_option maxRecDepth 100000 in
theorem s_setRule {pp : Program} {l : Launch} {ee : Env} {ss : State} {mm : MethodId} {bl : List Frame} {me : Method} {co : Code} {AA : Nat → Prop} {H : Heap} {locs : List Loc} {ls : Array Slot} {Q9 : State → Prop} {D : va_G} {k4 : Nat → ClassId} {bs Ls : Nat} {xs : Nat → Int32} {cl9 sl9 : Nat} (hl9 : l.stackTraces = false) (E : zE pp mm co cL_law 9 ss #[Value.ref bs] RL D k4) (X : zEL ss AA) (S9 : zSc bs Ls xs ss AA) (i : Nat) (hi5 : i + 4 < Ls) (lo lnow lsl lcl lba ldu nsh nrk h1 r1 q1 h2 r2 q2 : Nat) (ta : Nat → Nat) (sa : Nat → Nat → Nat) (n p st : Nat) (cc bc pot gr bk : Int) (nw bal due : Nat → Int) (S1 S2 : sS) (tx : Nat → Nat → Int) (sg : Nat → Nat → Nat → Int) (a : Int) (mo mnw mte mge mus mco mfl mba mdu : Nat) (th btw bhd : Int) (NW TE GE US CO FL BA DU : Nat → Int) (ao : Nat) (O : Nat → Int) (hX : xOK n p st bc nw S1 S2 tx sg) (ha : 0 ≤ a ∧ a ≤ 3) (hn9 : n ≤ 6) (hp9 : p ≤ 48) (hs9 : st ≤ 48) (hcc : rng cc) (hb9 : 0 ≤ bc ∧ bc ≤ 20000) (hx1 : (xs (i + 1)).toInt = a) (hans : ((nw 0) : Int) = (NW 0)) (hrb : rng (NW 0)) (hc9 : cl9 + ((0) + (0)) ≤ room_1.cells) (hs99 : sl9 + ((0) + (0)) ≤ room_1.slots) (G : zG D AA ss.heap ((mo, .inr (5, [.int (iI (th)), .int (iI (((n : Nat) : Int))), .ref mnw, .ref mte, .ref mge, .ref mus, .int (iI (((p : Nat) : Int))), .int (iI (((st : Nat) : Int))), .int (iI (cc)), .int (iI (bc)), .ref mco, .ref mfl, .ref mba, .ref mdu, .long (lI (pot)), .long (lI (gr)), .long (lI (bk)), .int (iI (btw)), .int (iI (bhd))])) :: (mnw, .inl (k4 0, 19, .inl (fun i9 => iI (NW i9)))) :: (mte, .inl (k4 0, 912, .inl (fun i9 => iI (TE i9)))) :: (mge, .inl (k4 0, 288, .inl (fun i9 => iI (GE i9)))) :: (mus, .inl (k4 0, 288, .inl (fun i9 => iI (US i9)))) :: (mco, .inl (k4 0, 48, .inl (fun i9 => iI (CO i9)))) :: (mfl, .inl (k4 0, 2304, .inl (fun i9 => iI (FL i9)))) :: (mba, .inl (k4 1, 6, .inr (.inl (fun i9 => lI (BA i9))))) :: (mdu, .inl (k4 1, 6, .inr (.inl (fun i9 => lI (DU i9))))) :: (ao, .inl (k4 1, 1, .inr (.inl (fun i9 => lI (O i9))))) :: (xW k4 lo lnow lsl lcl lba ldu nsh nrk h1 r1 q1 h2 r2 q2 ta sa n p st cc bc pot gr bk nw bal due S1 S2 tx sg)) H locs) (hl : lv_has ls 9 [(0, .ref bs), (1, .ref lo), (2, .ref mo), (3, .ref ao), (4, .int (iI (((i : Nat) : Int))))]) (kk : ∀ (H : Heap) (locs : List Loc) (ls : Array Slot), zG D AA ss.heap ((mo, .inr (5, [.int (iI (0)), .int (iI (((n : Nat) : Int))), .ref mnw, .ref mte, .ref mge, .ref mus, .int (iI (((p : Nat) : Int))), .int (iI (((st : Nat) : Int))), .int (iI (cc)), .int (iI (bc)), .ref mco, .ref mfl, .ref mba, .ref mdu, .long (lI (pot)), .long (lI (gr)), .long (lI (bk)), .int (iI (btw)), .int (iI (bhd))])) :: (mnw, .inl (k4 0, 19, .inl (fun i9 => iI ((up NW 0 a) i9)))) :: (mte, .inl (k4 0, 912, .inl (fun i9 => iI (TE i9)))) :: (mge, .inl (k4 0, 288, .inl (fun i9 => iI (GE i9)))) :: (mus, .inl (k4 0, 288, .inl (fun i9 => iI (US i9)))) :: (mco, .inl (k4 0, 48, .inl (fun i9 => iI (CO i9)))) :: (mfl, .inl (k4 0, 2304, .inl (fun i9 => iI (FL i9)))) :: (mba, .inl (k4 1, 6, .inr (.inl (fun i9 => lI (BA i9))))) :: (mdu, .inl (k4 1, 6, .inr (.inl (fun i9 => lI (DU i9))))) :: (ao, .inl (k4 1, 1, .inr (.inl (fun i9 => lI ((up O 0 (nw 0)) i9))))) :: (xW k4 lo lnow lsl lcl lba ldu nsh nrk h1 r1 q1 h2 r2 q2 ta sa n p st cc bc pot gr bk (up nw 0 (a)) bal due S1 S2 tx sg)) H locs → lv_has ls 9 [(0, .ref bs), (1, .ref lo), (2, .ref mo), (3, .ref ao), (4, .int (iI (((i : Nat) : Int))))] → W pp l ee room_1 ss mm #[Value.ref bs] bl me co H locs (cl9 + ((0) + (0))) (sl9 + ((0) + (0))) Q9 (F0 mm 1502 ls [])) : W pp l ee room_1 ss mm #[Value.ref bs] bl me co H locs (cl9) (sl9) Q9 (F0 mm 272 ls []) := by
  refine z_aload_n E hl 1 rfl dL_law_272 rfl ?_
  refine z_aload_n E hl 0 rfl dL_law_273 rfl ?_
  refine z_iload E hl 4 rfl dL_law_274 ?_
  refine z_iconst E dL_law_276 ?_
  refine z_iadd E dL_law_277 ?_
  refine z_sld E S9 G (i + 1) (by omega) (by omega) dL_law_278 ?_
  refine z_eq (y := a) hx1 ?_
  refine z_aload_n E hl 3 rfl dL_law_279 rfl ?_
  refine z_callL (n := 3) (pre := [(mo, .inr (5, [.int (iI (th)), .int (iI (((n : Nat) : Int))), .ref mnw, .ref mte, .ref mge, .ref mus, .int (iI (((p : Nat) : Int))), .int (iI (((st : Nat) : Int))), .int (iI (cc)), .int (iI (bc)), .ref mco, .ref mfl, .ref mba, .ref mdu, .long (lI (pot)), .long (lI (gr)), .long (lI (bk)), .int (iI (btw)), .int (iI (bhd))])), (mnw, .inl (k4 0, 19, .inl (fun i9 => iI (NW i9)))), (mte, .inl (k4 0, 912, .inl (fun i9 => iI (TE i9)))), (mge, .inl (k4 0, 288, .inl (fun i9 => iI (GE i9)))), (mus, .inl (k4 0, 288, .inl (fun i9 => iI (US i9)))), (mco, .inl (k4 0, 48, .inl (fun i9 => iI (CO i9)))), (mfl, .inl (k4 0, 2304, .inl (fun i9 => iI (FL i9)))), (mba, .inl (k4 1, 6, .inr (.inl (fun i9 => lI (BA i9))))), (mdu, .inl (k4 1, 6, .inr (.inl (fun i9 => lI (DU i9)))))]) E X G hl.1 (w_setRule l D k4 lo lnow lsl lcl lba ldu nsh nrk h1 r1 q1 h2 r2 q2 ta sa n p st cc bc pot gr bk nw bal due S1 S2 tx sg a ao O hX ha) zw_144 zw_145 zw_74 zw_146 (by decide +kernel) (by decide +kernel) ⟨rfl, rfl, Nat.le_of_ble_eq_true rfl, Nat.le_of_ble_eq_true rfl⟩ rfl rfl (Nat.le_of_ble_eq_true rfl) dL_law_280 ⟨by omega, by omega⟩ (fun v9 w9 H locs hq G => ?_)
  obtain ⟨rfl, rfl⟩ := hq
  refine W.eq (g2 := F0 mm 283 ls [.int (iI (0))]) rfl ?_
  have G : zG D AA ss.heap ((mo, .inr (5, [.int (iI (th)), .int (iI (((n : Nat) : Int))), .ref mnw, .ref mte, .ref mge, .ref mus, .int (iI (((p : Nat) : Int))), .int (iI (((st : Nat) : Int))), .int (iI (cc)), .int (iI (bc)), .ref mco, .ref mfl, .ref mba, .ref mdu, .long (lI (pot)), .long (lI (gr)), .long (lI (bk)), .int (iI (btw)), .int (iI (bhd))])) :: (mnw, .inl (k4 0, 19, .inl (fun i9 => iI (NW i9)))) :: (mte, .inl (k4 0, 912, .inl (fun i9 => iI (TE i9)))) :: (mge, .inl (k4 0, 288, .inl (fun i9 => iI (GE i9)))) :: (mus, .inl (k4 0, 288, .inl (fun i9 => iI (US i9)))) :: (mco, .inl (k4 0, 48, .inl (fun i9 => iI (CO i9)))) :: (mfl, .inl (k4 0, 2304, .inl (fun i9 => iI (FL i9)))) :: (mba, .inl (k4 1, 6, .inr (.inl (fun i9 => lI (BA i9))))) :: (mdu, .inl (k4 1, 6, .inr (.inl (fun i9 => lI (DU i9))))) :: (ao, .inl (k4 1, 1, .inr (.inl (fun i9 => lI ((up O 0 (nw 0)) i9))))) :: (xW k4 lo lnow lsl lcl lba ldu nsh nrk h1 r1 q1 h2 r2 q2 ta sa n p st cc bc pot gr bk (up nw 0 (a)) bal due S1 S2 tx sg)) H locs := G
  refine z_istore E [(5, .int (iI (0))), (0, .ref bs), (1, .ref lo), (2, .ref mo), (3, .ref ao), (4, .int (iI (((i : Nat) : Int))))] dL_law_283 hl (by decide) rfl (fun ls hl => ?_)
  refine z_aload_n E hl 3 rfl dL_law_285 rfl ?_
  refine z_aload_n E hl 1 rfl dL_law_286 rfl ?_
  refine z_iload E hl 5 rfl dL_law_287 ?_
  refine z_iconst E dL_law_289 ?_
  refine z_iadd E dL_law_290 ?_
  refine z_sld E S9 G (i + 1) (by omega) (by omega) dL_law_291 ?_
  refine z_eq (y := a) hx1 ?_
  refine z_callV E G hl.1 (c_X5_setRule l D k4 mo mnw mte mge mus mco mfl mba mdu th n p st cc bc pot gr bk btw bhd a NW (by omega) (by omega)) kV_L_99 ⟨rfl, rfl, Nat.le_of_ble_eq_true rfl, Nat.le_of_ble_eq_true rfl⟩ [0, 1] rfl (by decide) 0 5 rfl rfl rfl rfl rfl (Nat.le_of_ble_eq_true rfl) dL_law_292 ⟨by omega, by omega⟩ (fun v9 w9 H locs hq G => ?_)
  obtain ⟨rfl, rfl⟩ := hq
  refine W.eq (g2 := F0 mm 295 ls [.int (iI (NW 0))]) rfl ?_
  have G : zG D AA ss.heap ((mo, .inr (5, [.int (iI (0)), .int (iI (((n : Nat) : Int))), .ref mnw, .ref mte, .ref mge, .ref mus, .int (iI (((p : Nat) : Int))), .int (iI (((st : Nat) : Int))), .int (iI (cc)), .int (iI (bc)), .ref mco, .ref mfl, .ref mba, .ref mdu, .long (lI (pot)), .long (lI (gr)), .long (lI (bk)), .int (iI (btw)), .int (iI (bhd))])) :: (mnw, .inl (k4 0, 19, .inl (fun i9 => iI ((up NW 0 a) i9)))) :: (mte, .inl (k4 0, 912, .inl (fun i9 => iI (TE i9)))) :: (mge, .inl (k4 0, 288, .inl (fun i9 => iI (GE i9)))) :: (mus, .inl (k4 0, 288, .inl (fun i9 => iI (US i9)))) :: (mco, .inl (k4 0, 48, .inl (fun i9 => iI (CO i9)))) :: (mfl, .inl (k4 0, 2304, .inl (fun i9 => iI (FL i9)))) :: (mba, .inl (k4 1, 6, .inr (.inl (fun i9 => lI (BA i9))))) :: (mdu, .inl (k4 1, 6, .inr (.inl (fun i9 => lI (DU i9))))) :: (ao, .inl (k4 1, 1, .inr (.inl (fun i9 => lI ((up O 0 (nw 0)) i9))))) :: (xW k4 lo lnow lsl lcl lba ldu nsh nrk h1 r1 q1 h2 r2 q2 ta sa n p st cc bc pot gr bk (up nw 0 (a)) bal due S1 S2 tx sg)) H locs := G
  refine z_istore E [(6, .int (iI (NW 0))), (5, .int (iI (0))), (0, .ref bs), (1, .ref lo), (2, .ref mo), (3, .ref ao), (4, .int (iI (((i : Nat) : Int))))] dL_law_295 hl (by decide) rfl (fun ls hl => ?_)
  refine z_aload_n E hl 4 rfl dL_law_297 rfl ?_
  refine z_callV E G hl.1 (c_X5_thrown l D k4 mo mnw mte mge mus mco mfl mba mdu 0 n p st cc bc pot gr bk btw bhd ) kV_L_89 ⟨rfl, rfl, Nat.le_of_ble_eq_true rfl, Nat.le_of_ble_eq_true rfl⟩ [0] rfl (by decide) 0 5 rfl rfl rfl rfl rfl (Nat.le_of_ble_eq_true rfl) dL_law_298 ⟨by omega, by omega⟩ (fun v9 w9 H locs hq G => ?_)
  obtain ⟨rfl, rfl⟩ := hq
  refine W.eq (g2 := F0 mm 301 ls [.int (iI (0))]) rfl ?_
  have G : zG D AA ss.heap ((mo, .inr (5, [.int (iI (0)), .int (iI (((n : Nat) : Int))), .ref mnw, .ref mte, .ref mge, .ref mus, .int (iI (((p : Nat) : Int))), .int (iI (((st : Nat) : Int))), .int (iI (cc)), .int (iI (bc)), .ref mco, .ref mfl, .ref mba, .ref mdu, .long (lI (pot)), .long (lI (gr)), .long (lI (bk)), .int (iI (btw)), .int (iI (bhd))])) :: (mnw, .inl (k4 0, 19, .inl (fun i9 => iI ((up NW 0 a) i9)))) :: (mte, .inl (k4 0, 912, .inl (fun i9 => iI (TE i9)))) :: (mge, .inl (k4 0, 288, .inl (fun i9 => iI (GE i9)))) :: (mus, .inl (k4 0, 288, .inl (fun i9 => iI (US i9)))) :: (mco, .inl (k4 0, 48, .inl (fun i9 => iI (CO i9)))) :: (mfl, .inl (k4 0, 2304, .inl (fun i9 => iI (FL i9)))) :: (mba, .inl (k4 1, 6, .inr (.inl (fun i9 => lI (BA i9))))) :: (mdu, .inl (k4 1, 6, .inr (.inl (fun i9 => lI (DU i9))))) :: (ao, .inl (k4 1, 1, .inr (.inl (fun i9 => lI ((up O 0 (nw 0)) i9))))) :: (xW k4 lo lnow lsl lcl lba ldu nsh nrk h1 r1 q1 h2 r2 q2 ta sa n p st cc bc pot gr bk (up nw 0 (a)) bal due S1 S2 tx sg)) H locs := G
  refine z_iload E hl 1 rfl dL_law_301 ?_
  refine z_icmp_eq (tgt := 308) E dL_law_303 (by decide) (by decide) (by decide) (fun c_303 => ?_) (fun c_303 => absurd c_303 (by decide))
  refine z_iload E hl 1 rfl dL_law_308 ?_
  refine z_if_ne (tgt := 325) E dL_law_310 (by decide) (by decide) (fun c_310 => absurd c_310 (by decide)) (fun c_310 => ?_)
  refine z_aload_n E hl 5 rfl dL_law_313 rfl ?_
  refine z_iconst E dL_law_314 ?_
  refine z_lald E G 9 rfl (0) rfl (by decide) (by decide) dL_law_315 ?_
  refine z_eql (y := NW 0) (up_s.trans hans) ?_
  refine z_iload E hl 0 rfl dL_law_316 ?_
  refine z_i2l E dL_law_318 hrb ?_
  refine z_lcmp E dL_law_319 ?_
  refine z_if_eq (tgt := 325) E dL_law_320 (by decide) (lcI_rng _ _) (fun c_320 => ?_) (fun c_320 => absurd c_320 (by rw [lcI_self]; decide))
  refine z_goto (tgt := 1502) E dL_law_325 (by decide) ?_
  refine W.cs (cells' := cl9 + ((0) + (0))) (slots' := sl9 + ((0) + (0))) (by omega) (by omega) ?_
  exact kk _ _ _ G (lv_sub hl [2, 3, 4, 5, 6] rfl)

set_option maxHeartbeats 4000000 in
set_option maxRecDepth 100000 in
theorem s_setRule_0 {pp : Program} {l : Launch} {ee : Env} {ss : State} {mm : MethodId} {bl : List Frame} {me : Method} {co : Code} {AA : Nat → Prop} {H : Heap} {locs : List Loc} {ls : Array Slot} {Q9 : State → Prop} {D : va_G} {k4 : Nat → ClassId} {bs Ls : Nat} {xs : Nat → Int32} {cl9 sl9 : Nat} (hl9 : l.stackTraces = false) (E : zE pp mm co cL_law 9 ss #[Value.ref bs] RL D k4) (X : zEL ss AA) (S9 : zSc bs Ls xs ss AA) (i : Nat) (hi5 : i + 4 < Ls) (lo lnow lsl lcl lba ldu nsh nrk h1 r1 q1 h2 r2 q2 : Nat) (ta : Nat → Nat) (sa : Nat → Nat → Nat) (n p st : Nat) (cc bc pot gr bk : Int) (nw bal due : Nat → Int) (S1 S2 : sS) (tx : Nat → Nat → Int) (sg : Nat → Nat → Nat → Int) (a : Int) (mo mnw mte mge mus mco mfl mba mdu : Nat) (th btw bhd : Int) (NW TE GE US CO FL BA DU : Nat → Int) (ao : Nat) (O : Nat → Int) (hX : xOK n p st bc nw S1 S2 tx sg) (ha : -2147483648 ≤ a ∧ a ≤ 2147483647 ∧ (a < 0 ∨ 3 < a)) (hn9 : n ≤ 6) (hp9 : p ≤ 48) (hs9 : st ≤ 48) (hcc : rng cc) (hb9 : 0 ≤ bc ∧ bc ≤ 20000) (hx1 : (xs (i + 1)).toInt = a) (hc9 : cl9 + ((1) + (0)) ≤ room_1.cells) (hs99 : sl9 + ((6) + (0)) ≤ room_1.slots) (G : zG D AA ss.heap ((mo, .inr (5, [.int (iI (th)), .int (iI (((n : Nat) : Int))), .ref mnw, .ref mte, .ref mge, .ref mus, .int (iI (((p : Nat) : Int))), .int (iI (((st : Nat) : Int))), .int (iI (cc)), .int (iI (bc)), .ref mco, .ref mfl, .ref mba, .ref mdu, .long (lI (pot)), .long (lI (gr)), .long (lI (bk)), .int (iI (btw)), .int (iI (bhd))])) :: (mnw, .inl (k4 0, 19, .inl (fun i9 => iI (NW i9)))) :: (mte, .inl (k4 0, 912, .inl (fun i9 => iI (TE i9)))) :: (mge, .inl (k4 0, 288, .inl (fun i9 => iI (GE i9)))) :: (mus, .inl (k4 0, 288, .inl (fun i9 => iI (US i9)))) :: (mco, .inl (k4 0, 48, .inl (fun i9 => iI (CO i9)))) :: (mfl, .inl (k4 0, 2304, .inl (fun i9 => iI (FL i9)))) :: (mba, .inl (k4 1, 6, .inr (.inl (fun i9 => lI (BA i9))))) :: (mdu, .inl (k4 1, 6, .inr (.inl (fun i9 => lI (DU i9))))) :: (ao, .inl (k4 1, 1, .inr (.inl (fun i9 => lI (O i9))))) :: (xW k4 lo lnow lsl lcl lba ldu nsh nrk h1 r1 q1 h2 r2 q2 ta sa n p st cc bc pot gr bk nw bal due S1 S2 tx sg)) H locs) (hl : lv_has ls 9 [(0, .ref bs), (1, .ref lo), (2, .ref mo), (3, .ref ao), (4, .int (iI (((i : Nat) : Int))))]) (kk : ∀ (H : Heap) (locs : List Loc) (ls : Array Slot), zG D AA ss.heap ((mo, .inr (5, [.int (iI (1)), .int (iI (((n : Nat) : Int))), .ref mnw, .ref mte, .ref mge, .ref mus, .int (iI (((p : Nat) : Int))), .int (iI (((st : Nat) : Int))), .int (iI (cc)), .int (iI (bc)), .ref mco, .ref mfl, .ref mba, .ref mdu, .long (lI (pot)), .long (lI (gr)), .long (lI (bk)), .int (iI (btw)), .int (iI (bhd))])) :: (mnw, .inl (k4 0, 19, .inl (fun i9 => iI (NW i9)))) :: (mte, .inl (k4 0, 912, .inl (fun i9 => iI (TE i9)))) :: (mge, .inl (k4 0, 288, .inl (fun i9 => iI (GE i9)))) :: (mus, .inl (k4 0, 288, .inl (fun i9 => iI (US i9)))) :: (mco, .inl (k4 0, 48, .inl (fun i9 => iI (CO i9)))) :: (mfl, .inl (k4 0, 2304, .inl (fun i9 => iI (FL i9)))) :: (mba, .inl (k4 1, 6, .inr (.inl (fun i9 => lI (BA i9))))) :: (mdu, .inl (k4 1, 6, .inr (.inl (fun i9 => lI (DU i9))))) :: (ao, .inl (k4 1, 1, .inr (.inl (fun i9 => lI (O i9))))) :: (xW k4 lo lnow lsl lcl lba ldu nsh nrk h1 r1 q1 h2 r2 q2 ta sa n p st cc bc pot gr bk nw bal due S1 S2 tx sg)) H locs → lv_has ls 9 [(0, .ref bs), (1, .ref lo), (2, .ref mo), (3, .ref ao), (4, .int (iI (((i : Nat) : Int))))] → W pp l ee room_1 ss mm #[Value.ref bs] bl me co H locs (cl9 + ((1) + (0))) (sl9 + ((6) + (0))) Q9 (F0 mm 1502 ls [])) : W pp l ee room_1 ss mm #[Value.ref bs] bl me co H locs (cl9) (sl9) Q9 (F0 mm 272 ls []) := by
  refine z_aload_n E hl 1 rfl dL_law_272 rfl ?_
  refine z_aload_n E hl 0 rfl dL_law_273 rfl ?_
  refine z_iload E hl 4 rfl dL_law_274 ?_
  refine z_iconst E dL_law_276 ?_
  refine z_iadd E dL_law_277 ?_
  refine z_sld E S9 G (i + 1) (by omega) (by omega) dL_law_278 ?_
  refine z_eq (y := a) hx1 ?_
  refine z_aload_n E hl 3 rfl dL_law_279 rfl ?_
  refine z_callL (n := 3) (pre := [(mo, .inr (5, [.int (iI (th)), .int (iI (((n : Nat) : Int))), .ref mnw, .ref mte, .ref mge, .ref mus, .int (iI (((p : Nat) : Int))), .int (iI (((st : Nat) : Int))), .int (iI (cc)), .int (iI (bc)), .ref mco, .ref mfl, .ref mba, .ref mdu, .long (lI (pot)), .long (lI (gr)), .long (lI (bk)), .int (iI (btw)), .int (iI (bhd))])), (mnw, .inl (k4 0, 19, .inl (fun i9 => iI (NW i9)))), (mte, .inl (k4 0, 912, .inl (fun i9 => iI (TE i9)))), (mge, .inl (k4 0, 288, .inl (fun i9 => iI (GE i9)))), (mus, .inl (k4 0, 288, .inl (fun i9 => iI (US i9)))), (mco, .inl (k4 0, 48, .inl (fun i9 => iI (CO i9)))), (mfl, .inl (k4 0, 2304, .inl (fun i9 => iI (FL i9)))), (mba, .inl (k4 1, 6, .inr (.inl (fun i9 => lI (BA i9))))), (mdu, .inl (k4 1, 6, .inr (.inl (fun i9 => lI (DU i9)))))]) E X G hl.1 (w_setRule_0 l hl9 D k4 lo lnow lsl lcl lba ldu nsh nrk h1 r1 q1 h2 r2 q2 ta sa n p st cc bc pot gr bk nw bal due S1 S2 tx sg a ao O hX ha) zw_144 zw_145 zw_74 zw_146 (by decide +kernel) (by decide +kernel) ⟨rfl, rfl, Nat.le_of_ble_eq_true rfl, Nat.le_of_ble_eq_true rfl⟩ rfl rfl (Nat.le_of_ble_eq_true rfl) dL_law_280 ⟨by omega, by omega⟩ (fun v9 w9 H locs hq G => ?_)
  obtain ⟨rfl, rfl⟩ := hq
  refine W.eq (g2 := F0 mm 283 ls [.int (iI (1))]) rfl ?_
  have G : zG D AA ss.heap ((mo, .inr (5, [.int (iI (th)), .int (iI (((n : Nat) : Int))), .ref mnw, .ref mte, .ref mge, .ref mus, .int (iI (((p : Nat) : Int))), .int (iI (((st : Nat) : Int))), .int (iI (cc)), .int (iI (bc)), .ref mco, .ref mfl, .ref mba, .ref mdu, .long (lI (pot)), .long (lI (gr)), .long (lI (bk)), .int (iI (btw)), .int (iI (bhd))])) :: (mnw, .inl (k4 0, 19, .inl (fun i9 => iI (NW i9)))) :: (mte, .inl (k4 0, 912, .inl (fun i9 => iI (TE i9)))) :: (mge, .inl (k4 0, 288, .inl (fun i9 => iI (GE i9)))) :: (mus, .inl (k4 0, 288, .inl (fun i9 => iI (US i9)))) :: (mco, .inl (k4 0, 48, .inl (fun i9 => iI (CO i9)))) :: (mfl, .inl (k4 0, 2304, .inl (fun i9 => iI (FL i9)))) :: (mba, .inl (k4 1, 6, .inr (.inl (fun i9 => lI (BA i9))))) :: (mdu, .inl (k4 1, 6, .inr (.inl (fun i9 => lI (DU i9))))) :: (ao, .inl (k4 1, 1, .inr (.inl (fun i9 => lI (O i9))))) :: (xW k4 lo lnow lsl lcl lba ldu nsh nrk h1 r1 q1 h2 r2 q2 ta sa n p st cc bc pot gr bk nw bal due S1 S2 tx sg)) H locs := G
  refine z_istore E [(5, .int (iI (1))), (0, .ref bs), (1, .ref lo), (2, .ref mo), (3, .ref ao), (4, .int (iI (((i : Nat) : Int))))] dL_law_283 hl (by decide) rfl (fun ls hl => ?_)
  refine z_aload_n E hl 3 rfl dL_law_285 rfl ?_
  refine z_aload_n E hl 1 rfl dL_law_286 rfl ?_
  refine z_iload E hl 5 rfl dL_law_287 ?_
  refine z_iconst E dL_law_289 ?_
  refine z_iadd E dL_law_290 ?_
  refine z_sld E S9 G (i + 1) (by omega) (by omega) dL_law_291 ?_
  refine z_eq (y := a) hx1 ?_
  refine z_callV E G hl.1 (c_X5_setRule_0 l D k4 mo mnw mte mge mus mco mfl mba mdu th n p st cc bc pot gr bk btw bhd a (by omega) (by omega)) kV_L_99 ⟨rfl, rfl, Nat.le_of_ble_eq_true rfl, Nat.le_of_ble_eq_true rfl⟩ [0] rfl (by decide) 0 5 rfl rfl rfl rfl rfl (Nat.le_of_ble_eq_true rfl) dL_law_292 ⟨by omega, by omega⟩ (fun v9 w9 H locs hq G => ?_)
  obtain ⟨rfl, rfl⟩ := hq
  refine W.eq (g2 := F0 mm 295 ls [.int (iI (0))]) rfl ?_
  have G : zG D AA ss.heap ((mo, .inr (5, [.int (iI (1)), .int (iI (((n : Nat) : Int))), .ref mnw, .ref mte, .ref mge, .ref mus, .int (iI (((p : Nat) : Int))), .int (iI (((st : Nat) : Int))), .int (iI (cc)), .int (iI (bc)), .ref mco, .ref mfl, .ref mba, .ref mdu, .long (lI (pot)), .long (lI (gr)), .long (lI (bk)), .int (iI (btw)), .int (iI (bhd))])) :: (mnw, .inl (k4 0, 19, .inl (fun i9 => iI (NW i9)))) :: (mte, .inl (k4 0, 912, .inl (fun i9 => iI (TE i9)))) :: (mge, .inl (k4 0, 288, .inl (fun i9 => iI (GE i9)))) :: (mus, .inl (k4 0, 288, .inl (fun i9 => iI (US i9)))) :: (mco, .inl (k4 0, 48, .inl (fun i9 => iI (CO i9)))) :: (mfl, .inl (k4 0, 2304, .inl (fun i9 => iI (FL i9)))) :: (mba, .inl (k4 1, 6, .inr (.inl (fun i9 => lI (BA i9))))) :: (mdu, .inl (k4 1, 6, .inr (.inl (fun i9 => lI (DU i9))))) :: (ao, .inl (k4 1, 1, .inr (.inl (fun i9 => lI (O i9))))) :: (xW k4 lo lnow lsl lcl lba ldu nsh nrk h1 r1 q1 h2 r2 q2 ta sa n p st cc bc pot gr bk nw bal due S1 S2 tx sg)) H locs := G
  refine z_istore E [(6, .int (iI (0))), (5, .int (iI (1))), (0, .ref bs), (1, .ref lo), (2, .ref mo), (3, .ref ao), (4, .int (iI (((i : Nat) : Int))))] dL_law_295 hl (by decide) rfl (fun ls hl => ?_)
  refine z_aload_n E hl 4 rfl dL_law_297 rfl ?_
  refine z_callV E G hl.1 (c_X5_thrown l D k4 mo mnw mte mge mus mco mfl mba mdu 1 n p st cc bc pot gr bk btw bhd ) kV_L_89 ⟨rfl, rfl, Nat.le_of_ble_eq_true rfl, Nat.le_of_ble_eq_true rfl⟩ [0] rfl (by decide) 0 5 rfl rfl rfl rfl rfl (Nat.le_of_ble_eq_true rfl) dL_law_298 ⟨by omega, by omega⟩ (fun v9 w9 H locs hq G => ?_)
  obtain ⟨rfl, rfl⟩ := hq
  refine W.eq (g2 := F0 mm 301 ls [.int (iI (1))]) rfl ?_
  have G : zG D AA ss.heap ((mo, .inr (5, [.int (iI (1)), .int (iI (((n : Nat) : Int))), .ref mnw, .ref mte, .ref mge, .ref mus, .int (iI (((p : Nat) : Int))), .int (iI (((st : Nat) : Int))), .int (iI (cc)), .int (iI (bc)), .ref mco, .ref mfl, .ref mba, .ref mdu, .long (lI (pot)), .long (lI (gr)), .long (lI (bk)), .int (iI (btw)), .int (iI (bhd))])) :: (mnw, .inl (k4 0, 19, .inl (fun i9 => iI (NW i9)))) :: (mte, .inl (k4 0, 912, .inl (fun i9 => iI (TE i9)))) :: (mge, .inl (k4 0, 288, .inl (fun i9 => iI (GE i9)))) :: (mus, .inl (k4 0, 288, .inl (fun i9 => iI (US i9)))) :: (mco, .inl (k4 0, 48, .inl (fun i9 => iI (CO i9)))) :: (mfl, .inl (k4 0, 2304, .inl (fun i9 => iI (FL i9)))) :: (mba, .inl (k4 1, 6, .inr (.inl (fun i9 => lI (BA i9))))) :: (mdu, .inl (k4 1, 6, .inr (.inl (fun i9 => lI (DU i9))))) :: (ao, .inl (k4 1, 1, .inr (.inl (fun i9 => lI (O i9))))) :: (xW k4 lo lnow lsl lcl lba ldu nsh nrk h1 r1 q1 h2 r2 q2 ta sa n p st cc bc pot gr bk nw bal due S1 S2 tx sg)) H locs := G
  refine z_iload E hl 1 rfl dL_law_301 ?_
  refine z_icmp_eq (tgt := 308) E dL_law_303 (by decide) (by decide) (by decide) (fun c_303 => ?_) (fun c_303 => absurd c_303 (by decide))
  refine z_iload E hl 1 rfl dL_law_308 ?_
  refine z_if_ne (tgt := 325) E dL_law_310 (by decide) (by decide) (fun c_310 => ?_) (fun c_310 => absurd c_310 (by decide))
  refine z_goto (tgt := 1502) E dL_law_325 (by decide) ?_
  refine W.cs (cells' := cl9 + ((1) + (0))) (slots' := sl9 + ((6) + (0))) (by omega) (by omega) ?_
  exact kk _ _ _ G (lv_sub hl [2, 3, 4, 5, 6] rfl)

set_option maxHeartbeats 4000000 in
set_option maxRecDepth 100000 in
theorem s_setPrices {pp : Program} {l : Launch} {ee : Env} {ss : State} {mm : MethodId} {bl : List Frame} {me : Method} {co : Code} {AA : Nat → Prop} {H : Heap} {locs : List Loc} {ls : Array Slot} {Q9 : State → Prop} {D : va_G} {k4 : Nat → ClassId} {bs Ls : Nat} {xs : Nat → Int32} {cl9 sl9 : Nat} (hl9 : l.stackTraces = false) (E : zE pp mm co cL_law 9 ss #[Value.ref bs] RL D k4) (X : zEL ss AA) (S9 : zSc bs Ls xs ss AA) (i : Nat) (hi5 : i + 4 < Ls) (lo lnow lsl lcl lba ldu nsh nrk h1 r1 q1 h2 r2 q2 : Nat) (ta : Nat → Nat) (sa : Nat → Nat → Nat) (n p st : Nat) (cc bc pot gr bk : Int) (nw bal due : Nat → Int) (S1 S2 : sS) (tx : Nat → Nat → Int) (sg : Nat → Nat → Nat → Int) (a b d : Int) (mo mnw mte mge mus mco mfl mba mdu : Nat) (th btw bhd : Int) (NW TE GE US CO FL BA DU : Nat → Int) (ao : Nat) (O : Nat → Int) (hX : xOK n p st bc nw S1 S2 tx sg) (ha : 0 ≤ a ∧ a ≤ 100) (hb : 0 ≤ b ∧ b ≤ 100) (hd : 0 ≤ d ∧ d ≤ 100) (hn9 : n ≤ 6) (hp9 : p ≤ 48) (hs9 : st ≤ 48) (hcc : rng cc) (hb9 : 0 ≤ bc ∧ bc ≤ 20000) (hx1 : (xs (i + 1)).toInt = a) (hx2 : (xs (i + 2)).toInt = b) (hx3 : (xs (i + 3)).toInt = d) (hans : ((nw 3) : Int) = (NW 3)) (hrb : rng (NW 3)) (hc9 : cl9 + ((0) + (0)) ≤ room_1.cells) (hs99 : sl9 + ((0) + (0)) ≤ room_1.slots) (G : zG D AA ss.heap ((mo, .inr (5, [.int (iI (th)), .int (iI (((n : Nat) : Int))), .ref mnw, .ref mte, .ref mge, .ref mus, .int (iI (((p : Nat) : Int))), .int (iI (((st : Nat) : Int))), .int (iI (cc)), .int (iI (bc)), .ref mco, .ref mfl, .ref mba, .ref mdu, .long (lI (pot)), .long (lI (gr)), .long (lI (bk)), .int (iI (btw)), .int (iI (bhd))])) :: (mnw, .inl (k4 0, 19, .inl (fun i9 => iI (NW i9)))) :: (mte, .inl (k4 0, 912, .inl (fun i9 => iI (TE i9)))) :: (mge, .inl (k4 0, 288, .inl (fun i9 => iI (GE i9)))) :: (mus, .inl (k4 0, 288, .inl (fun i9 => iI (US i9)))) :: (mco, .inl (k4 0, 48, .inl (fun i9 => iI (CO i9)))) :: (mfl, .inl (k4 0, 2304, .inl (fun i9 => iI (FL i9)))) :: (mba, .inl (k4 1, 6, .inr (.inl (fun i9 => lI (BA i9))))) :: (mdu, .inl (k4 1, 6, .inr (.inl (fun i9 => lI (DU i9))))) :: (ao, .inl (k4 1, 1, .inr (.inl (fun i9 => lI (O i9))))) :: (xW k4 lo lnow lsl lcl lba ldu nsh nrk h1 r1 q1 h2 r2 q2 ta sa n p st cc bc pot gr bk nw bal due S1 S2 tx sg)) H locs) (hl : lv_has ls 9 [(0, .ref bs), (1, .ref lo), (2, .ref mo), (3, .ref ao), (4, .int (iI (((i : Nat) : Int))))]) (kk : ∀ (H : Heap) (locs : List Loc) (ls : Array Slot), zG D AA ss.heap ((mo, .inr (5, [.int (iI (0)), .int (iI (((n : Nat) : Int))), .ref mnw, .ref mte, .ref mge, .ref mus, .int (iI (((p : Nat) : Int))), .int (iI (((st : Nat) : Int))), .int (iI (cc)), .int (iI (bc)), .ref mco, .ref mfl, .ref mba, .ref mdu, .long (lI (pot)), .long (lI (gr)), .long (lI (bk)), .int (iI (btw)), .int (iI (bhd))])) :: (mnw, .inl (k4 0, 19, .inl (fun i9 => iI ((up (up (up NW 1 a) 2 b) 3 d) i9)))) :: (mte, .inl (k4 0, 912, .inl (fun i9 => iI (TE i9)))) :: (mge, .inl (k4 0, 288, .inl (fun i9 => iI (GE i9)))) :: (mus, .inl (k4 0, 288, .inl (fun i9 => iI (US i9)))) :: (mco, .inl (k4 0, 48, .inl (fun i9 => iI (CO i9)))) :: (mfl, .inl (k4 0, 2304, .inl (fun i9 => iI (FL i9)))) :: (mba, .inl (k4 1, 6, .inr (.inl (fun i9 => lI (BA i9))))) :: (mdu, .inl (k4 1, 6, .inr (.inl (fun i9 => lI (DU i9))))) :: (ao, .inl (k4 1, 1, .inr (.inl (fun i9 => lI ((up O 0 (nw 3)) i9))))) :: (xW k4 lo lnow lsl lcl lba ldu nsh nrk h1 r1 q1 h2 r2 q2 ta sa n p st cc bc pot gr bk (up (up (up nw 1 (a)) 2 (b)) 3 (d)) bal due S1 S2 tx sg)) H locs → lv_has ls 9 [(0, .ref bs), (1, .ref lo), (2, .ref mo), (3, .ref ao), (4, .int (iI (((i : Nat) : Int))))] → W pp l ee room_1 ss mm #[Value.ref bs] bl me co H locs (cl9 + ((0) + (0))) (sl9 + ((0) + (0))) Q9 (F0 mm 1502 ls [])) : W pp l ee room_1 ss mm #[Value.ref bs] bl me co H locs (cl9) (sl9) Q9 (F0 mm 328 ls []) := by
  refine z_aload_n E hl 1 rfl dL_law_328 rfl ?_
  refine z_aload_n E hl 0 rfl dL_law_329 rfl ?_
  refine z_iload E hl 4 rfl dL_law_330 ?_
  refine z_iconst E dL_law_332 ?_
  refine z_iadd E dL_law_333 ?_
  refine z_sld E S9 G (i + 1) (by omega) (by omega) dL_law_334 ?_
  refine z_eq (y := a) hx1 ?_
  refine z_aload_n E hl 0 rfl dL_law_335 rfl ?_
  refine z_iload E hl 4 rfl dL_law_336 ?_
  refine z_iconst E dL_law_338 ?_
  refine z_iadd E dL_law_339 ?_
  refine z_sld E S9 G (i + 2) (by omega) (by omega) dL_law_340 ?_
  refine z_eq (y := b) hx2 ?_
  refine z_aload_n E hl 0 rfl dL_law_341 rfl ?_
  refine z_iload E hl 4 rfl dL_law_342 ?_
  refine z_iconst E dL_law_344 ?_
  refine z_iadd E dL_law_345 ?_
  refine z_sld E S9 G (i + 3) (by omega) (by omega) dL_law_346 ?_
  refine z_eq (y := d) hx3 ?_
  refine z_aload_n E hl 3 rfl dL_law_347 rfl ?_
  refine z_callL (n := 5) (pre := [(mo, .inr (5, [.int (iI (th)), .int (iI (((n : Nat) : Int))), .ref mnw, .ref mte, .ref mge, .ref mus, .int (iI (((p : Nat) : Int))), .int (iI (((st : Nat) : Int))), .int (iI (cc)), .int (iI (bc)), .ref mco, .ref mfl, .ref mba, .ref mdu, .long (lI (pot)), .long (lI (gr)), .long (lI (bk)), .int (iI (btw)), .int (iI (bhd))])), (mnw, .inl (k4 0, 19, .inl (fun i9 => iI (NW i9)))), (mte, .inl (k4 0, 912, .inl (fun i9 => iI (TE i9)))), (mge, .inl (k4 0, 288, .inl (fun i9 => iI (GE i9)))), (mus, .inl (k4 0, 288, .inl (fun i9 => iI (US i9)))), (mco, .inl (k4 0, 48, .inl (fun i9 => iI (CO i9)))), (mfl, .inl (k4 0, 2304, .inl (fun i9 => iI (FL i9)))), (mba, .inl (k4 1, 6, .inr (.inl (fun i9 => lI (BA i9))))), (mdu, .inl (k4 1, 6, .inr (.inl (fun i9 => lI (DU i9)))))]) E X G hl.1 (w_setPrices l D k4 lo lnow lsl lcl lba ldu nsh nrk h1 r1 q1 h2 r2 q2 ta sa n p st cc bc pot gr bk nw bal due S1 S2 tx sg a b d ao O hX ha hb hd) zw_157 zw_158 zw_74 zw_159 (by decide +kernel) (by decide +kernel) ⟨rfl, rfl, Nat.le_of_ble_eq_true rfl, Nat.le_of_ble_eq_true rfl⟩ rfl rfl (Nat.le_of_ble_eq_true rfl) dL_law_348 ⟨by omega, by omega⟩ (fun v9 w9 H locs hq G => ?_)
  obtain ⟨rfl, rfl⟩ := hq
  refine W.eq (g2 := F0 mm 351 ls [.int (iI (0))]) rfl ?_
  have G : zG D AA ss.heap ((mo, .inr (5, [.int (iI (th)), .int (iI (((n : Nat) : Int))), .ref mnw, .ref mte, .ref mge, .ref mus, .int (iI (((p : Nat) : Int))), .int (iI (((st : Nat) : Int))), .int (iI (cc)), .int (iI (bc)), .ref mco, .ref mfl, .ref mba, .ref mdu, .long (lI (pot)), .long (lI (gr)), .long (lI (bk)), .int (iI (btw)), .int (iI (bhd))])) :: (mnw, .inl (k4 0, 19, .inl (fun i9 => iI (NW i9)))) :: (mte, .inl (k4 0, 912, .inl (fun i9 => iI (TE i9)))) :: (mge, .inl (k4 0, 288, .inl (fun i9 => iI (GE i9)))) :: (mus, .inl (k4 0, 288, .inl (fun i9 => iI (US i9)))) :: (mco, .inl (k4 0, 48, .inl (fun i9 => iI (CO i9)))) :: (mfl, .inl (k4 0, 2304, .inl (fun i9 => iI (FL i9)))) :: (mba, .inl (k4 1, 6, .inr (.inl (fun i9 => lI (BA i9))))) :: (mdu, .inl (k4 1, 6, .inr (.inl (fun i9 => lI (DU i9))))) :: (ao, .inl (k4 1, 1, .inr (.inl (fun i9 => lI ((up O 0 (nw 3)) i9))))) :: (xW k4 lo lnow lsl lcl lba ldu nsh nrk h1 r1 q1 h2 r2 q2 ta sa n p st cc bc pot gr bk (up (up (up nw 1 (a)) 2 (b)) 3 (d)) bal due S1 S2 tx sg)) H locs := G
  refine z_istore E [(5, .int (iI (0))), (0, .ref bs), (1, .ref lo), (2, .ref mo), (3, .ref ao), (4, .int (iI (((i : Nat) : Int))))] dL_law_351 hl (by decide) rfl (fun ls hl => ?_)
  refine z_aload_n E hl 3 rfl dL_law_353 rfl ?_
  refine z_aload_n E hl 1 rfl dL_law_354 rfl ?_
  refine z_iload E hl 5 rfl dL_law_355 ?_
  refine z_iconst E dL_law_357 ?_
  refine z_iadd E dL_law_358 ?_
  refine z_sld E S9 G (i + 1) (by omega) (by omega) dL_law_359 ?_
  refine z_eq (y := a) hx1 ?_
  refine z_aload_n E hl 1 rfl dL_law_360 rfl ?_
  refine z_iload E hl 5 rfl dL_law_361 ?_
  refine z_iconst E dL_law_363 ?_
  refine z_iadd E dL_law_364 ?_
  refine z_sld E S9 G (i + 2) (by omega) (by omega) dL_law_365 ?_
  refine z_eq (y := b) hx2 ?_
  refine z_aload_n E hl 1 rfl dL_law_366 rfl ?_
  refine z_iload E hl 5 rfl dL_law_367 ?_
  refine z_iconst E dL_law_369 ?_
  refine z_iadd E dL_law_370 ?_
  refine z_sld E S9 G (i + 3) (by omega) (by omega) dL_law_371 ?_
  refine z_eq (y := d) hx3 ?_
  refine z_callV E G hl.1 (c_X5_setPrices l D k4 mo mnw mte mge mus mco mfl mba mdu th n p st cc bc pot gr bk btw bhd a b d NW (by omega) (by omega) (by omega) (by omega)) kV_L_102 ⟨rfl, rfl, Nat.le_of_ble_eq_true rfl, Nat.le_of_ble_eq_true rfl⟩ [0, 1] rfl (by decide) 0 5 rfl rfl rfl rfl rfl (Nat.le_of_ble_eq_true rfl) dL_law_372 ⟨by omega, by omega⟩ (fun v9 w9 H locs hq G => ?_)
  obtain ⟨rfl, rfl⟩ := hq
  refine W.eq (g2 := F0 mm 375 ls [.int (iI (NW 3))]) rfl ?_
  have G : zG D AA ss.heap ((mo, .inr (5, [.int (iI (0)), .int (iI (((n : Nat) : Int))), .ref mnw, .ref mte, .ref mge, .ref mus, .int (iI (((p : Nat) : Int))), .int (iI (((st : Nat) : Int))), .int (iI (cc)), .int (iI (bc)), .ref mco, .ref mfl, .ref mba, .ref mdu, .long (lI (pot)), .long (lI (gr)), .long (lI (bk)), .int (iI (btw)), .int (iI (bhd))])) :: (mnw, .inl (k4 0, 19, .inl (fun i9 => iI ((up (up (up NW 1 a) 2 b) 3 d) i9)))) :: (mte, .inl (k4 0, 912, .inl (fun i9 => iI (TE i9)))) :: (mge, .inl (k4 0, 288, .inl (fun i9 => iI (GE i9)))) :: (mus, .inl (k4 0, 288, .inl (fun i9 => iI (US i9)))) :: (mco, .inl (k4 0, 48, .inl (fun i9 => iI (CO i9)))) :: (mfl, .inl (k4 0, 2304, .inl (fun i9 => iI (FL i9)))) :: (mba, .inl (k4 1, 6, .inr (.inl (fun i9 => lI (BA i9))))) :: (mdu, .inl (k4 1, 6, .inr (.inl (fun i9 => lI (DU i9))))) :: (ao, .inl (k4 1, 1, .inr (.inl (fun i9 => lI ((up O 0 (nw 3)) i9))))) :: (xW k4 lo lnow lsl lcl lba ldu nsh nrk h1 r1 q1 h2 r2 q2 ta sa n p st cc bc pot gr bk (up (up (up nw 1 (a)) 2 (b)) 3 (d)) bal due S1 S2 tx sg)) H locs := G
  refine z_istore E [(6, .int (iI (NW 3))), (5, .int (iI (0))), (0, .ref bs), (1, .ref lo), (2, .ref mo), (3, .ref ao), (4, .int (iI (((i : Nat) : Int))))] dL_law_375 hl (by decide) rfl (fun ls hl => ?_)
  refine z_aload_n E hl 4 rfl dL_law_377 rfl ?_
  refine z_callV E G hl.1 (c_X5_thrown l D k4 mo mnw mte mge mus mco mfl mba mdu 0 n p st cc bc pot gr bk btw bhd ) kV_L_89 ⟨rfl, rfl, Nat.le_of_ble_eq_true rfl, Nat.le_of_ble_eq_true rfl⟩ [0] rfl (by decide) 0 5 rfl rfl rfl rfl rfl (Nat.le_of_ble_eq_true rfl) dL_law_378 ⟨by omega, by omega⟩ (fun v9 w9 H locs hq G => ?_)
  obtain ⟨rfl, rfl⟩ := hq
  refine W.eq (g2 := F0 mm 381 ls [.int (iI (0))]) rfl ?_
  have G : zG D AA ss.heap ((mo, .inr (5, [.int (iI (0)), .int (iI (((n : Nat) : Int))), .ref mnw, .ref mte, .ref mge, .ref mus, .int (iI (((p : Nat) : Int))), .int (iI (((st : Nat) : Int))), .int (iI (cc)), .int (iI (bc)), .ref mco, .ref mfl, .ref mba, .ref mdu, .long (lI (pot)), .long (lI (gr)), .long (lI (bk)), .int (iI (btw)), .int (iI (bhd))])) :: (mnw, .inl (k4 0, 19, .inl (fun i9 => iI ((up (up (up NW 1 a) 2 b) 3 d) i9)))) :: (mte, .inl (k4 0, 912, .inl (fun i9 => iI (TE i9)))) :: (mge, .inl (k4 0, 288, .inl (fun i9 => iI (GE i9)))) :: (mus, .inl (k4 0, 288, .inl (fun i9 => iI (US i9)))) :: (mco, .inl (k4 0, 48, .inl (fun i9 => iI (CO i9)))) :: (mfl, .inl (k4 0, 2304, .inl (fun i9 => iI (FL i9)))) :: (mba, .inl (k4 1, 6, .inr (.inl (fun i9 => lI (BA i9))))) :: (mdu, .inl (k4 1, 6, .inr (.inl (fun i9 => lI (DU i9))))) :: (ao, .inl (k4 1, 1, .inr (.inl (fun i9 => lI ((up O 0 (nw 3)) i9))))) :: (xW k4 lo lnow lsl lcl lba ldu nsh nrk h1 r1 q1 h2 r2 q2 ta sa n p st cc bc pot gr bk (up (up (up nw 1 (a)) 2 (b)) 3 (d)) bal due S1 S2 tx sg)) H locs := G
  refine z_iload E hl 1 rfl dL_law_381 ?_
  refine z_icmp_eq (tgt := 388) E dL_law_383 (by decide) (by decide) (by decide) (fun c_383 => ?_) (fun c_383 => absurd c_383 (by decide))
  refine z_iload E hl 1 rfl dL_law_388 ?_
  refine z_if_ne (tgt := 405) E dL_law_390 (by decide) (by decide) (fun c_390 => absurd c_390 (by decide)) (fun c_390 => ?_)
  refine z_aload_n E hl 5 rfl dL_law_393 rfl ?_
  refine z_iconst E dL_law_394 ?_
  refine z_lald E G 9 rfl (0) rfl (by decide) (by decide) dL_law_395 ?_
  refine z_eql (y := NW 3) (up_s.trans hans) ?_
  refine z_iload E hl 0 rfl dL_law_396 ?_
  refine z_i2l E dL_law_398 hrb ?_
  refine z_lcmp E dL_law_399 ?_
  refine z_if_eq (tgt := 405) E dL_law_400 (by decide) (lcI_rng _ _) (fun c_400 => ?_) (fun c_400 => absurd c_400 (by rw [lcI_self]; decide))
  refine z_goto (tgt := 1502) E dL_law_405 (by decide) ?_
  refine W.cs (cells' := cl9 + ((0) + (0))) (slots' := sl9 + ((0) + (0))) (by omega) (by omega) ?_
  exact kk _ _ _ G (lv_sub hl [2, 3, 4, 5, 6] rfl)

set_option maxHeartbeats 4000000 in
set_option maxRecDepth 100000 in
theorem s_setPrices_0 {pp : Program} {l : Launch} {ee : Env} {ss : State} {mm : MethodId} {bl : List Frame} {me : Method} {co : Code} {AA : Nat → Prop} {H : Heap} {locs : List Loc} {ls : Array Slot} {Q9 : State → Prop} {D : va_G} {k4 : Nat → ClassId} {bs Ls : Nat} {xs : Nat → Int32} {cl9 sl9 : Nat} (hl9 : l.stackTraces = false) (E : zE pp mm co cL_law 9 ss #[Value.ref bs] RL D k4) (X : zEL ss AA) (S9 : zSc bs Ls xs ss AA) (i : Nat) (hi5 : i + 4 < Ls) (lo lnow lsl lcl lba ldu nsh nrk h1 r1 q1 h2 r2 q2 : Nat) (ta : Nat → Nat) (sa : Nat → Nat → Nat) (n p st : Nat) (cc bc pot gr bk : Int) (nw bal due : Nat → Int) (S1 S2 : sS) (tx : Nat → Nat → Int) (sg : Nat → Nat → Nat → Int) (a : Int) (b : Int) (d : Int) (mo mnw mte mge mus mco mfl mba mdu : Nat) (th btw bhd : Int) (NW TE GE US CO FL BA DU : Nat → Int) (ao : Nat) (O : Nat → Int) (hX : xOK n p st bc nw S1 S2 tx sg) (ha : -2147483648 ≤ a ∧ a ≤ 2147483647 ∧ (a < 0 ∨ 100 < a)) (hn9 : n ≤ 6) (hp9 : p ≤ 48) (hs9 : st ≤ 48) (hcc : rng cc) (hb9 : 0 ≤ bc ∧ bc ≤ 20000) (hx1 : (xs (i + 1)).toInt = a) (hx2 : (xs (i + 2)).toInt = b) (hx3 : (xs (i + 3)).toInt = d) (hc9 : cl9 + ((1) + (0)) ≤ room_1.cells) (hs99 : sl9 + ((6) + (0)) ≤ room_1.slots) (G : zG D AA ss.heap ((mo, .inr (5, [.int (iI (th)), .int (iI (((n : Nat) : Int))), .ref mnw, .ref mte, .ref mge, .ref mus, .int (iI (((p : Nat) : Int))), .int (iI (((st : Nat) : Int))), .int (iI (cc)), .int (iI (bc)), .ref mco, .ref mfl, .ref mba, .ref mdu, .long (lI (pot)), .long (lI (gr)), .long (lI (bk)), .int (iI (btw)), .int (iI (bhd))])) :: (mnw, .inl (k4 0, 19, .inl (fun i9 => iI (NW i9)))) :: (mte, .inl (k4 0, 912, .inl (fun i9 => iI (TE i9)))) :: (mge, .inl (k4 0, 288, .inl (fun i9 => iI (GE i9)))) :: (mus, .inl (k4 0, 288, .inl (fun i9 => iI (US i9)))) :: (mco, .inl (k4 0, 48, .inl (fun i9 => iI (CO i9)))) :: (mfl, .inl (k4 0, 2304, .inl (fun i9 => iI (FL i9)))) :: (mba, .inl (k4 1, 6, .inr (.inl (fun i9 => lI (BA i9))))) :: (mdu, .inl (k4 1, 6, .inr (.inl (fun i9 => lI (DU i9))))) :: (ao, .inl (k4 1, 1, .inr (.inl (fun i9 => lI (O i9))))) :: (xW k4 lo lnow lsl lcl lba ldu nsh nrk h1 r1 q1 h2 r2 q2 ta sa n p st cc bc pot gr bk nw bal due S1 S2 tx sg)) H locs) (hl : lv_has ls 9 [(0, .ref bs), (1, .ref lo), (2, .ref mo), (3, .ref ao), (4, .int (iI (((i : Nat) : Int))))]) (kk : ∀ (H : Heap) (locs : List Loc) (ls : Array Slot), zG D AA ss.heap ((mo, .inr (5, [.int (iI (1)), .int (iI (((n : Nat) : Int))), .ref mnw, .ref mte, .ref mge, .ref mus, .int (iI (((p : Nat) : Int))), .int (iI (((st : Nat) : Int))), .int (iI (cc)), .int (iI (bc)), .ref mco, .ref mfl, .ref mba, .ref mdu, .long (lI (pot)), .long (lI (gr)), .long (lI (bk)), .int (iI (btw)), .int (iI (bhd))])) :: (mnw, .inl (k4 0, 19, .inl (fun i9 => iI (NW i9)))) :: (mte, .inl (k4 0, 912, .inl (fun i9 => iI (TE i9)))) :: (mge, .inl (k4 0, 288, .inl (fun i9 => iI (GE i9)))) :: (mus, .inl (k4 0, 288, .inl (fun i9 => iI (US i9)))) :: (mco, .inl (k4 0, 48, .inl (fun i9 => iI (CO i9)))) :: (mfl, .inl (k4 0, 2304, .inl (fun i9 => iI (FL i9)))) :: (mba, .inl (k4 1, 6, .inr (.inl (fun i9 => lI (BA i9))))) :: (mdu, .inl (k4 1, 6, .inr (.inl (fun i9 => lI (DU i9))))) :: (ao, .inl (k4 1, 1, .inr (.inl (fun i9 => lI (O i9))))) :: (xW k4 lo lnow lsl lcl lba ldu nsh nrk h1 r1 q1 h2 r2 q2 ta sa n p st cc bc pot gr bk nw bal due S1 S2 tx sg)) H locs → lv_has ls 9 [(0, .ref bs), (1, .ref lo), (2, .ref mo), (3, .ref ao), (4, .int (iI (((i : Nat) : Int))))] → W pp l ee room_1 ss mm #[Value.ref bs] bl me co H locs (cl9 + ((1) + (0))) (sl9 + ((6) + (0))) Q9 (F0 mm 1502 ls [])) : W pp l ee room_1 ss mm #[Value.ref bs] bl me co H locs (cl9) (sl9) Q9 (F0 mm 328 ls []) := by
  refine z_aload_n E hl 1 rfl dL_law_328 rfl ?_
  refine z_aload_n E hl 0 rfl dL_law_329 rfl ?_
  refine z_iload E hl 4 rfl dL_law_330 ?_
  refine z_iconst E dL_law_332 ?_
  refine z_iadd E dL_law_333 ?_
  refine z_sld E S9 G (i + 1) (by omega) (by omega) dL_law_334 ?_
  refine z_eq (y := a) hx1 ?_
  refine z_aload_n E hl 0 rfl dL_law_335 rfl ?_
  refine z_iload E hl 4 rfl dL_law_336 ?_
  refine z_iconst E dL_law_338 ?_
  refine z_iadd E dL_law_339 ?_
  refine z_sld E S9 G (i + 2) (by omega) (by omega) dL_law_340 ?_
  refine z_eq (y := b) hx2 ?_
  refine z_aload_n E hl 0 rfl dL_law_341 rfl ?_
  refine z_iload E hl 4 rfl dL_law_342 ?_
  refine z_iconst E dL_law_344 ?_
  refine z_iadd E dL_law_345 ?_
  refine z_sld E S9 G (i + 3) (by omega) (by omega) dL_law_346 ?_
  refine z_eq (y := d) hx3 ?_
  refine z_aload_n E hl 3 rfl dL_law_347 rfl ?_
  refine z_callL (n := 5) (pre := [(mo, .inr (5, [.int (iI (th)), .int (iI (((n : Nat) : Int))), .ref mnw, .ref mte, .ref mge, .ref mus, .int (iI (((p : Nat) : Int))), .int (iI (((st : Nat) : Int))), .int (iI (cc)), .int (iI (bc)), .ref mco, .ref mfl, .ref mba, .ref mdu, .long (lI (pot)), .long (lI (gr)), .long (lI (bk)), .int (iI (btw)), .int (iI (bhd))])), (mnw, .inl (k4 0, 19, .inl (fun i9 => iI (NW i9)))), (mte, .inl (k4 0, 912, .inl (fun i9 => iI (TE i9)))), (mge, .inl (k4 0, 288, .inl (fun i9 => iI (GE i9)))), (mus, .inl (k4 0, 288, .inl (fun i9 => iI (US i9)))), (mco, .inl (k4 0, 48, .inl (fun i9 => iI (CO i9)))), (mfl, .inl (k4 0, 2304, .inl (fun i9 => iI (FL i9)))), (mba, .inl (k4 1, 6, .inr (.inl (fun i9 => lI (BA i9))))), (mdu, .inl (k4 1, 6, .inr (.inl (fun i9 => lI (DU i9)))))]) E X G hl.1 (w_setPrices_0 l hl9 D k4 lo lnow lsl lcl lba ldu nsh nrk h1 r1 q1 h2 r2 q2 ta sa n p st cc bc pot gr bk nw bal due S1 S2 tx sg a b d ao O hX ha) zw_157 zw_158 zw_74 zw_159 (by decide +kernel) (by decide +kernel) ⟨rfl, rfl, Nat.le_of_ble_eq_true rfl, Nat.le_of_ble_eq_true rfl⟩ rfl rfl (Nat.le_of_ble_eq_true rfl) dL_law_348 ⟨by omega, by omega⟩ (fun v9 w9 H locs hq G => ?_)
  obtain ⟨rfl, rfl⟩ := hq
  refine W.eq (g2 := F0 mm 351 ls [.int (iI (1))]) rfl ?_
  have G : zG D AA ss.heap ((mo, .inr (5, [.int (iI (th)), .int (iI (((n : Nat) : Int))), .ref mnw, .ref mte, .ref mge, .ref mus, .int (iI (((p : Nat) : Int))), .int (iI (((st : Nat) : Int))), .int (iI (cc)), .int (iI (bc)), .ref mco, .ref mfl, .ref mba, .ref mdu, .long (lI (pot)), .long (lI (gr)), .long (lI (bk)), .int (iI (btw)), .int (iI (bhd))])) :: (mnw, .inl (k4 0, 19, .inl (fun i9 => iI (NW i9)))) :: (mte, .inl (k4 0, 912, .inl (fun i9 => iI (TE i9)))) :: (mge, .inl (k4 0, 288, .inl (fun i9 => iI (GE i9)))) :: (mus, .inl (k4 0, 288, .inl (fun i9 => iI (US i9)))) :: (mco, .inl (k4 0, 48, .inl (fun i9 => iI (CO i9)))) :: (mfl, .inl (k4 0, 2304, .inl (fun i9 => iI (FL i9)))) :: (mba, .inl (k4 1, 6, .inr (.inl (fun i9 => lI (BA i9))))) :: (mdu, .inl (k4 1, 6, .inr (.inl (fun i9 => lI (DU i9))))) :: (ao, .inl (k4 1, 1, .inr (.inl (fun i9 => lI (O i9))))) :: (xW k4 lo lnow lsl lcl lba ldu nsh nrk h1 r1 q1 h2 r2 q2 ta sa n p st cc bc pot gr bk nw bal due S1 S2 tx sg)) H locs := G
  refine z_istore E [(5, .int (iI (1))), (0, .ref bs), (1, .ref lo), (2, .ref mo), (3, .ref ao), (4, .int (iI (((i : Nat) : Int))))] dL_law_351 hl (by decide) rfl (fun ls hl => ?_)
  refine z_aload_n E hl 3 rfl dL_law_353 rfl ?_
  refine z_aload_n E hl 1 rfl dL_law_354 rfl ?_
  refine z_iload E hl 5 rfl dL_law_355 ?_
  refine z_iconst E dL_law_357 ?_
  refine z_iadd E dL_law_358 ?_
  refine z_sld E S9 G (i + 1) (by omega) (by omega) dL_law_359 ?_
  refine z_eq (y := a) hx1 ?_
  refine z_aload_n E hl 1 rfl dL_law_360 rfl ?_
  refine z_iload E hl 5 rfl dL_law_361 ?_
  refine z_iconst E dL_law_363 ?_
  refine z_iadd E dL_law_364 ?_
  refine z_sld E S9 G (i + 2) (by omega) (by omega) dL_law_365 ?_
  refine z_eq (y := b) hx2 ?_
  refine z_aload_n E hl 1 rfl dL_law_366 rfl ?_
  refine z_iload E hl 5 rfl dL_law_367 ?_
  refine z_iconst E dL_law_369 ?_
  refine z_iadd E dL_law_370 ?_
  refine z_sld E S9 G (i + 3) (by omega) (by omega) dL_law_371 ?_
  refine z_eq (y := d) hx3 ?_
  refine z_callV E G hl.1 (c_X5_setPrices_0 l D k4 mo mnw mte mge mus mco mfl mba mdu th n p st cc bc pot gr bk btw bhd a b d (by omega) (by omega)) kV_L_102 ⟨rfl, rfl, Nat.le_of_ble_eq_true rfl, Nat.le_of_ble_eq_true rfl⟩ [0] rfl (by decide) 0 5 rfl rfl rfl rfl rfl (Nat.le_of_ble_eq_true rfl) dL_law_372 ⟨by omega, by omega⟩ (fun v9 w9 H locs hq G => ?_)
  obtain ⟨rfl, rfl⟩ := hq
  refine W.eq (g2 := F0 mm 375 ls [.int (iI (0))]) rfl ?_
  have G : zG D AA ss.heap ((mo, .inr (5, [.int (iI (1)), .int (iI (((n : Nat) : Int))), .ref mnw, .ref mte, .ref mge, .ref mus, .int (iI (((p : Nat) : Int))), .int (iI (((st : Nat) : Int))), .int (iI (cc)), .int (iI (bc)), .ref mco, .ref mfl, .ref mba, .ref mdu, .long (lI (pot)), .long (lI (gr)), .long (lI (bk)), .int (iI (btw)), .int (iI (bhd))])) :: (mnw, .inl (k4 0, 19, .inl (fun i9 => iI (NW i9)))) :: (mte, .inl (k4 0, 912, .inl (fun i9 => iI (TE i9)))) :: (mge, .inl (k4 0, 288, .inl (fun i9 => iI (GE i9)))) :: (mus, .inl (k4 0, 288, .inl (fun i9 => iI (US i9)))) :: (mco, .inl (k4 0, 48, .inl (fun i9 => iI (CO i9)))) :: (mfl, .inl (k4 0, 2304, .inl (fun i9 => iI (FL i9)))) :: (mba, .inl (k4 1, 6, .inr (.inl (fun i9 => lI (BA i9))))) :: (mdu, .inl (k4 1, 6, .inr (.inl (fun i9 => lI (DU i9))))) :: (ao, .inl (k4 1, 1, .inr (.inl (fun i9 => lI (O i9))))) :: (xW k4 lo lnow lsl lcl lba ldu nsh nrk h1 r1 q1 h2 r2 q2 ta sa n p st cc bc pot gr bk nw bal due S1 S2 tx sg)) H locs := G
  refine z_istore E [(6, .int (iI (0))), (5, .int (iI (1))), (0, .ref bs), (1, .ref lo), (2, .ref mo), (3, .ref ao), (4, .int (iI (((i : Nat) : Int))))] dL_law_375 hl (by decide) rfl (fun ls hl => ?_)
  refine z_aload_n E hl 4 rfl dL_law_377 rfl ?_
  refine z_callV E G hl.1 (c_X5_thrown l D k4 mo mnw mte mge mus mco mfl mba mdu 1 n p st cc bc pot gr bk btw bhd ) kV_L_89 ⟨rfl, rfl, Nat.le_of_ble_eq_true rfl, Nat.le_of_ble_eq_true rfl⟩ [0] rfl (by decide) 0 5 rfl rfl rfl rfl rfl (Nat.le_of_ble_eq_true rfl) dL_law_378 ⟨by omega, by omega⟩ (fun v9 w9 H locs hq G => ?_)
  obtain ⟨rfl, rfl⟩ := hq
  refine W.eq (g2 := F0 mm 381 ls [.int (iI (1))]) rfl ?_
  have G : zG D AA ss.heap ((mo, .inr (5, [.int (iI (1)), .int (iI (((n : Nat) : Int))), .ref mnw, .ref mte, .ref mge, .ref mus, .int (iI (((p : Nat) : Int))), .int (iI (((st : Nat) : Int))), .int (iI (cc)), .int (iI (bc)), .ref mco, .ref mfl, .ref mba, .ref mdu, .long (lI (pot)), .long (lI (gr)), .long (lI (bk)), .int (iI (btw)), .int (iI (bhd))])) :: (mnw, .inl (k4 0, 19, .inl (fun i9 => iI (NW i9)))) :: (mte, .inl (k4 0, 912, .inl (fun i9 => iI (TE i9)))) :: (mge, .inl (k4 0, 288, .inl (fun i9 => iI (GE i9)))) :: (mus, .inl (k4 0, 288, .inl (fun i9 => iI (US i9)))) :: (mco, .inl (k4 0, 48, .inl (fun i9 => iI (CO i9)))) :: (mfl, .inl (k4 0, 2304, .inl (fun i9 => iI (FL i9)))) :: (mba, .inl (k4 1, 6, .inr (.inl (fun i9 => lI (BA i9))))) :: (mdu, .inl (k4 1, 6, .inr (.inl (fun i9 => lI (DU i9))))) :: (ao, .inl (k4 1, 1, .inr (.inl (fun i9 => lI (O i9))))) :: (xW k4 lo lnow lsl lcl lba ldu nsh nrk h1 r1 q1 h2 r2 q2 ta sa n p st cc bc pot gr bk nw bal due S1 S2 tx sg)) H locs := G
  refine z_iload E hl 1 rfl dL_law_381 ?_
  refine z_icmp_eq (tgt := 388) E dL_law_383 (by decide) (by decide) (by decide) (fun c_383 => ?_) (fun c_383 => absurd c_383 (by decide))
  refine z_iload E hl 1 rfl dL_law_388 ?_
  refine z_if_ne (tgt := 405) E dL_law_390 (by decide) (by decide) (fun c_390 => ?_) (fun c_390 => absurd c_390 (by decide))
  refine z_goto (tgt := 1502) E dL_law_405 (by decide) ?_
  refine W.cs (cells' := cl9 + ((1) + (0))) (slots' := sl9 + ((6) + (0))) (by omega) (by omega) ?_
  exact kk _ _ _ G (lv_sub hl [2, 3, 4, 5, 6] rfl)

set_option maxHeartbeats 4000000 in
set_option maxRecDepth 100000 in
theorem s_setPrices_1 {pp : Program} {l : Launch} {ee : Env} {ss : State} {mm : MethodId} {bl : List Frame} {me : Method} {co : Code} {AA : Nat → Prop} {H : Heap} {locs : List Loc} {ls : Array Slot} {Q9 : State → Prop} {D : va_G} {k4 : Nat → ClassId} {bs Ls : Nat} {xs : Nat → Int32} {cl9 sl9 : Nat} (hl9 : l.stackTraces = false) (E : zE pp mm co cL_law 9 ss #[Value.ref bs] RL D k4) (X : zEL ss AA) (S9 : zSc bs Ls xs ss AA) (i : Nat) (hi5 : i + 4 < Ls) (lo lnow lsl lcl lba ldu nsh nrk h1 r1 q1 h2 r2 q2 : Nat) (ta : Nat → Nat) (sa : Nat → Nat → Nat) (n p st : Nat) (cc bc pot gr bk : Int) (nw bal due : Nat → Int) (S1 S2 : sS) (tx : Nat → Nat → Int) (sg : Nat → Nat → Nat → Int) (a : Int) (b : Int) (d : Int) (mo mnw mte mge mus mco mfl mba mdu : Nat) (th btw bhd : Int) (NW TE GE US CO FL BA DU : Nat → Int) (ao : Nat) (O : Nat → Int) (hX : xOK n p st bc nw S1 S2 tx sg) (ha : 0 ≤ a ∧ a ≤ 100) (hb : -2147483648 ≤ b ∧ b ≤ 2147483647 ∧ (b < 0 ∨ 100 < b)) (hn9 : n ≤ 6) (hp9 : p ≤ 48) (hs9 : st ≤ 48) (hcc : rng cc) (hb9 : 0 ≤ bc ∧ bc ≤ 20000) (hx1 : (xs (i + 1)).toInt = a) (hx2 : (xs (i + 2)).toInt = b) (hx3 : (xs (i + 3)).toInt = d) (hc9 : cl9 + ((1) + (0)) ≤ room_1.cells) (hs99 : sl9 + ((6) + (0)) ≤ room_1.slots) (G : zG D AA ss.heap ((mo, .inr (5, [.int (iI (th)), .int (iI (((n : Nat) : Int))), .ref mnw, .ref mte, .ref mge, .ref mus, .int (iI (((p : Nat) : Int))), .int (iI (((st : Nat) : Int))), .int (iI (cc)), .int (iI (bc)), .ref mco, .ref mfl, .ref mba, .ref mdu, .long (lI (pot)), .long (lI (gr)), .long (lI (bk)), .int (iI (btw)), .int (iI (bhd))])) :: (mnw, .inl (k4 0, 19, .inl (fun i9 => iI (NW i9)))) :: (mte, .inl (k4 0, 912, .inl (fun i9 => iI (TE i9)))) :: (mge, .inl (k4 0, 288, .inl (fun i9 => iI (GE i9)))) :: (mus, .inl (k4 0, 288, .inl (fun i9 => iI (US i9)))) :: (mco, .inl (k4 0, 48, .inl (fun i9 => iI (CO i9)))) :: (mfl, .inl (k4 0, 2304, .inl (fun i9 => iI (FL i9)))) :: (mba, .inl (k4 1, 6, .inr (.inl (fun i9 => lI (BA i9))))) :: (mdu, .inl (k4 1, 6, .inr (.inl (fun i9 => lI (DU i9))))) :: (ao, .inl (k4 1, 1, .inr (.inl (fun i9 => lI (O i9))))) :: (xW k4 lo lnow lsl lcl lba ldu nsh nrk h1 r1 q1 h2 r2 q2 ta sa n p st cc bc pot gr bk nw bal due S1 S2 tx sg)) H locs) (hl : lv_has ls 9 [(0, .ref bs), (1, .ref lo), (2, .ref mo), (3, .ref ao), (4, .int (iI (((i : Nat) : Int))))]) (kk : ∀ (H : Heap) (locs : List Loc) (ls : Array Slot), zG D AA ss.heap ((mo, .inr (5, [.int (iI (1)), .int (iI (((n : Nat) : Int))), .ref mnw, .ref mte, .ref mge, .ref mus, .int (iI (((p : Nat) : Int))), .int (iI (((st : Nat) : Int))), .int (iI (cc)), .int (iI (bc)), .ref mco, .ref mfl, .ref mba, .ref mdu, .long (lI (pot)), .long (lI (gr)), .long (lI (bk)), .int (iI (btw)), .int (iI (bhd))])) :: (mnw, .inl (k4 0, 19, .inl (fun i9 => iI (NW i9)))) :: (mte, .inl (k4 0, 912, .inl (fun i9 => iI (TE i9)))) :: (mge, .inl (k4 0, 288, .inl (fun i9 => iI (GE i9)))) :: (mus, .inl (k4 0, 288, .inl (fun i9 => iI (US i9)))) :: (mco, .inl (k4 0, 48, .inl (fun i9 => iI (CO i9)))) :: (mfl, .inl (k4 0, 2304, .inl (fun i9 => iI (FL i9)))) :: (mba, .inl (k4 1, 6, .inr (.inl (fun i9 => lI (BA i9))))) :: (mdu, .inl (k4 1, 6, .inr (.inl (fun i9 => lI (DU i9))))) :: (ao, .inl (k4 1, 1, .inr (.inl (fun i9 => lI (O i9))))) :: (xW k4 lo lnow lsl lcl lba ldu nsh nrk h1 r1 q1 h2 r2 q2 ta sa n p st cc bc pot gr bk nw bal due S1 S2 tx sg)) H locs → lv_has ls 9 [(0, .ref bs), (1, .ref lo), (2, .ref mo), (3, .ref ao), (4, .int (iI (((i : Nat) : Int))))] → W pp l ee room_1 ss mm #[Value.ref bs] bl me co H locs (cl9 + ((1) + (0))) (sl9 + ((6) + (0))) Q9 (F0 mm 1502 ls [])) : W pp l ee room_1 ss mm #[Value.ref bs] bl me co H locs (cl9) (sl9) Q9 (F0 mm 328 ls []) := by
  refine z_aload_n E hl 1 rfl dL_law_328 rfl ?_
  refine z_aload_n E hl 0 rfl dL_law_329 rfl ?_
  refine z_iload E hl 4 rfl dL_law_330 ?_
  refine z_iconst E dL_law_332 ?_
  refine z_iadd E dL_law_333 ?_
  refine z_sld E S9 G (i + 1) (by omega) (by omega) dL_law_334 ?_
  refine z_eq (y := a) hx1 ?_
  refine z_aload_n E hl 0 rfl dL_law_335 rfl ?_
  refine z_iload E hl 4 rfl dL_law_336 ?_
  refine z_iconst E dL_law_338 ?_
  refine z_iadd E dL_law_339 ?_
  refine z_sld E S9 G (i + 2) (by omega) (by omega) dL_law_340 ?_
  refine z_eq (y := b) hx2 ?_
  refine z_aload_n E hl 0 rfl dL_law_341 rfl ?_
  refine z_iload E hl 4 rfl dL_law_342 ?_
  refine z_iconst E dL_law_344 ?_
  refine z_iadd E dL_law_345 ?_
  refine z_sld E S9 G (i + 3) (by omega) (by omega) dL_law_346 ?_
  refine z_eq (y := d) hx3 ?_
  refine z_aload_n E hl 3 rfl dL_law_347 rfl ?_
  refine z_callL (n := 5) (pre := [(mo, .inr (5, [.int (iI (th)), .int (iI (((n : Nat) : Int))), .ref mnw, .ref mte, .ref mge, .ref mus, .int (iI (((p : Nat) : Int))), .int (iI (((st : Nat) : Int))), .int (iI (cc)), .int (iI (bc)), .ref mco, .ref mfl, .ref mba, .ref mdu, .long (lI (pot)), .long (lI (gr)), .long (lI (bk)), .int (iI (btw)), .int (iI (bhd))])), (mnw, .inl (k4 0, 19, .inl (fun i9 => iI (NW i9)))), (mte, .inl (k4 0, 912, .inl (fun i9 => iI (TE i9)))), (mge, .inl (k4 0, 288, .inl (fun i9 => iI (GE i9)))), (mus, .inl (k4 0, 288, .inl (fun i9 => iI (US i9)))), (mco, .inl (k4 0, 48, .inl (fun i9 => iI (CO i9)))), (mfl, .inl (k4 0, 2304, .inl (fun i9 => iI (FL i9)))), (mba, .inl (k4 1, 6, .inr (.inl (fun i9 => lI (BA i9))))), (mdu, .inl (k4 1, 6, .inr (.inl (fun i9 => lI (DU i9)))))]) E X G hl.1 (w_setPrices_1 l hl9 D k4 lo lnow lsl lcl lba ldu nsh nrk h1 r1 q1 h2 r2 q2 ta sa n p st cc bc pot gr bk nw bal due S1 S2 tx sg a b d ao O hX ha hb) zw_157 zw_158 zw_74 zw_159 (by decide +kernel) (by decide +kernel) ⟨rfl, rfl, Nat.le_of_ble_eq_true rfl, Nat.le_of_ble_eq_true rfl⟩ rfl rfl (Nat.le_of_ble_eq_true rfl) dL_law_348 ⟨by omega, by omega⟩ (fun v9 w9 H locs hq G => ?_)
  obtain ⟨rfl, rfl⟩ := hq
  refine W.eq (g2 := F0 mm 351 ls [.int (iI (1))]) rfl ?_
  have G : zG D AA ss.heap ((mo, .inr (5, [.int (iI (th)), .int (iI (((n : Nat) : Int))), .ref mnw, .ref mte, .ref mge, .ref mus, .int (iI (((p : Nat) : Int))), .int (iI (((st : Nat) : Int))), .int (iI (cc)), .int (iI (bc)), .ref mco, .ref mfl, .ref mba, .ref mdu, .long (lI (pot)), .long (lI (gr)), .long (lI (bk)), .int (iI (btw)), .int (iI (bhd))])) :: (mnw, .inl (k4 0, 19, .inl (fun i9 => iI (NW i9)))) :: (mte, .inl (k4 0, 912, .inl (fun i9 => iI (TE i9)))) :: (mge, .inl (k4 0, 288, .inl (fun i9 => iI (GE i9)))) :: (mus, .inl (k4 0, 288, .inl (fun i9 => iI (US i9)))) :: (mco, .inl (k4 0, 48, .inl (fun i9 => iI (CO i9)))) :: (mfl, .inl (k4 0, 2304, .inl (fun i9 => iI (FL i9)))) :: (mba, .inl (k4 1, 6, .inr (.inl (fun i9 => lI (BA i9))))) :: (mdu, .inl (k4 1, 6, .inr (.inl (fun i9 => lI (DU i9))))) :: (ao, .inl (k4 1, 1, .inr (.inl (fun i9 => lI (O i9))))) :: (xW k4 lo lnow lsl lcl lba ldu nsh nrk h1 r1 q1 h2 r2 q2 ta sa n p st cc bc pot gr bk nw bal due S1 S2 tx sg)) H locs := G
  refine z_istore E [(5, .int (iI (1))), (0, .ref bs), (1, .ref lo), (2, .ref mo), (3, .ref ao), (4, .int (iI (((i : Nat) : Int))))] dL_law_351 hl (by decide) rfl (fun ls hl => ?_)
  refine z_aload_n E hl 3 rfl dL_law_353 rfl ?_
  refine z_aload_n E hl 1 rfl dL_law_354 rfl ?_
  refine z_iload E hl 5 rfl dL_law_355 ?_
  refine z_iconst E dL_law_357 ?_
  refine z_iadd E dL_law_358 ?_
  refine z_sld E S9 G (i + 1) (by omega) (by omega) dL_law_359 ?_
  refine z_eq (y := a) hx1 ?_
  refine z_aload_n E hl 1 rfl dL_law_360 rfl ?_
  refine z_iload E hl 5 rfl dL_law_361 ?_
  refine z_iconst E dL_law_363 ?_
  refine z_iadd E dL_law_364 ?_
  refine z_sld E S9 G (i + 2) (by omega) (by omega) dL_law_365 ?_
  refine z_eq (y := b) hx2 ?_
  refine z_aload_n E hl 1 rfl dL_law_366 rfl ?_
  refine z_iload E hl 5 rfl dL_law_367 ?_
  refine z_iconst E dL_law_369 ?_
  refine z_iadd E dL_law_370 ?_
  refine z_sld E S9 G (i + 3) (by omega) (by omega) dL_law_371 ?_
  refine z_eq (y := d) hx3 ?_
  refine z_callV E G hl.1 (c_X5_setPrices_1 l D k4 mo mnw mte mge mus mco mfl mba mdu th n p st cc bc pot gr bk btw bhd a b d (by omega) (by omega) (by omega)) kV_L_102 ⟨rfl, rfl, Nat.le_of_ble_eq_true rfl, Nat.le_of_ble_eq_true rfl⟩ [0] rfl (by decide) 0 5 rfl rfl rfl rfl rfl (Nat.le_of_ble_eq_true rfl) dL_law_372 ⟨by omega, by omega⟩ (fun v9 w9 H locs hq G => ?_)
  obtain ⟨rfl, rfl⟩ := hq
  refine W.eq (g2 := F0 mm 375 ls [.int (iI (0))]) rfl ?_
  have G : zG D AA ss.heap ((mo, .inr (5, [.int (iI (1)), .int (iI (((n : Nat) : Int))), .ref mnw, .ref mte, .ref mge, .ref mus, .int (iI (((p : Nat) : Int))), .int (iI (((st : Nat) : Int))), .int (iI (cc)), .int (iI (bc)), .ref mco, .ref mfl, .ref mba, .ref mdu, .long (lI (pot)), .long (lI (gr)), .long (lI (bk)), .int (iI (btw)), .int (iI (bhd))])) :: (mnw, .inl (k4 0, 19, .inl (fun i9 => iI (NW i9)))) :: (mte, .inl (k4 0, 912, .inl (fun i9 => iI (TE i9)))) :: (mge, .inl (k4 0, 288, .inl (fun i9 => iI (GE i9)))) :: (mus, .inl (k4 0, 288, .inl (fun i9 => iI (US i9)))) :: (mco, .inl (k4 0, 48, .inl (fun i9 => iI (CO i9)))) :: (mfl, .inl (k4 0, 2304, .inl (fun i9 => iI (FL i9)))) :: (mba, .inl (k4 1, 6, .inr (.inl (fun i9 => lI (BA i9))))) :: (mdu, .inl (k4 1, 6, .inr (.inl (fun i9 => lI (DU i9))))) :: (ao, .inl (k4 1, 1, .inr (.inl (fun i9 => lI (O i9))))) :: (xW k4 lo lnow lsl lcl lba ldu nsh nrk h1 r1 q1 h2 r2 q2 ta sa n p st cc bc pot gr bk nw bal due S1 S2 tx sg)) H locs := G
  refine z_istore E [(6, .int (iI (0))), (5, .int (iI (1))), (0, .ref bs), (1, .ref lo), (2, .ref mo), (3, .ref ao), (4, .int (iI (((i : Nat) : Int))))] dL_law_375 hl (by decide) rfl (fun ls hl => ?_)
  refine z_aload_n E hl 4 rfl dL_law_377 rfl ?_
  refine z_callV E G hl.1 (c_X5_thrown l D k4 mo mnw mte mge mus mco mfl mba mdu 1 n p st cc bc pot gr bk btw bhd ) kV_L_89 ⟨rfl, rfl, Nat.le_of_ble_eq_true rfl, Nat.le_of_ble_eq_true rfl⟩ [0] rfl (by decide) 0 5 rfl rfl rfl rfl rfl (Nat.le_of_ble_eq_true rfl) dL_law_378 ⟨by omega, by omega⟩ (fun v9 w9 H locs hq G => ?_)
  obtain ⟨rfl, rfl⟩ := hq
  refine W.eq (g2 := F0 mm 381 ls [.int (iI (1))]) rfl ?_
  have G : zG D AA ss.heap ((mo, .inr (5, [.int (iI (1)), .int (iI (((n : Nat) : Int))), .ref mnw, .ref mte, .ref mge, .ref mus, .int (iI (((p : Nat) : Int))), .int (iI (((st : Nat) : Int))), .int (iI (cc)), .int (iI (bc)), .ref mco, .ref mfl, .ref mba, .ref mdu, .long (lI (pot)), .long (lI (gr)), .long (lI (bk)), .int (iI (btw)), .int (iI (bhd))])) :: (mnw, .inl (k4 0, 19, .inl (fun i9 => iI (NW i9)))) :: (mte, .inl (k4 0, 912, .inl (fun i9 => iI (TE i9)))) :: (mge, .inl (k4 0, 288, .inl (fun i9 => iI (GE i9)))) :: (mus, .inl (k4 0, 288, .inl (fun i9 => iI (US i9)))) :: (mco, .inl (k4 0, 48, .inl (fun i9 => iI (CO i9)))) :: (mfl, .inl (k4 0, 2304, .inl (fun i9 => iI (FL i9)))) :: (mba, .inl (k4 1, 6, .inr (.inl (fun i9 => lI (BA i9))))) :: (mdu, .inl (k4 1, 6, .inr (.inl (fun i9 => lI (DU i9))))) :: (ao, .inl (k4 1, 1, .inr (.inl (fun i9 => lI (O i9))))) :: (xW k4 lo lnow lsl lcl lba ldu nsh nrk h1 r1 q1 h2 r2 q2 ta sa n p st cc bc pot gr bk nw bal due S1 S2 tx sg)) H locs := G
  refine z_iload E hl 1 rfl dL_law_381 ?_
  refine z_icmp_eq (tgt := 388) E dL_law_383 (by decide) (by decide) (by decide) (fun c_383 => ?_) (fun c_383 => absurd c_383 (by decide))
  refine z_iload E hl 1 rfl dL_law_388 ?_
  refine z_if_ne (tgt := 405) E dL_law_390 (by decide) (by decide) (fun c_390 => ?_) (fun c_390 => absurd c_390 (by decide))
  refine z_goto (tgt := 1502) E dL_law_405 (by decide) ?_
  refine W.cs (cells' := cl9 + ((1) + (0))) (slots' := sl9 + ((6) + (0))) (by omega) (by omega) ?_
  exact kk _ _ _ G (lv_sub hl [2, 3, 4, 5, 6] rfl)

set_option maxHeartbeats 4000000 in
set_option maxRecDepth 100000 in
theorem s_setPrices_2 {pp : Program} {l : Launch} {ee : Env} {ss : State} {mm : MethodId} {bl : List Frame} {me : Method} {co : Code} {AA : Nat → Prop} {H : Heap} {locs : List Loc} {ls : Array Slot} {Q9 : State → Prop} {D : va_G} {k4 : Nat → ClassId} {bs Ls : Nat} {xs : Nat → Int32} {cl9 sl9 : Nat} (hl9 : l.stackTraces = false) (E : zE pp mm co cL_law 9 ss #[Value.ref bs] RL D k4) (X : zEL ss AA) (S9 : zSc bs Ls xs ss AA) (i : Nat) (hi5 : i + 4 < Ls) (lo lnow lsl lcl lba ldu nsh nrk h1 r1 q1 h2 r2 q2 : Nat) (ta : Nat → Nat) (sa : Nat → Nat → Nat) (n p st : Nat) (cc bc pot gr bk : Int) (nw bal due : Nat → Int) (S1 S2 : sS) (tx : Nat → Nat → Int) (sg : Nat → Nat → Nat → Int) (a : Int) (b : Int) (d : Int) (mo mnw mte mge mus mco mfl mba mdu : Nat) (th btw bhd : Int) (NW TE GE US CO FL BA DU : Nat → Int) (ao : Nat) (O : Nat → Int) (hX : xOK n p st bc nw S1 S2 tx sg) (ha : 0 ≤ a ∧ a ≤ 100) (hb : 0 ≤ b ∧ b ≤ 100) (hd : -2147483648 ≤ d ∧ d ≤ 2147483647 ∧ (d < 0 ∨ 100 < d)) (hn9 : n ≤ 6) (hp9 : p ≤ 48) (hs9 : st ≤ 48) (hcc : rng cc) (hb9 : 0 ≤ bc ∧ bc ≤ 20000) (hx1 : (xs (i + 1)).toInt = a) (hx2 : (xs (i + 2)).toInt = b) (hx3 : (xs (i + 3)).toInt = d) (hc9 : cl9 + ((1) + (0)) ≤ room_1.cells) (hs99 : sl9 + ((6) + (0)) ≤ room_1.slots) (G : zG D AA ss.heap ((mo, .inr (5, [.int (iI (th)), .int (iI (((n : Nat) : Int))), .ref mnw, .ref mte, .ref mge, .ref mus, .int (iI (((p : Nat) : Int))), .int (iI (((st : Nat) : Int))), .int (iI (cc)), .int (iI (bc)), .ref mco, .ref mfl, .ref mba, .ref mdu, .long (lI (pot)), .long (lI (gr)), .long (lI (bk)), .int (iI (btw)), .int (iI (bhd))])) :: (mnw, .inl (k4 0, 19, .inl (fun i9 => iI (NW i9)))) :: (mte, .inl (k4 0, 912, .inl (fun i9 => iI (TE i9)))) :: (mge, .inl (k4 0, 288, .inl (fun i9 => iI (GE i9)))) :: (mus, .inl (k4 0, 288, .inl (fun i9 => iI (US i9)))) :: (mco, .inl (k4 0, 48, .inl (fun i9 => iI (CO i9)))) :: (mfl, .inl (k4 0, 2304, .inl (fun i9 => iI (FL i9)))) :: (mba, .inl (k4 1, 6, .inr (.inl (fun i9 => lI (BA i9))))) :: (mdu, .inl (k4 1, 6, .inr (.inl (fun i9 => lI (DU i9))))) :: (ao, .inl (k4 1, 1, .inr (.inl (fun i9 => lI (O i9))))) :: (xW k4 lo lnow lsl lcl lba ldu nsh nrk h1 r1 q1 h2 r2 q2 ta sa n p st cc bc pot gr bk nw bal due S1 S2 tx sg)) H locs) (hl : lv_has ls 9 [(0, .ref bs), (1, .ref lo), (2, .ref mo), (3, .ref ao), (4, .int (iI (((i : Nat) : Int))))]) (kk : ∀ (H : Heap) (locs : List Loc) (ls : Array Slot), zG D AA ss.heap ((mo, .inr (5, [.int (iI (1)), .int (iI (((n : Nat) : Int))), .ref mnw, .ref mte, .ref mge, .ref mus, .int (iI (((p : Nat) : Int))), .int (iI (((st : Nat) : Int))), .int (iI (cc)), .int (iI (bc)), .ref mco, .ref mfl, .ref mba, .ref mdu, .long (lI (pot)), .long (lI (gr)), .long (lI (bk)), .int (iI (btw)), .int (iI (bhd))])) :: (mnw, .inl (k4 0, 19, .inl (fun i9 => iI (NW i9)))) :: (mte, .inl (k4 0, 912, .inl (fun i9 => iI (TE i9)))) :: (mge, .inl (k4 0, 288, .inl (fun i9 => iI (GE i9)))) :: (mus, .inl (k4 0, 288, .inl (fun i9 => iI (US i9)))) :: (mco, .inl (k4 0, 48, .inl (fun i9 => iI (CO i9)))) :: (mfl, .inl (k4 0, 2304, .inl (fun i9 => iI (FL i9)))) :: (mba, .inl (k4 1, 6, .inr (.inl (fun i9 => lI (BA i9))))) :: (mdu, .inl (k4 1, 6, .inr (.inl (fun i9 => lI (DU i9))))) :: (ao, .inl (k4 1, 1, .inr (.inl (fun i9 => lI (O i9))))) :: (xW k4 lo lnow lsl lcl lba ldu nsh nrk h1 r1 q1 h2 r2 q2 ta sa n p st cc bc pot gr bk nw bal due S1 S2 tx sg)) H locs → lv_has ls 9 [(0, .ref bs), (1, .ref lo), (2, .ref mo), (3, .ref ao), (4, .int (iI (((i : Nat) : Int))))] → W pp l ee room_1 ss mm #[Value.ref bs] bl me co H locs (cl9 + ((1) + (0))) (sl9 + ((6) + (0))) Q9 (F0 mm 1502 ls [])) : W pp l ee room_1 ss mm #[Value.ref bs] bl me co H locs (cl9) (sl9) Q9 (F0 mm 328 ls []) := by
  refine z_aload_n E hl 1 rfl dL_law_328 rfl ?_
  refine z_aload_n E hl 0 rfl dL_law_329 rfl ?_
  refine z_iload E hl 4 rfl dL_law_330 ?_
  refine z_iconst E dL_law_332 ?_
  refine z_iadd E dL_law_333 ?_
  refine z_sld E S9 G (i + 1) (by omega) (by omega) dL_law_334 ?_
  refine z_eq (y := a) hx1 ?_
  refine z_aload_n E hl 0 rfl dL_law_335 rfl ?_
  refine z_iload E hl 4 rfl dL_law_336 ?_
  refine z_iconst E dL_law_338 ?_
  refine z_iadd E dL_law_339 ?_
  refine z_sld E S9 G (i + 2) (by omega) (by omega) dL_law_340 ?_
  refine z_eq (y := b) hx2 ?_
  refine z_aload_n E hl 0 rfl dL_law_341 rfl ?_
  refine z_iload E hl 4 rfl dL_law_342 ?_
  refine z_iconst E dL_law_344 ?_
  refine z_iadd E dL_law_345 ?_
  refine z_sld E S9 G (i + 3) (by omega) (by omega) dL_law_346 ?_
  refine z_eq (y := d) hx3 ?_
  refine z_aload_n E hl 3 rfl dL_law_347 rfl ?_
  refine z_callL (n := 5) (pre := [(mo, .inr (5, [.int (iI (th)), .int (iI (((n : Nat) : Int))), .ref mnw, .ref mte, .ref mge, .ref mus, .int (iI (((p : Nat) : Int))), .int (iI (((st : Nat) : Int))), .int (iI (cc)), .int (iI (bc)), .ref mco, .ref mfl, .ref mba, .ref mdu, .long (lI (pot)), .long (lI (gr)), .long (lI (bk)), .int (iI (btw)), .int (iI (bhd))])), (mnw, .inl (k4 0, 19, .inl (fun i9 => iI (NW i9)))), (mte, .inl (k4 0, 912, .inl (fun i9 => iI (TE i9)))), (mge, .inl (k4 0, 288, .inl (fun i9 => iI (GE i9)))), (mus, .inl (k4 0, 288, .inl (fun i9 => iI (US i9)))), (mco, .inl (k4 0, 48, .inl (fun i9 => iI (CO i9)))), (mfl, .inl (k4 0, 2304, .inl (fun i9 => iI (FL i9)))), (mba, .inl (k4 1, 6, .inr (.inl (fun i9 => lI (BA i9))))), (mdu, .inl (k4 1, 6, .inr (.inl (fun i9 => lI (DU i9)))))]) E X G hl.1 (w_setPrices_2 l hl9 D k4 lo lnow lsl lcl lba ldu nsh nrk h1 r1 q1 h2 r2 q2 ta sa n p st cc bc pot gr bk nw bal due S1 S2 tx sg a b d ao O hX ha hb hd) zw_157 zw_158 zw_74 zw_159 (by decide +kernel) (by decide +kernel) ⟨rfl, rfl, Nat.le_of_ble_eq_true rfl, Nat.le_of_ble_eq_true rfl⟩ rfl rfl (Nat.le_of_ble_eq_true rfl) dL_law_348 ⟨by omega, by omega⟩ (fun v9 w9 H locs hq G => ?_)
  obtain ⟨rfl, rfl⟩ := hq
  refine W.eq (g2 := F0 mm 351 ls [.int (iI (1))]) rfl ?_
  have G : zG D AA ss.heap ((mo, .inr (5, [.int (iI (th)), .int (iI (((n : Nat) : Int))), .ref mnw, .ref mte, .ref mge, .ref mus, .int (iI (((p : Nat) : Int))), .int (iI (((st : Nat) : Int))), .int (iI (cc)), .int (iI (bc)), .ref mco, .ref mfl, .ref mba, .ref mdu, .long (lI (pot)), .long (lI (gr)), .long (lI (bk)), .int (iI (btw)), .int (iI (bhd))])) :: (mnw, .inl (k4 0, 19, .inl (fun i9 => iI (NW i9)))) :: (mte, .inl (k4 0, 912, .inl (fun i9 => iI (TE i9)))) :: (mge, .inl (k4 0, 288, .inl (fun i9 => iI (GE i9)))) :: (mus, .inl (k4 0, 288, .inl (fun i9 => iI (US i9)))) :: (mco, .inl (k4 0, 48, .inl (fun i9 => iI (CO i9)))) :: (mfl, .inl (k4 0, 2304, .inl (fun i9 => iI (FL i9)))) :: (mba, .inl (k4 1, 6, .inr (.inl (fun i9 => lI (BA i9))))) :: (mdu, .inl (k4 1, 6, .inr (.inl (fun i9 => lI (DU i9))))) :: (ao, .inl (k4 1, 1, .inr (.inl (fun i9 => lI (O i9))))) :: (xW k4 lo lnow lsl lcl lba ldu nsh nrk h1 r1 q1 h2 r2 q2 ta sa n p st cc bc pot gr bk nw bal due S1 S2 tx sg)) H locs := G
  refine z_istore E [(5, .int (iI (1))), (0, .ref bs), (1, .ref lo), (2, .ref mo), (3, .ref ao), (4, .int (iI (((i : Nat) : Int))))] dL_law_351 hl (by decide) rfl (fun ls hl => ?_)
  refine z_aload_n E hl 3 rfl dL_law_353 rfl ?_
  refine z_aload_n E hl 1 rfl dL_law_354 rfl ?_
  refine z_iload E hl 5 rfl dL_law_355 ?_
  refine z_iconst E dL_law_357 ?_
  refine z_iadd E dL_law_358 ?_
  refine z_sld E S9 G (i + 1) (by omega) (by omega) dL_law_359 ?_
  refine z_eq (y := a) hx1 ?_
  refine z_aload_n E hl 1 rfl dL_law_360 rfl ?_
  refine z_iload E hl 5 rfl dL_law_361 ?_
  refine z_iconst E dL_law_363 ?_
  refine z_iadd E dL_law_364 ?_
  refine z_sld E S9 G (i + 2) (by omega) (by omega) dL_law_365 ?_
  refine z_eq (y := b) hx2 ?_
  refine z_aload_n E hl 1 rfl dL_law_366 rfl ?_
  refine z_iload E hl 5 rfl dL_law_367 ?_
  refine z_iconst E dL_law_369 ?_
  refine z_iadd E dL_law_370 ?_
  refine z_sld E S9 G (i + 3) (by omega) (by omega) dL_law_371 ?_
  refine z_eq (y := d) hx3 ?_
  refine z_callV E G hl.1 (c_X5_setPrices_2 l D k4 mo mnw mte mge mus mco mfl mba mdu th n p st cc bc pot gr bk btw bhd a b d (by omega) (by omega) (by omega) (by omega)) kV_L_102 ⟨rfl, rfl, Nat.le_of_ble_eq_true rfl, Nat.le_of_ble_eq_true rfl⟩ [0] rfl (by decide) 0 5 rfl rfl rfl rfl rfl (Nat.le_of_ble_eq_true rfl) dL_law_372 ⟨by omega, by omega⟩ (fun v9 w9 H locs hq G => ?_)
  obtain ⟨rfl, rfl⟩ := hq
  refine W.eq (g2 := F0 mm 375 ls [.int (iI (0))]) rfl ?_
  have G : zG D AA ss.heap ((mo, .inr (5, [.int (iI (1)), .int (iI (((n : Nat) : Int))), .ref mnw, .ref mte, .ref mge, .ref mus, .int (iI (((p : Nat) : Int))), .int (iI (((st : Nat) : Int))), .int (iI (cc)), .int (iI (bc)), .ref mco, .ref mfl, .ref mba, .ref mdu, .long (lI (pot)), .long (lI (gr)), .long (lI (bk)), .int (iI (btw)), .int (iI (bhd))])) :: (mnw, .inl (k4 0, 19, .inl (fun i9 => iI (NW i9)))) :: (mte, .inl (k4 0, 912, .inl (fun i9 => iI (TE i9)))) :: (mge, .inl (k4 0, 288, .inl (fun i9 => iI (GE i9)))) :: (mus, .inl (k4 0, 288, .inl (fun i9 => iI (US i9)))) :: (mco, .inl (k4 0, 48, .inl (fun i9 => iI (CO i9)))) :: (mfl, .inl (k4 0, 2304, .inl (fun i9 => iI (FL i9)))) :: (mba, .inl (k4 1, 6, .inr (.inl (fun i9 => lI (BA i9))))) :: (mdu, .inl (k4 1, 6, .inr (.inl (fun i9 => lI (DU i9))))) :: (ao, .inl (k4 1, 1, .inr (.inl (fun i9 => lI (O i9))))) :: (xW k4 lo lnow lsl lcl lba ldu nsh nrk h1 r1 q1 h2 r2 q2 ta sa n p st cc bc pot gr bk nw bal due S1 S2 tx sg)) H locs := G
  refine z_istore E [(6, .int (iI (0))), (5, .int (iI (1))), (0, .ref bs), (1, .ref lo), (2, .ref mo), (3, .ref ao), (4, .int (iI (((i : Nat) : Int))))] dL_law_375 hl (by decide) rfl (fun ls hl => ?_)
  refine z_aload_n E hl 4 rfl dL_law_377 rfl ?_
  refine z_callV E G hl.1 (c_X5_thrown l D k4 mo mnw mte mge mus mco mfl mba mdu 1 n p st cc bc pot gr bk btw bhd ) kV_L_89 ⟨rfl, rfl, Nat.le_of_ble_eq_true rfl, Nat.le_of_ble_eq_true rfl⟩ [0] rfl (by decide) 0 5 rfl rfl rfl rfl rfl (Nat.le_of_ble_eq_true rfl) dL_law_378 ⟨by omega, by omega⟩ (fun v9 w9 H locs hq G => ?_)
  obtain ⟨rfl, rfl⟩ := hq
  refine W.eq (g2 := F0 mm 381 ls [.int (iI (1))]) rfl ?_
  have G : zG D AA ss.heap ((mo, .inr (5, [.int (iI (1)), .int (iI (((n : Nat) : Int))), .ref mnw, .ref mte, .ref mge, .ref mus, .int (iI (((p : Nat) : Int))), .int (iI (((st : Nat) : Int))), .int (iI (cc)), .int (iI (bc)), .ref mco, .ref mfl, .ref mba, .ref mdu, .long (lI (pot)), .long (lI (gr)), .long (lI (bk)), .int (iI (btw)), .int (iI (bhd))])) :: (mnw, .inl (k4 0, 19, .inl (fun i9 => iI (NW i9)))) :: (mte, .inl (k4 0, 912, .inl (fun i9 => iI (TE i9)))) :: (mge, .inl (k4 0, 288, .inl (fun i9 => iI (GE i9)))) :: (mus, .inl (k4 0, 288, .inl (fun i9 => iI (US i9)))) :: (mco, .inl (k4 0, 48, .inl (fun i9 => iI (CO i9)))) :: (mfl, .inl (k4 0, 2304, .inl (fun i9 => iI (FL i9)))) :: (mba, .inl (k4 1, 6, .inr (.inl (fun i9 => lI (BA i9))))) :: (mdu, .inl (k4 1, 6, .inr (.inl (fun i9 => lI (DU i9))))) :: (ao, .inl (k4 1, 1, .inr (.inl (fun i9 => lI (O i9))))) :: (xW k4 lo lnow lsl lcl lba ldu nsh nrk h1 r1 q1 h2 r2 q2 ta sa n p st cc bc pot gr bk nw bal due S1 S2 tx sg)) H locs := G
  refine z_iload E hl 1 rfl dL_law_381 ?_
  refine z_icmp_eq (tgt := 388) E dL_law_383 (by decide) (by decide) (by decide) (fun c_383 => ?_) (fun c_383 => absurd c_383 (by decide))
  refine z_iload E hl 1 rfl dL_law_388 ?_
  refine z_if_ne (tgt := 405) E dL_law_390 (by decide) (by decide) (fun c_390 => ?_) (fun c_390 => absurd c_390 (by decide))
  refine z_goto (tgt := 1502) E dL_law_405 (by decide) ?_
  refine W.cs (cells' := cl9 + ((1) + (0))) (slots' := sl9 + ((6) + (0))) (by omega) (by omega) ?_
  exact kk _ _ _ G (lv_sub hl [2, 3, 4, 5, 6] rfl)
