set_option maxHeartbeats 4000000 in
set_option maxRecDepth 100000 in
theorem s_correct_2 {pp : Program} {l : Launch} {ee : Env} {ss : State} {mm : MethodId} {bl : List Frame} {me : Method} {co : Code} {AA : Nat → Prop} {H : Heap} {locs : List Loc} {ls : Array Slot} {Q9 : State → Prop} {D : va_G} {k4 : Nat → ClassId} {bs Ls : Nat} {xs : Nat → Int32} {cl9 sl9 : Nat} (hl9 : l.stackTraces = false) (E : zE pp mm co cL_law 9 ss #[Value.ref bs] RL D k4) (X : zEL ss AA) (S9 : zSc bs Ls xs ss AA) (i : Nat) (hi5 : i + 4 < Ls) (lo lnow lsl lcl lba ldu nsh nrk h1 r1 q1 h2 r2 q2 : Nat) (ta : Nat → Nat) (sa : Nat → Nat → Nat) (n p st : Nat) (cc bc pot gr bk : Int) (nw bal due : Nat → Int) (S1 S2 : sS) (tx : Nat → Nat → Int) (sg : Nat → Nat → Nat → Int) (m : Nat) (k : Nat) (a : Int) (b : Int) (mo mnw mte mge mus mco mfl mba mdu : Nat) (th btw bhd : Int) (NW TE GE US CO FL BA DU : Nat → Int) (ao : Nat) (O : Nat → Int) (hX : xOK n p st bc nw S1 S2 tx sg) (hm : m < n) (hk : k < 48) (ha : -2147483648 ≤ a ∧ a ≤ 2147483647 ∧ (a < 0 ∨ 5000 < a)) (hn9 : n ≤ 6) (hp9 : p ≤ 48) (hs9 : st ≤ 48) (hcc : rng cc) (hb9 : 0 ≤ bc ∧ bc ≤ 20000) (hx1 : (xs (i + 1)).toInt = ((m : Nat) : Int)) (hx2 : (xs (i + 2)).toInt = ((k : Nat) : Int)) (hx3 : (xs (i + 3)).toInt = a) (hx4 : (xs (i + 4)).toInt = b) (hc9 : cl9 + ((1) + (0)) ≤ room_1.cells) (hs99 : sl9 + ((6) + (0)) ≤ room_1.slots) (G : zG D AA ss.heap ((mo, .inr (5, [.int (iI (th)), .int (iI (((n : Nat) : Int))), .ref mnw, .ref mte, .ref mge, .ref mus, .int (iI (((p : Nat) : Int))), .int (iI (((st : Nat) : Int))), .int (iI (cc)), .int (iI (bc)), .ref mco, .ref mfl, .ref mba, .ref mdu, .long (lI (pot)), .long (lI (gr)), .long (lI (bk)), .int (iI (btw)), .int (iI (bhd))])) :: (mnw, .inl (k4 0, 19, .inl (fun i9 => iI (NW i9)))) :: (mte, .inl (k4 0, 912, .inl (fun i9 => iI (TE i9)))) :: (mge, .inl (k4 0, 288, .inl (fun i9 => iI (GE i9)))) :: (mus, .inl (k4 0, 288, .inl (fun i9 => iI (US i9)))) :: (mco, .inl (k4 0, 48, .inl (fun i9 => iI (CO i9)))) :: (mfl, .inl (k4 0, 2304, .inl (fun i9 => iI (FL i9)))) :: (mba, .inl (k4 1, 6, .inr (.inl (fun i9 => lI (BA i9))))) :: (mdu, .inl (k4 1, 6, .inr (.inl (fun i9 => lI (DU i9))))) :: (ao, .inl (k4 1, 1, .inr (.inl (fun i9 => lI (O i9))))) :: (xW k4 lo lnow lsl lcl lba ldu nsh nrk h1 r1 q1 h2 r2 q2 ta sa n p st cc bc pot gr bk nw bal due S1 S2 tx sg)) H locs) (hl : lv_has ls 9 [(0, .ref bs), (1, .ref lo), (2, .ref mo), (3, .ref ao), (4, .int (iI (((i : Nat) : Int))))]) (kk : ∀ (H : Heap) (locs : List Loc) (ls : Array Slot), zG D AA ss.heap ((mo, .inr (5, [.int (iI (2)), .int (iI (((n : Nat) : Int))), .ref mnw, .ref mte, .ref mge, .ref mus, .int (iI (((p : Nat) : Int))), .int (iI (((st : Nat) : Int))), .int (iI (cc)), .int (iI (bc)), .ref mco, .ref mfl, .ref mba, .ref mdu, .long (lI (pot)), .long (lI (gr)), .long (lI (bk)), .int (iI (btw)), .int (iI (bhd))])) :: (mnw, .inl (k4 0, 19, .inl (fun i9 => iI (NW i9)))) :: (mte, .inl (k4 0, 912, .inl (fun i9 => iI (TE i9)))) :: (mge, .inl (k4 0, 288, .inl (fun i9 => iI (GE i9)))) :: (mus, .inl (k4 0, 288, .inl (fun i9 => iI (US i9)))) :: (mco, .inl (k4 0, 48, .inl (fun i9 => iI (CO i9)))) :: (mfl, .inl (k4 0, 2304, .inl (fun i9 => iI (FL i9)))) :: (mba, .inl (k4 1, 6, .inr (.inl (fun i9 => lI (BA i9))))) :: (mdu, .inl (k4 1, 6, .inr (.inl (fun i9 => lI (DU i9))))) :: (ao, .inl (k4 1, 1, .inr (.inl (fun i9 => lI (O i9))))) :: (xW k4 lo lnow lsl lcl lba ldu nsh nrk h1 r1 q1 h2 r2 q2 ta sa n p st cc bc pot gr bk nw bal due S1 S2 tx sg)) H locs → lv_has ls 9 [(0, .ref bs), (1, .ref lo), (2, .ref mo), (3, .ref ao), (4, .int (iI (((i : Nat) : Int))))] → W pp l ee room_1 ss mm #[Value.ref bs] bl me co H locs (cl9 + ((1) + (0))) (sl9 + ((6) + (0))) Q9 (F0 mm 1502 ls [])) : W pp l ee room_1 ss mm #[Value.ref bs] bl me co H locs (cl9) (sl9) Q9 (F0 mm 766 ls []) := by
  refine z_aload_n E hl 1 rfl dL_law_766 rfl ?_
  refine z_aload_n E hl 0 rfl dL_law_767 rfl ?_
  refine z_iload E hl 4 rfl dL_law_768 ?_
  refine z_iconst E dL_law_770 ?_
  refine z_iadd E dL_law_771 ?_
  refine z_sld E S9 G (i + 1) (by omega) (by omega) dL_law_772 ?_
  refine z_eq (y := ((m : Nat) : Int)) hx1 ?_
  refine z_aload_n E hl 0 rfl dL_law_773 rfl ?_
  refine z_iload E hl 4 rfl dL_law_774 ?_
  refine z_iconst E dL_law_776 ?_
  refine z_iadd E dL_law_777 ?_
  refine z_sld E S9 G (i + 2) (by omega) (by omega) dL_law_778 ?_
  refine z_eq (y := ((k : Nat) : Int)) hx2 ?_
  refine z_aload_n E hl 0 rfl dL_law_779 rfl ?_
  refine z_iload E hl 4 rfl dL_law_780 ?_
  refine z_iconst E dL_law_782 ?_
  refine z_iadd E dL_law_783 ?_
  refine z_sld E S9 G (i + 3) (by omega) (by omega) dL_law_784 ?_
  refine z_eq (y := a) hx3 ?_
  refine z_aload_n E hl 0 rfl dL_law_785 rfl ?_
  refine z_iload E hl 4 rfl dL_law_786 ?_
  refine z_iconst E dL_law_788 ?_
  refine z_iadd E dL_law_789 ?_
  refine z_sld E S9 G (i + 4) (by omega) (by omega) dL_law_790 ?_
  refine z_eq (y := b) hx4 ?_
  refine z_aload_n E hl 3 rfl dL_law_791 rfl ?_
  refine z_callL (n := 6) (pre := [(mo, .inr (5, [.int (iI (th)), .int (iI (((n : Nat) : Int))), .ref mnw, .ref mte, .ref mge, .ref mus, .int (iI (((p : Nat) : Int))), .int (iI (((st : Nat) : Int))), .int (iI (cc)), .int (iI (bc)), .ref mco, .ref mfl, .ref mba, .ref mdu, .long (lI (pot)), .long (lI (gr)), .long (lI (bk)), .int (iI (btw)), .int (iI (bhd))])), (mnw, .inl (k4 0, 19, .inl (fun i9 => iI (NW i9)))), (mte, .inl (k4 0, 912, .inl (fun i9 => iI (TE i9)))), (mge, .inl (k4 0, 288, .inl (fun i9 => iI (GE i9)))), (mus, .inl (k4 0, 288, .inl (fun i9 => iI (US i9)))), (mco, .inl (k4 0, 48, .inl (fun i9 => iI (CO i9)))), (mfl, .inl (k4 0, 2304, .inl (fun i9 => iI (FL i9)))), (mba, .inl (k4 1, 6, .inr (.inl (fun i9 => lI (BA i9))))), (mdu, .inl (k4 1, 6, .inr (.inl (fun i9 => lI (DU i9)))))]) E X G hl.1 (w_correct_2 l hl9 D k4 lo lnow lsl lcl lba ldu nsh nrk h1 r1 q1 h2 r2 q2 ta sa n p st cc bc pot gr bk nw bal due S1 S2 tx sg m k a b ao O hX hm hk ha) zw_476 zw_477 zw_74 zw_478 (by decide +kernel) (by decide +kernel) ⟨rfl, rfl, Nat.le_of_ble_eq_true rfl, Nat.le_of_ble_eq_true rfl⟩ rfl rfl (Nat.le_of_ble_eq_true rfl) dL_law_792 ⟨by omega, by omega⟩ (fun v9 w9 H locs hq G => ?_)
  obtain ⟨rfl, rfl⟩ := hq
  refine W.eq (g2 := F0 mm 795 ls [.int (iI (2))]) rfl ?_
  have G : zG D AA ss.heap ((mo, .inr (5, [.int (iI (th)), .int (iI (((n : Nat) : Int))), .ref mnw, .ref mte, .ref mge, .ref mus, .int (iI (((p : Nat) : Int))), .int (iI (((st : Nat) : Int))), .int (iI (cc)), .int (iI (bc)), .ref mco, .ref mfl, .ref mba, .ref mdu, .long (lI (pot)), .long (lI (gr)), .long (lI (bk)), .int (iI (btw)), .int (iI (bhd))])) :: (mnw, .inl (k4 0, 19, .inl (fun i9 => iI (NW i9)))) :: (mte, .inl (k4 0, 912, .inl (fun i9 => iI (TE i9)))) :: (mge, .inl (k4 0, 288, .inl (fun i9 => iI (GE i9)))) :: (mus, .inl (k4 0, 288, .inl (fun i9 => iI (US i9)))) :: (mco, .inl (k4 0, 48, .inl (fun i9 => iI (CO i9)))) :: (mfl, .inl (k4 0, 2304, .inl (fun i9 => iI (FL i9)))) :: (mba, .inl (k4 1, 6, .inr (.inl (fun i9 => lI (BA i9))))) :: (mdu, .inl (k4 1, 6, .inr (.inl (fun i9 => lI (DU i9))))) :: (ao, .inl (k4 1, 1, .inr (.inl (fun i9 => lI (O i9))))) :: (xW k4 lo lnow lsl lcl lba ldu nsh nrk h1 r1 q1 h2 r2 q2 ta sa n p st cc bc pot gr bk nw bal due S1 S2 tx sg)) H locs := G
  refine z_istore E [(5, .int (iI (2))), (0, .ref bs), (1, .ref lo), (2, .ref mo), (3, .ref ao), (4, .int (iI (((i : Nat) : Int))))] dL_law_795 hl (by decide) rfl (fun ls hl => ?_)
  refine z_aload_n E hl 3 rfl dL_law_797 rfl ?_
  refine z_aload_n E hl 1 rfl dL_law_798 rfl ?_
  refine z_iload E hl 5 rfl dL_law_799 ?_
  refine z_iconst E dL_law_801 ?_
  refine z_iadd E dL_law_802 ?_
  refine z_sld E S9 G (i + 1) (by omega) (by omega) dL_law_803 ?_
  refine z_eq (y := ((m : Nat) : Int)) hx1 ?_
  refine z_aload_n E hl 1 rfl dL_law_804 rfl ?_
  refine z_iload E hl 5 rfl dL_law_805 ?_
  refine z_iconst E dL_law_807 ?_
  refine z_iadd E dL_law_808 ?_
  refine z_sld E S9 G (i + 2) (by omega) (by omega) dL_law_809 ?_
  refine z_eq (y := ((k : Nat) : Int)) hx2 ?_
  refine z_aload_n E hl 1 rfl dL_law_810 rfl ?_
  refine z_iload E hl 5 rfl dL_law_811 ?_
  refine z_iconst E dL_law_813 ?_
  refine z_iadd E dL_law_814 ?_
  refine z_sld E S9 G (i + 3) (by omega) (by omega) dL_law_815 ?_
  refine z_eq (y := a) hx3 ?_
  refine z_aload_n E hl 1 rfl dL_law_816 rfl ?_
  refine z_iload E hl 5 rfl dL_law_817 ?_
  refine z_iconst E dL_law_819 ?_
  refine z_iadd E dL_law_820 ?_
  refine z_sld E S9 G (i + 4) (by omega) (by omega) dL_law_821 ?_
  refine z_eq (y := b) hx4 ?_
  refine z_callV E G hl.1 (c_X5_correct_2 l D k4 mo mnw mte mge mus mco mfl mba mdu th n p st cc bc pot gr bk btw bhd m k a b (by omega) (by omega) (by omega) (by omega)) kV_L_131 ⟨rfl, rfl, Nat.le_of_ble_eq_true rfl, Nat.le_of_ble_eq_true rfl⟩ [0] rfl (by decide) 0 5 rfl rfl rfl rfl rfl (Nat.le_of_ble_eq_true rfl) dL_law_822 ⟨by omega, by omega⟩ (fun v9 w9 H locs hq G => ?_)
  obtain ⟨rfl, rfl⟩ := hq
  refine W.eq (g2 := F0 mm 825 ls [.long (lI (0))]) rfl ?_
  have G : zG D AA ss.heap ((mo, .inr (5, [.int (iI (2)), .int (iI (((n : Nat) : Int))), .ref mnw, .ref mte, .ref mge, .ref mus, .int (iI (((p : Nat) : Int))), .int (iI (((st : Nat) : Int))), .int (iI (cc)), .int (iI (bc)), .ref mco, .ref mfl, .ref mba, .ref mdu, .long (lI (pot)), .long (lI (gr)), .long (lI (bk)), .int (iI (btw)), .int (iI (bhd))])) :: (mnw, .inl (k4 0, 19, .inl (fun i9 => iI (NW i9)))) :: (mte, .inl (k4 0, 912, .inl (fun i9 => iI (TE i9)))) :: (mge, .inl (k4 0, 288, .inl (fun i9 => iI (GE i9)))) :: (mus, .inl (k4 0, 288, .inl (fun i9 => iI (US i9)))) :: (mco, .inl (k4 0, 48, .inl (fun i9 => iI (CO i9)))) :: (mfl, .inl (k4 0, 2304, .inl (fun i9 => iI (FL i9)))) :: (mba, .inl (k4 1, 6, .inr (.inl (fun i9 => lI (BA i9))))) :: (mdu, .inl (k4 1, 6, .inr (.inl (fun i9 => lI (DU i9))))) :: (ao, .inl (k4 1, 1, .inr (.inl (fun i9 => lI (O i9))))) :: (xW k4 lo lnow lsl lcl lba ldu nsh nrk h1 r1 q1 h2 r2 q2 ta sa n p st cc bc pot gr bk nw bal due S1 S2 tx sg)) H locs := G
  refine z_lstore E [(6, .long (lI (0))), (5, .int (iI (2))), (0, .ref bs), (1, .ref lo), (2, .ref mo), (3, .ref ao), (4, .int (iI (((i : Nat) : Int))))] dL_law_825 hl (by decide) rfl (fun ls hl => ?_)
  refine z_aload_n E hl 4 rfl dL_law_827 rfl ?_
  refine z_callV E G hl.1 (c_X5_thrown l D k4 mo mnw mte mge mus mco mfl mba mdu 2 n p st cc bc pot gr bk btw bhd ) kV_L_89 ⟨rfl, rfl, Nat.le_of_ble_eq_true rfl, Nat.le_of_ble_eq_true rfl⟩ [0] rfl (by decide) 0 5 rfl rfl rfl rfl rfl (Nat.le_of_ble_eq_true rfl) dL_law_828 ⟨by omega, by omega⟩ (fun v9 w9 H locs hq G => ?_)
  obtain ⟨rfl, rfl⟩ := hq
  refine W.eq (g2 := F0 mm 831 ls [.int (iI (2))]) rfl ?_
  have G : zG D AA ss.heap ((mo, .inr (5, [.int (iI (2)), .int (iI (((n : Nat) : Int))), .ref mnw, .ref mte, .ref mge, .ref mus, .int (iI (((p : Nat) : Int))), .int (iI (((st : Nat) : Int))), .int (iI (cc)), .int (iI (bc)), .ref mco, .ref mfl, .ref mba, .ref mdu, .long (lI (pot)), .long (lI (gr)), .long (lI (bk)), .int (iI (btw)), .int (iI (bhd))])) :: (mnw, .inl (k4 0, 19, .inl (fun i9 => iI (NW i9)))) :: (mte, .inl (k4 0, 912, .inl (fun i9 => iI (TE i9)))) :: (mge, .inl (k4 0, 288, .inl (fun i9 => iI (GE i9)))) :: (mus, .inl (k4 0, 288, .inl (fun i9 => iI (US i9)))) :: (mco, .inl (k4 0, 48, .inl (fun i9 => iI (CO i9)))) :: (mfl, .inl (k4 0, 2304, .inl (fun i9 => iI (FL i9)))) :: (mba, .inl (k4 1, 6, .inr (.inl (fun i9 => lI (BA i9))))) :: (mdu, .inl (k4 1, 6, .inr (.inl (fun i9 => lI (DU i9))))) :: (ao, .inl (k4 1, 1, .inr (.inl (fun i9 => lI (O i9))))) :: (xW k4 lo lnow lsl lcl lba ldu nsh nrk h1 r1 q1 h2 r2 q2 ta sa n p st cc bc pot gr bk nw bal due S1 S2 tx sg)) H locs := G
  refine z_iload E hl 1 rfl dL_law_831 ?_
  refine z_icmp_eq (tgt := 838) E dL_law_833 (by decide) (by decide) (by decide) (fun c_833 => ?_) (fun c_833 => absurd c_833 (by decide))
  refine z_iload E hl 1 rfl dL_law_838 ?_
  refine z_if_ne (tgt := 854) E dL_law_840 (by decide) (by decide) (fun c_840 => ?_) (fun c_840 => absurd c_840 (by decide))
  refine z_goto (tgt := 1502) E dL_law_854 (by decide) ?_
  refine W.cs (cells' := cl9 + ((1) + (0))) (slots' := sl9 + ((6) + (0))) (by omega) (by omega) ?_
  exact kk _ _ _ G (lv_sub hl [2, 3, 4, 5, 6] rfl)

set_option maxHeartbeats 4000000 in
set_option maxRecDepth 100000 in
theorem s_correct_3 {pp : Program} {l : Launch} {ee : Env} {ss : State} {mm : MethodId} {bl : List Frame} {me : Method} {co : Code} {AA : Nat → Prop} {H : Heap} {locs : List Loc} {ls : Array Slot} {Q9 : State → Prop} {D : va_G} {k4 : Nat → ClassId} {bs Ls : Nat} {xs : Nat → Int32} {cl9 sl9 : Nat} (hl9 : l.stackTraces = false) (E : zE pp mm co cL_law 9 ss #[Value.ref bs] RL D k4) (X : zEL ss AA) (S9 : zSc bs Ls xs ss AA) (i : Nat) (hi5 : i + 4 < Ls) (lo lnow lsl lcl lba ldu nsh nrk h1 r1 q1 h2 r2 q2 : Nat) (ta : Nat → Nat) (sa : Nat → Nat → Nat) (n p st : Nat) (cc bc pot gr bk : Int) (nw bal due : Nat → Int) (S1 S2 : sS) (tx : Nat → Nat → Int) (sg : Nat → Nat → Nat → Int) (m : Nat) (k : Nat) (a : Int) (b : Int) (mo mnw mte mge mus mco mfl mba mdu : Nat) (th btw bhd : Int) (NW TE GE US CO FL BA DU : Nat → Int) (ao : Nat) (O : Nat → Int) (hX : xOK n p st bc nw S1 S2 tx sg) (hm : m < n) (hk : k < 48) (ha : 0 ≤ a ∧ a ≤ 5000) (hb : -2147483648 ≤ b ∧ b ≤ 2147483647 ∧ (b < 0 ∨ 5000 < b)) (hn9 : n ≤ 6) (hp9 : p ≤ 48) (hs9 : st ≤ 48) (hcc : rng cc) (hb9 : 0 ≤ bc ∧ bc ≤ 20000) (hx1 : (xs (i + 1)).toInt = ((m : Nat) : Int)) (hx2 : (xs (i + 2)).toInt = ((k : Nat) : Int)) (hx3 : (xs (i + 3)).toInt = a) (hx4 : (xs (i + 4)).toInt = b) (hc9 : cl9 + ((1) + (0)) ≤ room_1.cells) (hs99 : sl9 + ((6) + (0)) ≤ room_1.slots) (G : zG D AA ss.heap ((mo, .inr (5, [.int (iI (th)), .int (iI (((n : Nat) : Int))), .ref mnw, .ref mte, .ref mge, .ref mus, .int (iI (((p : Nat) : Int))), .int (iI (((st : Nat) : Int))), .int (iI (cc)), .int (iI (bc)), .ref mco, .ref mfl, .ref mba, .ref mdu, .long (lI (pot)), .long (lI (gr)), .long (lI (bk)), .int (iI (btw)), .int (iI (bhd))])) :: (mnw, .inl (k4 0, 19, .inl (fun i9 => iI (NW i9)))) :: (mte, .inl (k4 0, 912, .inl (fun i9 => iI (TE i9)))) :: (mge, .inl (k4 0, 288, .inl (fun i9 => iI (GE i9)))) :: (mus, .inl (k4 0, 288, .inl (fun i9 => iI (US i9)))) :: (mco, .inl (k4 0, 48, .inl (fun i9 => iI (CO i9)))) :: (mfl, .inl (k4 0, 2304, .inl (fun i9 => iI (FL i9)))) :: (mba, .inl (k4 1, 6, .inr (.inl (fun i9 => lI (BA i9))))) :: (mdu, .inl (k4 1, 6, .inr (.inl (fun i9 => lI (DU i9))))) :: (ao, .inl (k4 1, 1, .inr (.inl (fun i9 => lI (O i9))))) :: (xW k4 lo lnow lsl lcl lba ldu nsh nrk h1 r1 q1 h2 r2 q2 ta sa n p st cc bc pot gr bk nw bal due S1 S2 tx sg)) H locs) (hl : lv_has ls 9 [(0, .ref bs), (1, .ref lo), (2, .ref mo), (3, .ref ao), (4, .int (iI (((i : Nat) : Int))))]) (kk : ∀ (H : Heap) (locs : List Loc) (ls : Array Slot), zG D AA ss.heap ((mo, .inr (5, [.int (iI (2)), .int (iI (((n : Nat) : Int))), .ref mnw, .ref mte, .ref mge, .ref mus, .int (iI (((p : Nat) : Int))), .int (iI (((st : Nat) : Int))), .int (iI (cc)), .int (iI (bc)), .ref mco, .ref mfl, .ref mba, .ref mdu, .long (lI (pot)), .long (lI (gr)), .long (lI (bk)), .int (iI (btw)), .int (iI (bhd))])) :: (mnw, .inl (k4 0, 19, .inl (fun i9 => iI (NW i9)))) :: (mte, .inl (k4 0, 912, .inl (fun i9 => iI (TE i9)))) :: (mge, .inl (k4 0, 288, .inl (fun i9 => iI (GE i9)))) :: (mus, .inl (k4 0, 288, .inl (fun i9 => iI (US i9)))) :: (mco, .inl (k4 0, 48, .inl (fun i9 => iI (CO i9)))) :: (mfl, .inl (k4 0, 2304, .inl (fun i9 => iI (FL i9)))) :: (mba, .inl (k4 1, 6, .inr (.inl (fun i9 => lI (BA i9))))) :: (mdu, .inl (k4 1, 6, .inr (.inl (fun i9 => lI (DU i9))))) :: (ao, .inl (k4 1, 1, .inr (.inl (fun i9 => lI (O i9))))) :: (xW k4 lo lnow lsl lcl lba ldu nsh nrk h1 r1 q1 h2 r2 q2 ta sa n p st cc bc pot gr bk nw bal due S1 S2 tx sg)) H locs → lv_has ls 9 [(0, .ref bs), (1, .ref lo), (2, .ref mo), (3, .ref ao), (4, .int (iI (((i : Nat) : Int))))] → W pp l ee room_1 ss mm #[Value.ref bs] bl me co H locs (cl9 + ((1) + (0))) (sl9 + ((6) + (0))) Q9 (F0 mm 1502 ls [])) : W pp l ee room_1 ss mm #[Value.ref bs] bl me co H locs (cl9) (sl9) Q9 (F0 mm 766 ls []) := by
  refine z_aload_n E hl 1 rfl dL_law_766 rfl ?_
  refine z_aload_n E hl 0 rfl dL_law_767 rfl ?_
  refine z_iload E hl 4 rfl dL_law_768 ?_
  refine z_iconst E dL_law_770 ?_
  refine z_iadd E dL_law_771 ?_
  refine z_sld E S9 G (i + 1) (by omega) (by omega) dL_law_772 ?_
  refine z_eq (y := ((m : Nat) : Int)) hx1 ?_
  refine z_aload_n E hl 0 rfl dL_law_773 rfl ?_
  refine z_iload E hl 4 rfl dL_law_774 ?_
  refine z_iconst E dL_law_776 ?_
  refine z_iadd E dL_law_777 ?_
  refine z_sld E S9 G (i + 2) (by omega) (by omega) dL_law_778 ?_
  refine z_eq (y := ((k : Nat) : Int)) hx2 ?_
  refine z_aload_n E hl 0 rfl dL_law_779 rfl ?_
  refine z_iload E hl 4 rfl dL_law_780 ?_
  refine z_iconst E dL_law_782 ?_
  refine z_iadd E dL_law_783 ?_
  refine z_sld E S9 G (i + 3) (by omega) (by omega) dL_law_784 ?_
  refine z_eq (y := a) hx3 ?_
  refine z_aload_n E hl 0 rfl dL_law_785 rfl ?_
  refine z_iload E hl 4 rfl dL_law_786 ?_
  refine z_iconst E dL_law_788 ?_
  refine z_iadd E dL_law_789 ?_
  refine z_sld E S9 G (i + 4) (by omega) (by omega) dL_law_790 ?_
  refine z_eq (y := b) hx4 ?_
  refine z_aload_n E hl 3 rfl dL_law_791 rfl ?_
  refine z_callL (n := 6) (pre := [(mo, .inr (5, [.int (iI (th)), .int (iI (((n : Nat) : Int))), .ref mnw, .ref mte, .ref mge, .ref mus, .int (iI (((p : Nat) : Int))), .int (iI (((st : Nat) : Int))), .int (iI (cc)), .int (iI (bc)), .ref mco, .ref mfl, .ref mba, .ref mdu, .long (lI (pot)), .long (lI (gr)), .long (lI (bk)), .int (iI (btw)), .int (iI (bhd))])), (mnw, .inl (k4 0, 19, .inl (fun i9 => iI (NW i9)))), (mte, .inl (k4 0, 912, .inl (fun i9 => iI (TE i9)))), (mge, .inl (k4 0, 288, .inl (fun i9 => iI (GE i9)))), (mus, .inl (k4 0, 288, .inl (fun i9 => iI (US i9)))), (mco, .inl (k4 0, 48, .inl (fun i9 => iI (CO i9)))), (mfl, .inl (k4 0, 2304, .inl (fun i9 => iI (FL i9)))), (mba, .inl (k4 1, 6, .inr (.inl (fun i9 => lI (BA i9))))), (mdu, .inl (k4 1, 6, .inr (.inl (fun i9 => lI (DU i9)))))]) E X G hl.1 (w_correct_3 l hl9 D k4 lo lnow lsl lcl lba ldu nsh nrk h1 r1 q1 h2 r2 q2 ta sa n p st cc bc pot gr bk nw bal due S1 S2 tx sg m k a b ao O hX hm hk ha hb) zw_476 zw_477 zw_74 zw_478 (by decide +kernel) (by decide +kernel) ⟨rfl, rfl, Nat.le_of_ble_eq_true rfl, Nat.le_of_ble_eq_true rfl⟩ rfl rfl (Nat.le_of_ble_eq_true rfl) dL_law_792 ⟨by omega, by omega⟩ (fun v9 w9 H locs hq G => ?_)
  obtain ⟨rfl, rfl⟩ := hq
  refine W.eq (g2 := F0 mm 795 ls [.int (iI (2))]) rfl ?_
  have G : zG D AA ss.heap ((mo, .inr (5, [.int (iI (th)), .int (iI (((n : Nat) : Int))), .ref mnw, .ref mte, .ref mge, .ref mus, .int (iI (((p : Nat) : Int))), .int (iI (((st : Nat) : Int))), .int (iI (cc)), .int (iI (bc)), .ref mco, .ref mfl, .ref mba, .ref mdu, .long (lI (pot)), .long (lI (gr)), .long (lI (bk)), .int (iI (btw)), .int (iI (bhd))])) :: (mnw, .inl (k4 0, 19, .inl (fun i9 => iI (NW i9)))) :: (mte, .inl (k4 0, 912, .inl (fun i9 => iI (TE i9)))) :: (mge, .inl (k4 0, 288, .inl (fun i9 => iI (GE i9)))) :: (mus, .inl (k4 0, 288, .inl (fun i9 => iI (US i9)))) :: (mco, .inl (k4 0, 48, .inl (fun i9 => iI (CO i9)))) :: (mfl, .inl (k4 0, 2304, .inl (fun i9 => iI (FL i9)))) :: (mba, .inl (k4 1, 6, .inr (.inl (fun i9 => lI (BA i9))))) :: (mdu, .inl (k4 1, 6, .inr (.inl (fun i9 => lI (DU i9))))) :: (ao, .inl (k4 1, 1, .inr (.inl (fun i9 => lI (O i9))))) :: (xW k4 lo lnow lsl lcl lba ldu nsh nrk h1 r1 q1 h2 r2 q2 ta sa n p st cc bc pot gr bk nw bal due S1 S2 tx sg)) H locs := G
  refine z_istore E [(5, .int (iI (2))), (0, .ref bs), (1, .ref lo), (2, .ref mo), (3, .ref ao), (4, .int (iI (((i : Nat) : Int))))] dL_law_795 hl (by decide) rfl (fun ls hl => ?_)
  refine z_aload_n E hl 3 rfl dL_law_797 rfl ?_
  refine z_aload_n E hl 1 rfl dL_law_798 rfl ?_
  refine z_iload E hl 5 rfl dL_law_799 ?_
  refine z_iconst E dL_law_801 ?_
  refine z_iadd E dL_law_802 ?_
  refine z_sld E S9 G (i + 1) (by omega) (by omega) dL_law_803 ?_
  refine z_eq (y := ((m : Nat) : Int)) hx1 ?_
  refine z_aload_n E hl 1 rfl dL_law_804 rfl ?_
  refine z_iload E hl 5 rfl dL_law_805 ?_
  refine z_iconst E dL_law_807 ?_
  refine z_iadd E dL_law_808 ?_
  refine z_sld E S9 G (i + 2) (by omega) (by omega) dL_law_809 ?_
  refine z_eq (y := ((k : Nat) : Int)) hx2 ?_
  refine z_aload_n E hl 1 rfl dL_law_810 rfl ?_
  refine z_iload E hl 5 rfl dL_law_811 ?_
  refine z_iconst E dL_law_813 ?_
  refine z_iadd E dL_law_814 ?_
  refine z_sld E S9 G (i + 3) (by omega) (by omega) dL_law_815 ?_
  refine z_eq (y := a) hx3 ?_
  refine z_aload_n E hl 1 rfl dL_law_816 rfl ?_
  refine z_iload E hl 5 rfl dL_law_817 ?_
  refine z_iconst E dL_law_819 ?_
  refine z_iadd E dL_law_820 ?_
  refine z_sld E S9 G (i + 4) (by omega) (by omega) dL_law_821 ?_
  refine z_eq (y := b) hx4 ?_
  refine z_callV E G hl.1 (c_X5_correct_3 l D k4 mo mnw mte mge mus mco mfl mba mdu th n p st cc bc pot gr bk btw bhd m k a b (by omega) (by omega) (by omega) (by omega) (by omega)) kV_L_131 ⟨rfl, rfl, Nat.le_of_ble_eq_true rfl, Nat.le_of_ble_eq_true rfl⟩ [0] rfl (by decide) 0 5 rfl rfl rfl rfl rfl (Nat.le_of_ble_eq_true rfl) dL_law_822 ⟨by omega, by omega⟩ (fun v9 w9 H locs hq G => ?_)
  obtain ⟨rfl, rfl⟩ := hq
  refine W.eq (g2 := F0 mm 825 ls [.long (lI (0))]) rfl ?_
  have G : zG D AA ss.heap ((mo, .inr (5, [.int (iI (2)), .int (iI (((n : Nat) : Int))), .ref mnw, .ref mte, .ref mge, .ref mus, .int (iI (((p : Nat) : Int))), .int (iI (((st : Nat) : Int))), .int (iI (cc)), .int (iI (bc)), .ref mco, .ref mfl, .ref mba, .ref mdu, .long (lI (pot)), .long (lI (gr)), .long (lI (bk)), .int (iI (btw)), .int (iI (bhd))])) :: (mnw, .inl (k4 0, 19, .inl (fun i9 => iI (NW i9)))) :: (mte, .inl (k4 0, 912, .inl (fun i9 => iI (TE i9)))) :: (mge, .inl (k4 0, 288, .inl (fun i9 => iI (GE i9)))) :: (mus, .inl (k4 0, 288, .inl (fun i9 => iI (US i9)))) :: (mco, .inl (k4 0, 48, .inl (fun i9 => iI (CO i9)))) :: (mfl, .inl (k4 0, 2304, .inl (fun i9 => iI (FL i9)))) :: (mba, .inl (k4 1, 6, .inr (.inl (fun i9 => lI (BA i9))))) :: (mdu, .inl (k4 1, 6, .inr (.inl (fun i9 => lI (DU i9))))) :: (ao, .inl (k4 1, 1, .inr (.inl (fun i9 => lI (O i9))))) :: (xW k4 lo lnow lsl lcl lba ldu nsh nrk h1 r1 q1 h2 r2 q2 ta sa n p st cc bc pot gr bk nw bal due S1 S2 tx sg)) H locs := G
  refine z_lstore E [(6, .long (lI (0))), (5, .int (iI (2))), (0, .ref bs), (1, .ref lo), (2, .ref mo), (3, .ref ao), (4, .int (iI (((i : Nat) : Int))))] dL_law_825 hl (by decide) rfl (fun ls hl => ?_)
  refine z_aload_n E hl 4 rfl dL_law_827 rfl ?_
  refine z_callV E G hl.1 (c_X5_thrown l D k4 mo mnw mte mge mus mco mfl mba mdu 2 n p st cc bc pot gr bk btw bhd ) kV_L_89 ⟨rfl, rfl, Nat.le_of_ble_eq_true rfl, Nat.le_of_ble_eq_true rfl⟩ [0] rfl (by decide) 0 5 rfl rfl rfl rfl rfl (Nat.le_of_ble_eq_true rfl) dL_law_828 ⟨by omega, by omega⟩ (fun v9 w9 H locs hq G => ?_)
  obtain ⟨rfl, rfl⟩ := hq
  refine W.eq (g2 := F0 mm 831 ls [.int (iI (2))]) rfl ?_
  have G : zG D AA ss.heap ((mo, .inr (5, [.int (iI (2)), .int (iI (((n : Nat) : Int))), .ref mnw, .ref mte, .ref mge, .ref mus, .int (iI (((p : Nat) : Int))), .int (iI (((st : Nat) : Int))), .int (iI (cc)), .int (iI (bc)), .ref mco, .ref mfl, .ref mba, .ref mdu, .long (lI (pot)), .long (lI (gr)), .long (lI (bk)), .int (iI (btw)), .int (iI (bhd))])) :: (mnw, .inl (k4 0, 19, .inl (fun i9 => iI (NW i9)))) :: (mte, .inl (k4 0, 912, .inl (fun i9 => iI (TE i9)))) :: (mge, .inl (k4 0, 288, .inl (fun i9 => iI (GE i9)))) :: (mus, .inl (k4 0, 288, .inl (fun i9 => iI (US i9)))) :: (mco, .inl (k4 0, 48, .inl (fun i9 => iI (CO i9)))) :: (mfl, .inl (k4 0, 2304, .inl (fun i9 => iI (FL i9)))) :: (mba, .inl (k4 1, 6, .inr (.inl (fun i9 => lI (BA i9))))) :: (mdu, .inl (k4 1, 6, .inr (.inl (fun i9 => lI (DU i9))))) :: (ao, .inl (k4 1, 1, .inr (.inl (fun i9 => lI (O i9))))) :: (xW k4 lo lnow lsl lcl lba ldu nsh nrk h1 r1 q1 h2 r2 q2 ta sa n p st cc bc pot gr bk nw bal due S1 S2 tx sg)) H locs := G
  refine z_iload E hl 1 rfl dL_law_831 ?_
  refine z_icmp_eq (tgt := 838) E dL_law_833 (by decide) (by decide) (by decide) (fun c_833 => ?_) (fun c_833 => absurd c_833 (by decide))
  refine z_iload E hl 1 rfl dL_law_838 ?_
  refine z_if_ne (tgt := 854) E dL_law_840 (by decide) (by decide) (fun c_840 => ?_) (fun c_840 => absurd c_840 (by decide))
  refine z_goto (tgt := 1502) E dL_law_854 (by decide) ?_
  refine W.cs (cells' := cl9 + ((1) + (0))) (slots' := sl9 + ((6) + (0))) (by omega) (by omega) ?_
  exact kk _ _ _ G (lv_sub hl [2, 3, 4, 5, 6] rfl)

set_option maxHeartbeats 4000000 in
set_option maxRecDepth 100000 in
theorem s_correct_4 {pp : Program} {l : Launch} {ee : Env} {ss : State} {mm : MethodId} {bl : List Frame} {me : Method} {co : Code} {AA : Nat → Prop} {H : Heap} {locs : List Loc} {ls : Array Slot} {Q9 : State → Prop} {D : va_G} {k4 : Nat → ClassId} {bs Ls : Nat} {xs : Nat → Int32} {cl9 sl9 : Nat} (hl9 : l.stackTraces = false) (E : zE pp mm co cL_law 9 ss #[Value.ref bs] RL D k4) (X : zEL ss AA) (S9 : zSc bs Ls xs ss AA) (i : Nat) (hi5 : i + 4 < Ls) (lo lnow lsl lcl lba ldu nsh nrk h1 r1 q1 h2 r2 q2 : Nat) (ta : Nat → Nat) (sa : Nat → Nat → Nat) (n p st : Nat) (cc bc pot gr bk : Int) (nw bal due : Nat → Int) (S1 S2 : sS) (tx : Nat → Nat → Int) (sg : Nat → Nat → Nat → Int) (m k : Nat) (a b : Int) (mo mnw mte mge mus mco mfl mba mdu : Nat) (th btw bhd : Int) (NW TE GE US CO FL BA DU : Nat → Int) (ao : Nat) (O : Nat → Int) (hX : xOK n p st bc nw S1 S2 tx sg) (hm : m < n) (hk : k < 48) (ha : 0 ≤ a ∧ a ≤ 5000) (hb : 0 ≤ b ∧ b ≤ 5000) (hkp : p ≤ k ∨ k < st) (hn9 : n ≤ 6) (hp9 : p ≤ 48) (hs9 : st ≤ 48) (hcc : rng cc) (hb9 : 0 ≤ bc ∧ bc ≤ 20000) (hx1 : (xs (i + 1)).toInt = ((m : Nat) : Int)) (hx2 : (xs (i + 2)).toInt = ((k : Nat) : Int)) (hx3 : (xs (i + 3)).toInt = a) (hx4 : (xs (i + 4)).toInt = b) (hc9 : cl9 + ((1) + (0)) ≤ room_1.cells) (hs99 : sl9 + ((6) + (0)) ≤ room_1.slots) (G : zG D AA ss.heap ((mo, .inr (5, [.int (iI (th)), .int (iI (((n : Nat) : Int))), .ref mnw, .ref mte, .ref mge, .ref mus, .int (iI (((p : Nat) : Int))), .int (iI (((st : Nat) : Int))), .int (iI (cc)), .int (iI (bc)), .ref mco, .ref mfl, .ref mba, .ref mdu, .long (lI (pot)), .long (lI (gr)), .long (lI (bk)), .int (iI (btw)), .int (iI (bhd))])) :: (mnw, .inl (k4 0, 19, .inl (fun i9 => iI (NW i9)))) :: (mte, .inl (k4 0, 912, .inl (fun i9 => iI (TE i9)))) :: (mge, .inl (k4 0, 288, .inl (fun i9 => iI (GE i9)))) :: (mus, .inl (k4 0, 288, .inl (fun i9 => iI (US i9)))) :: (mco, .inl (k4 0, 48, .inl (fun i9 => iI (CO i9)))) :: (mfl, .inl (k4 0, 2304, .inl (fun i9 => iI (FL i9)))) :: (mba, .inl (k4 1, 6, .inr (.inl (fun i9 => lI (BA i9))))) :: (mdu, .inl (k4 1, 6, .inr (.inl (fun i9 => lI (DU i9))))) :: (ao, .inl (k4 1, 1, .inr (.inl (fun i9 => lI (O i9))))) :: (xW k4 lo lnow lsl lcl lba ldu nsh nrk h1 r1 q1 h2 r2 q2 ta sa n p st cc bc pot gr bk nw bal due S1 S2 tx sg)) H locs) (hl : lv_has ls 9 [(0, .ref bs), (1, .ref lo), (2, .ref mo), (3, .ref ao), (4, .int (iI (((i : Nat) : Int))))]) (kk : ∀ (H : Heap) (locs : List Loc) (ls : Array Slot), zG D AA ss.heap ((mo, .inr (5, [.int (iI (3)), .int (iI (((n : Nat) : Int))), .ref mnw, .ref mte, .ref mge, .ref mus, .int (iI (((p : Nat) : Int))), .int (iI (((st : Nat) : Int))), .int (iI (cc)), .int (iI (bc)), .ref mco, .ref mfl, .ref mba, .ref mdu, .long (lI (pot)), .long (lI (gr)), .long (lI (bk)), .int (iI (btw)), .int (iI (bhd))])) :: (mnw, .inl (k4 0, 19, .inl (fun i9 => iI (NW i9)))) :: (mte, .inl (k4 0, 912, .inl (fun i9 => iI (TE i9)))) :: (mge, .inl (k4 0, 288, .inl (fun i9 => iI (GE i9)))) :: (mus, .inl (k4 0, 288, .inl (fun i9 => iI (US i9)))) :: (mco, .inl (k4 0, 48, .inl (fun i9 => iI (CO i9)))) :: (mfl, .inl (k4 0, 2304, .inl (fun i9 => iI (FL i9)))) :: (mba, .inl (k4 1, 6, .inr (.inl (fun i9 => lI (BA i9))))) :: (mdu, .inl (k4 1, 6, .inr (.inl (fun i9 => lI (DU i9))))) :: (ao, .inl (k4 1, 1, .inr (.inl (fun i9 => lI (O i9))))) :: (xW k4 lo lnow lsl lcl lba ldu nsh nrk h1 r1 q1 h2 r2 q2 ta sa n p st cc bc pot gr bk nw bal due S1 S2 tx sg)) H locs → lv_has ls 9 [(0, .ref bs), (1, .ref lo), (2, .ref mo), (3, .ref ao), (4, .int (iI (((i : Nat) : Int))))] → W pp l ee room_1 ss mm #[Value.ref bs] bl me co H locs (cl9 + ((1) + (0))) (sl9 + ((6) + (0))) Q9 (F0 mm 1502 ls [])) : W pp l ee room_1 ss mm #[Value.ref bs] bl me co H locs (cl9) (sl9) Q9 (F0 mm 766 ls []) := by
  refine z_aload_n E hl 1 rfl dL_law_766 rfl ?_
  refine z_aload_n E hl 0 rfl dL_law_767 rfl ?_
  refine z_iload E hl 4 rfl dL_law_768 ?_
  refine z_iconst E dL_law_770 ?_
  refine z_iadd E dL_law_771 ?_
  refine z_sld E S9 G (i + 1) (by omega) (by omega) dL_law_772 ?_
  refine z_eq (y := ((m : Nat) : Int)) hx1 ?_
  refine z_aload_n E hl 0 rfl dL_law_773 rfl ?_
  refine z_iload E hl 4 rfl dL_law_774 ?_
  refine z_iconst E dL_law_776 ?_
  refine z_iadd E dL_law_777 ?_
  refine z_sld E S9 G (i + 2) (by omega) (by omega) dL_law_778 ?_
  refine z_eq (y := ((k : Nat) : Int)) hx2 ?_
  refine z_aload_n E hl 0 rfl dL_law_779 rfl ?_
  refine z_iload E hl 4 rfl dL_law_780 ?_
  refine z_iconst E dL_law_782 ?_
  refine z_iadd E dL_law_783 ?_
  refine z_sld E S9 G (i + 3) (by omega) (by omega) dL_law_784 ?_
  refine z_eq (y := a) hx3 ?_
  refine z_aload_n E hl 0 rfl dL_law_785 rfl ?_
  refine z_iload E hl 4 rfl dL_law_786 ?_
  refine z_iconst E dL_law_788 ?_
  refine z_iadd E dL_law_789 ?_
  refine z_sld E S9 G (i + 4) (by omega) (by omega) dL_law_790 ?_
  refine z_eq (y := b) hx4 ?_
  refine z_aload_n E hl 3 rfl dL_law_791 rfl ?_
  refine z_callL (n := 6) (pre := [(mo, .inr (5, [.int (iI (th)), .int (iI (((n : Nat) : Int))), .ref mnw, .ref mte, .ref mge, .ref mus, .int (iI (((p : Nat) : Int))), .int (iI (((st : Nat) : Int))), .int (iI (cc)), .int (iI (bc)), .ref mco, .ref mfl, .ref mba, .ref mdu, .long (lI (pot)), .long (lI (gr)), .long (lI (bk)), .int (iI (btw)), .int (iI (bhd))])), (mnw, .inl (k4 0, 19, .inl (fun i9 => iI (NW i9)))), (mte, .inl (k4 0, 912, .inl (fun i9 => iI (TE i9)))), (mge, .inl (k4 0, 288, .inl (fun i9 => iI (GE i9)))), (mus, .inl (k4 0, 288, .inl (fun i9 => iI (US i9)))), (mco, .inl (k4 0, 48, .inl (fun i9 => iI (CO i9)))), (mfl, .inl (k4 0, 2304, .inl (fun i9 => iI (FL i9)))), (mba, .inl (k4 1, 6, .inr (.inl (fun i9 => lI (BA i9))))), (mdu, .inl (k4 1, 6, .inr (.inl (fun i9 => lI (DU i9)))))]) E X G hl.1 (w_correct_4 l hl9 D k4 lo lnow lsl lcl lba ldu nsh nrk h1 r1 q1 h2 r2 q2 ta sa n p st cc bc pot gr bk nw bal due S1 S2 tx sg m k a b ao O hX hm hk ha hb hkp) zw_476 zw_477 zw_74 zw_478 (by decide +kernel) (by decide +kernel) ⟨rfl, rfl, Nat.le_of_ble_eq_true rfl, Nat.le_of_ble_eq_true rfl⟩ rfl rfl (Nat.le_of_ble_eq_true rfl) dL_law_792 ⟨by omega, by omega⟩ (fun v9 w9 H locs hq G => ?_)
  obtain ⟨rfl, rfl⟩ := hq
  refine W.eq (g2 := F0 mm 795 ls [.int (iI (3))]) rfl ?_
  have G : zG D AA ss.heap ((mo, .inr (5, [.int (iI (th)), .int (iI (((n : Nat) : Int))), .ref mnw, .ref mte, .ref mge, .ref mus, .int (iI (((p : Nat) : Int))), .int (iI (((st : Nat) : Int))), .int (iI (cc)), .int (iI (bc)), .ref mco, .ref mfl, .ref mba, .ref mdu, .long (lI (pot)), .long (lI (gr)), .long (lI (bk)), .int (iI (btw)), .int (iI (bhd))])) :: (mnw, .inl (k4 0, 19, .inl (fun i9 => iI (NW i9)))) :: (mte, .inl (k4 0, 912, .inl (fun i9 => iI (TE i9)))) :: (mge, .inl (k4 0, 288, .inl (fun i9 => iI (GE i9)))) :: (mus, .inl (k4 0, 288, .inl (fun i9 => iI (US i9)))) :: (mco, .inl (k4 0, 48, .inl (fun i9 => iI (CO i9)))) :: (mfl, .inl (k4 0, 2304, .inl (fun i9 => iI (FL i9)))) :: (mba, .inl (k4 1, 6, .inr (.inl (fun i9 => lI (BA i9))))) :: (mdu, .inl (k4 1, 6, .inr (.inl (fun i9 => lI (DU i9))))) :: (ao, .inl (k4 1, 1, .inr (.inl (fun i9 => lI (O i9))))) :: (xW k4 lo lnow lsl lcl lba ldu nsh nrk h1 r1 q1 h2 r2 q2 ta sa n p st cc bc pot gr bk nw bal due S1 S2 tx sg)) H locs := G
  refine z_istore E [(5, .int (iI (3))), (0, .ref bs), (1, .ref lo), (2, .ref mo), (3, .ref ao), (4, .int (iI (((i : Nat) : Int))))] dL_law_795 hl (by decide) rfl (fun ls hl => ?_)
  refine z_aload_n E hl 3 rfl dL_law_797 rfl ?_
  refine z_aload_n E hl 1 rfl dL_law_798 rfl ?_
  refine z_iload E hl 5 rfl dL_law_799 ?_
  refine z_iconst E dL_law_801 ?_
  refine z_iadd E dL_law_802 ?_
  refine z_sld E S9 G (i + 1) (by omega) (by omega) dL_law_803 ?_
  refine z_eq (y := ((m : Nat) : Int)) hx1 ?_
  refine z_aload_n E hl 1 rfl dL_law_804 rfl ?_
  refine z_iload E hl 5 rfl dL_law_805 ?_
  refine z_iconst E dL_law_807 ?_
  refine z_iadd E dL_law_808 ?_
  refine z_sld E S9 G (i + 2) (by omega) (by omega) dL_law_809 ?_
  refine z_eq (y := ((k : Nat) : Int)) hx2 ?_
  refine z_aload_n E hl 1 rfl dL_law_810 rfl ?_
  refine z_iload E hl 5 rfl dL_law_811 ?_
  refine z_iconst E dL_law_813 ?_
  refine z_iadd E dL_law_814 ?_
  refine z_sld E S9 G (i + 3) (by omega) (by omega) dL_law_815 ?_
  refine z_eq (y := a) hx3 ?_
  refine z_aload_n E hl 1 rfl dL_law_816 rfl ?_
  refine z_iload E hl 5 rfl dL_law_817 ?_
  refine z_iconst E dL_law_819 ?_
  refine z_iadd E dL_law_820 ?_
  refine z_sld E S9 G (i + 4) (by omega) (by omega) dL_law_821 ?_
  refine z_eq (y := b) hx4 ?_
  refine z_callV E G hl.1 (c_X5_correct_4 l D k4 mo mnw mte mge mus mco mfl mba mdu th n p st cc bc pot gr bk btw bhd m k a b (by omega) (by omega) (by omega) (by omega) (by omega) (by omega) (by omega)) kV_L_131 ⟨rfl, rfl, Nat.le_of_ble_eq_true rfl, Nat.le_of_ble_eq_true rfl⟩ [0] rfl (by decide) 0 5 rfl rfl rfl rfl rfl (Nat.le_of_ble_eq_true rfl) dL_law_822 ⟨by omega, by omega⟩ (fun v9 w9 H locs hq G => ?_)
  obtain ⟨rfl, rfl⟩ := hq
  refine W.eq (g2 := F0 mm 825 ls [.long (lI (0))]) rfl ?_
  have G : zG D AA ss.heap ((mo, .inr (5, [.int (iI (3)), .int (iI (((n : Nat) : Int))), .ref mnw, .ref mte, .ref mge, .ref mus, .int (iI (((p : Nat) : Int))), .int (iI (((st : Nat) : Int))), .int (iI (cc)), .int (iI (bc)), .ref mco, .ref mfl, .ref mba, .ref mdu, .long (lI (pot)), .long (lI (gr)), .long (lI (bk)), .int (iI (btw)), .int (iI (bhd))])) :: (mnw, .inl (k4 0, 19, .inl (fun i9 => iI (NW i9)))) :: (mte, .inl (k4 0, 912, .inl (fun i9 => iI (TE i9)))) :: (mge, .inl (k4 0, 288, .inl (fun i9 => iI (GE i9)))) :: (mus, .inl (k4 0, 288, .inl (fun i9 => iI (US i9)))) :: (mco, .inl (k4 0, 48, .inl (fun i9 => iI (CO i9)))) :: (mfl, .inl (k4 0, 2304, .inl (fun i9 => iI (FL i9)))) :: (mba, .inl (k4 1, 6, .inr (.inl (fun i9 => lI (BA i9))))) :: (mdu, .inl (k4 1, 6, .inr (.inl (fun i9 => lI (DU i9))))) :: (ao, .inl (k4 1, 1, .inr (.inl (fun i9 => lI (O i9))))) :: (xW k4 lo lnow lsl lcl lba ldu nsh nrk h1 r1 q1 h2 r2 q2 ta sa n p st cc bc pot gr bk nw bal due S1 S2 tx sg)) H locs := G
  refine z_lstore E [(6, .long (lI (0))), (5, .int (iI (3))), (0, .ref bs), (1, .ref lo), (2, .ref mo), (3, .ref ao), (4, .int (iI (((i : Nat) : Int))))] dL_law_825 hl (by decide) rfl (fun ls hl => ?_)
  refine z_aload_n E hl 4 rfl dL_law_827 rfl ?_
  refine z_callV E G hl.1 (c_X5_thrown l D k4 mo mnw mte mge mus mco mfl mba mdu 3 n p st cc bc pot gr bk btw bhd ) kV_L_89 ⟨rfl, rfl, Nat.le_of_ble_eq_true rfl, Nat.le_of_ble_eq_true rfl⟩ [0] rfl (by decide) 0 5 rfl rfl rfl rfl rfl (Nat.le_of_ble_eq_true rfl) dL_law_828 ⟨by omega, by omega⟩ (fun v9 w9 H locs hq G => ?_)
  obtain ⟨rfl, rfl⟩ := hq
  refine W.eq (g2 := F0 mm 831 ls [.int (iI (3))]) rfl ?_
  have G : zG D AA ss.heap ((mo, .inr (5, [.int (iI (3)), .int (iI (((n : Nat) : Int))), .ref mnw, .ref mte, .ref mge, .ref mus, .int (iI (((p : Nat) : Int))), .int (iI (((st : Nat) : Int))), .int (iI (cc)), .int (iI (bc)), .ref mco, .ref mfl, .ref mba, .ref mdu, .long (lI (pot)), .long (lI (gr)), .long (lI (bk)), .int (iI (btw)), .int (iI (bhd))])) :: (mnw, .inl (k4 0, 19, .inl (fun i9 => iI (NW i9)))) :: (mte, .inl (k4 0, 912, .inl (fun i9 => iI (TE i9)))) :: (mge, .inl (k4 0, 288, .inl (fun i9 => iI (GE i9)))) :: (mus, .inl (k4 0, 288, .inl (fun i9 => iI (US i9)))) :: (mco, .inl (k4 0, 48, .inl (fun i9 => iI (CO i9)))) :: (mfl, .inl (k4 0, 2304, .inl (fun i9 => iI (FL i9)))) :: (mba, .inl (k4 1, 6, .inr (.inl (fun i9 => lI (BA i9))))) :: (mdu, .inl (k4 1, 6, .inr (.inl (fun i9 => lI (DU i9))))) :: (ao, .inl (k4 1, 1, .inr (.inl (fun i9 => lI (O i9))))) :: (xW k4 lo lnow lsl lcl lba ldu nsh nrk h1 r1 q1 h2 r2 q2 ta sa n p st cc bc pot gr bk nw bal due S1 S2 tx sg)) H locs := G
  refine z_iload E hl 1 rfl dL_law_831 ?_
  refine z_icmp_eq (tgt := 838) E dL_law_833 (by decide) (by decide) (by decide) (fun c_833 => ?_) (fun c_833 => absurd c_833 (by decide))
  refine z_iload E hl 1 rfl dL_law_838 ?_
  refine z_if_ne (tgt := 854) E dL_law_840 (by decide) (by decide) (fun c_840 => ?_) (fun c_840 => absurd c_840 (by decide))
  refine z_goto (tgt := 1502) E dL_law_854 (by decide) ?_
  refine W.cs (cells' := cl9 + ((1) + (0))) (slots' := sl9 + ((6) + (0))) (by omega) (by omega) ?_
  exact kk _ _ _ G (lv_sub hl [2, 3, 4, 5, 6] rfl)

set_option maxHeartbeats 4000000 in
set_option maxRecDepth 100000 in
theorem s_flow {pp : Program} {l : Launch} {ee : Env} {ss : State} {mm : MethodId} {bl : List Frame} {me : Method} {co : Code} {AA : Nat → Prop} {H : Heap} {locs : List Loc} {ls : Array Slot} {Q9 : State → Prop} {D : va_G} {k4 : Nat → ClassId} {bs Ls : Nat} {xs : Nat → Int32} {cl9 sl9 : Nat} (hl9 : l.stackTraces = false) (E : zE pp mm co cL_law 9 ss #[Value.ref bs] RL D k4) (X : zEL ss AA) (S9 : zSc bs Ls xs ss AA) (i : Nat) (hi5 : i + 4 < Ls) (lo lnow lsl lcl lba ldu nsh nrk h1 r1 q1 h2 r2 q2 : Nat) (ta : Nat → Nat) (sa : Nat → Nat → Nat) (n p st : Nat) (cc bc pot gr bk : Int) (nw bal due : Nat → Int) (S1 S2 : sS) (tx : Nat → Nat → Int) (sg : Nat → Nat → Nat → Int) (k m w : Nat) (mo mnw mte mge mus mco mfl mba mdu : Nat) (th btw bhd : Int) (NW TE GE US CO FL BA DU : Nat → Int) (ao : Nat) (O : Nat → Int) (hX : xOK n p st bc nw S1 S2 tx sg) (hm : m < n) (hk : k < 48) (hw : w < 8) (hn9 : n ≤ 6) (hp9 : p ≤ 48) (hs9 : st ≤ 48) (hcc : rng cc) (hb9 : 0 ≤ bc ∧ bc ≤ 20000) (hx1 : (xs (i + 1)).toInt = ((k : Nat) : Int)) (hx2 : (xs (i + 2)).toInt = ((m : Nat) : Int)) (hx3 : (xs (i + 3)).toInt = ((w : Nat) : Int)) (hans : ((if k < p then sg k 3 (m * 8 + w) else 0) : Int) = (if k < p then FL (48 * k + (m * 8 + w)) else 0)) (hrb : rng (if k < p then FL (48 * k + (m * 8 + w)) else 0)) (hc9 : cl9 + ((0) + (0)) ≤ room_1.cells) (hs99 : sl9 + ((0) + (0)) ≤ room_1.slots) (G : zG D AA ss.heap ((mo, .inr (5, [.int (iI (th)), .int (iI (((n : Nat) : Int))), .ref mnw, .ref mte, .ref mge, .ref mus, .int (iI (((p : Nat) : Int))), .int (iI (((st : Nat) : Int))), .int (iI (cc)), .int (iI (bc)), .ref mco, .ref mfl, .ref mba, .ref mdu, .long (lI (pot)), .long (lI (gr)), .long (lI (bk)), .int (iI (btw)), .int (iI (bhd))])) :: (mnw, .inl (k4 0, 19, .inl (fun i9 => iI (NW i9)))) :: (mte, .inl (k4 0, 912, .inl (fun i9 => iI (TE i9)))) :: (mge, .inl (k4 0, 288, .inl (fun i9 => iI (GE i9)))) :: (mus, .inl (k4 0, 288, .inl (fun i9 => iI (US i9)))) :: (mco, .inl (k4 0, 48, .inl (fun i9 => iI (CO i9)))) :: (mfl, .inl (k4 0, 2304, .inl (fun i9 => iI (FL i9)))) :: (mba, .inl (k4 1, 6, .inr (.inl (fun i9 => lI (BA i9))))) :: (mdu, .inl (k4 1, 6, .inr (.inl (fun i9 => lI (DU i9))))) :: (ao, .inl (k4 1, 1, .inr (.inl (fun i9 => lI (O i9))))) :: (xW k4 lo lnow lsl lcl lba ldu nsh nrk h1 r1 q1 h2 r2 q2 ta sa n p st cc bc pot gr bk nw bal due S1 S2 tx sg)) H locs) (hl : lv_has ls 9 [(0, .ref bs), (1, .ref lo), (2, .ref mo), (3, .ref ao), (4, .int (iI (((i : Nat) : Int))))]) (kk : ∀ (H : Heap) (locs : List Loc) (ls : Array Slot), zG D AA ss.heap ((mo, .inr (5, [.int (iI (0)), .int (iI (((n : Nat) : Int))), .ref mnw, .ref mte, .ref mge, .ref mus, .int (iI (((p : Nat) : Int))), .int (iI (((st : Nat) : Int))), .int (iI (cc)), .int (iI (bc)), .ref mco, .ref mfl, .ref mba, .ref mdu, .long (lI (pot)), .long (lI (gr)), .long (lI (bk)), .int (iI (btw)), .int (iI (bhd))])) :: (mnw, .inl (k4 0, 19, .inl (fun i9 => iI (NW i9)))) :: (mte, .inl (k4 0, 912, .inl (fun i9 => iI (TE i9)))) :: (mge, .inl (k4 0, 288, .inl (fun i9 => iI (GE i9)))) :: (mus, .inl (k4 0, 288, .inl (fun i9 => iI (US i9)))) :: (mco, .inl (k4 0, 48, .inl (fun i9 => iI (CO i9)))) :: (mfl, .inl (k4 0, 2304, .inl (fun i9 => iI (FL i9)))) :: (mba, .inl (k4 1, 6, .inr (.inl (fun i9 => lI (BA i9))))) :: (mdu, .inl (k4 1, 6, .inr (.inl (fun i9 => lI (DU i9))))) :: (ao, .inl (k4 1, 1, .inr (.inl (fun i9 => lI ((up O 0 (if k < p then sg k 3 (m * 8 + w) else 0)) i9))))) :: (xW k4 lo lnow lsl lcl lba ldu nsh nrk h1 r1 q1 h2 r2 q2 ta sa n p st cc bc pot gr bk nw bal due S1 S2 tx sg)) H locs → lv_has ls 9 [(0, .ref bs), (1, .ref lo), (2, .ref mo), (3, .ref ao), (4, .int (iI (((i : Nat) : Int))))] → W pp l ee room_1 ss mm #[Value.ref bs] bl me co H locs (cl9 + ((0) + (0))) (sl9 + ((0) + (0))) Q9 (F0 mm 1502 ls [])) : W pp l ee room_1 ss mm #[Value.ref bs] bl me co H locs (cl9) (sl9) Q9 (F0 mm 857 ls []) := by
  refine z_aload_n E hl 1 rfl dL_law_857 rfl ?_
  refine z_aload_n E hl 0 rfl dL_law_858 rfl ?_
  refine z_iload E hl 4 rfl dL_law_859 ?_
  refine z_iconst E dL_law_861 ?_
  refine z_iadd E dL_law_862 ?_
  refine z_sld E S9 G (i + 1) (by omega) (by omega) dL_law_863 ?_
  refine z_eq (y := ((k : Nat) : Int)) hx1 ?_
  refine z_aload_n E hl 0 rfl dL_law_864 rfl ?_
  refine z_iload E hl 4 rfl dL_law_865 ?_
  refine z_iconst E dL_law_867 ?_
  refine z_iadd E dL_law_868 ?_
  refine z_sld E S9 G (i + 2) (by omega) (by omega) dL_law_869 ?_
  refine z_eq (y := ((m : Nat) : Int)) hx2 ?_
  refine z_aload_n E hl 0 rfl dL_law_870 rfl ?_
  refine z_iload E hl 4 rfl dL_law_871 ?_
  refine z_iconst E dL_law_873 ?_
  refine z_iadd E dL_law_874 ?_
  refine z_sld E S9 G (i + 3) (by omega) (by omega) dL_law_875 ?_
  refine z_eq (y := ((w : Nat) : Int)) hx3 ?_
  refine z_aload_n E hl 3 rfl dL_law_876 rfl ?_
  refine z_callL (n := 5) (pre := [(mo, .inr (5, [.int (iI (th)), .int (iI (((n : Nat) : Int))), .ref mnw, .ref mte, .ref mge, .ref mus, .int (iI (((p : Nat) : Int))), .int (iI (((st : Nat) : Int))), .int (iI (cc)), .int (iI (bc)), .ref mco, .ref mfl, .ref mba, .ref mdu, .long (lI (pot)), .long (lI (gr)), .long (lI (bk)), .int (iI (btw)), .int (iI (bhd))])), (mnw, .inl (k4 0, 19, .inl (fun i9 => iI (NW i9)))), (mte, .inl (k4 0, 912, .inl (fun i9 => iI (TE i9)))), (mge, .inl (k4 0, 288, .inl (fun i9 => iI (GE i9)))), (mus, .inl (k4 0, 288, .inl (fun i9 => iI (US i9)))), (mco, .inl (k4 0, 48, .inl (fun i9 => iI (CO i9)))), (mfl, .inl (k4 0, 2304, .inl (fun i9 => iI (FL i9)))), (mba, .inl (k4 1, 6, .inr (.inl (fun i9 => lI (BA i9))))), (mdu, .inl (k4 1, 6, .inr (.inl (fun i9 => lI (DU i9)))))]) E X G hl.1 (w_flow l D k4 lo lnow lsl lcl lba ldu nsh nrk h1 r1 q1 h2 r2 q2 ta sa n p st cc bc pot gr bk nw bal due S1 S2 tx sg k m w ao O hX hm hk hw) zw_491 zw_492 zw_74 zw_493 (by decide +kernel) (by decide +kernel) ⟨rfl, rfl, Nat.le_of_ble_eq_true rfl, Nat.le_of_ble_eq_true rfl⟩ rfl rfl (Nat.le_of_ble_eq_true rfl) dL_law_877 ⟨by omega, by omega⟩ (fun v9 w9 H locs hq G => ?_)
  obtain ⟨rfl, rfl⟩ := hq
  refine W.eq (g2 := F0 mm 880 ls [.int (iI (0))]) rfl ?_
  have G : zG D AA ss.heap ((mo, .inr (5, [.int (iI (th)), .int (iI (((n : Nat) : Int))), .ref mnw, .ref mte, .ref mge, .ref mus, .int (iI (((p : Nat) : Int))), .int (iI (((st : Nat) : Int))), .int (iI (cc)), .int (iI (bc)), .ref mco, .ref mfl, .ref mba, .ref mdu, .long (lI (pot)), .long (lI (gr)), .long (lI (bk)), .int (iI (btw)), .int (iI (bhd))])) :: (mnw, .inl (k4 0, 19, .inl (fun i9 => iI (NW i9)))) :: (mte, .inl (k4 0, 912, .inl (fun i9 => iI (TE i9)))) :: (mge, .inl (k4 0, 288, .inl (fun i9 => iI (GE i9)))) :: (mus, .inl (k4 0, 288, .inl (fun i9 => iI (US i9)))) :: (mco, .inl (k4 0, 48, .inl (fun i9 => iI (CO i9)))) :: (mfl, .inl (k4 0, 2304, .inl (fun i9 => iI (FL i9)))) :: (mba, .inl (k4 1, 6, .inr (.inl (fun i9 => lI (BA i9))))) :: (mdu, .inl (k4 1, 6, .inr (.inl (fun i9 => lI (DU i9))))) :: (ao, .inl (k4 1, 1, .inr (.inl (fun i9 => lI ((up O 0 (if k < p then sg k 3 (m * 8 + w) else 0)) i9))))) :: (xW k4 lo lnow lsl lcl lba ldu nsh nrk h1 r1 q1 h2 r2 q2 ta sa n p st cc bc pot gr bk nw bal due S1 S2 tx sg)) H locs := G
  refine z_istore E [(5, .int (iI (0))), (0, .ref bs), (1, .ref lo), (2, .ref mo), (3, .ref ao), (4, .int (iI (((i : Nat) : Int))))] dL_law_880 hl (by decide) rfl (fun ls hl => ?_)
  refine z_aload_n E hl 3 rfl dL_law_882 rfl ?_
  refine z_aload_n E hl 1 rfl dL_law_883 rfl ?_
  refine z_iload E hl 5 rfl dL_law_884 ?_
  refine z_iconst E dL_law_886 ?_
  refine z_iadd E dL_law_887 ?_
  refine z_sld E S9 G (i + 1) (by omega) (by omega) dL_law_888 ?_
  refine z_eq (y := ((k : Nat) : Int)) hx1 ?_
  refine z_aload_n E hl 1 rfl dL_law_889 rfl ?_
  refine z_iload E hl 5 rfl dL_law_890 ?_
  refine z_iconst E dL_law_892 ?_
  refine z_iadd E dL_law_893 ?_
  refine z_sld E S9 G (i + 2) (by omega) (by omega) dL_law_894 ?_
  refine z_eq (y := ((m : Nat) : Int)) hx2 ?_
  refine z_aload_n E hl 1 rfl dL_law_895 rfl ?_
  refine z_iload E hl 5 rfl dL_law_896 ?_
  refine z_iconst E dL_law_898 ?_
  refine z_iadd E dL_law_899 ?_
  refine z_sld E S9 G (i + 3) (by omega) (by omega) dL_law_900 ?_
  refine z_eq (y := ((w : Nat) : Int)) hx3 ?_
  refine z_callV E G hl.1 (c_X5_flow l D k4 mo mnw mte mge mus mco mfl mba mdu th n p st cc bc pot gr bk btw bhd k m w FL (by omega) (by omega) (by omega) (by omega) (by omega)) kV_L_134 ⟨rfl, rfl, Nat.le_of_ble_eq_true rfl, Nat.le_of_ble_eq_true rfl⟩ [0, 6] rfl (by decide) 0 5 rfl rfl rfl rfl rfl (Nat.le_of_ble_eq_true rfl) dL_law_901 ⟨by omega, by omega⟩ (fun v9 w9 H locs hq G => ?_)
  obtain ⟨rfl, rfl⟩ := hq
  refine W.eq (g2 := F0 mm 904 ls [.int (iI (if k < p then FL (48 * k + (m * 8 + w)) else 0))]) rfl ?_
  have G : zG D AA ss.heap ((mo, .inr (5, [.int (iI (0)), .int (iI (((n : Nat) : Int))), .ref mnw, .ref mte, .ref mge, .ref mus, .int (iI (((p : Nat) : Int))), .int (iI (((st : Nat) : Int))), .int (iI (cc)), .int (iI (bc)), .ref mco, .ref mfl, .ref mba, .ref mdu, .long (lI (pot)), .long (lI (gr)), .long (lI (bk)), .int (iI (btw)), .int (iI (bhd))])) :: (mnw, .inl (k4 0, 19, .inl (fun i9 => iI (NW i9)))) :: (mte, .inl (k4 0, 912, .inl (fun i9 => iI (TE i9)))) :: (mge, .inl (k4 0, 288, .inl (fun i9 => iI (GE i9)))) :: (mus, .inl (k4 0, 288, .inl (fun i9 => iI (US i9)))) :: (mco, .inl (k4 0, 48, .inl (fun i9 => iI (CO i9)))) :: (mfl, .inl (k4 0, 2304, .inl (fun i9 => iI (FL i9)))) :: (mba, .inl (k4 1, 6, .inr (.inl (fun i9 => lI (BA i9))))) :: (mdu, .inl (k4 1, 6, .inr (.inl (fun i9 => lI (DU i9))))) :: (ao, .inl (k4 1, 1, .inr (.inl (fun i9 => lI ((up O 0 (if k < p then sg k 3 (m * 8 + w) else 0)) i9))))) :: (xW k4 lo lnow lsl lcl lba ldu nsh nrk h1 r1 q1 h2 r2 q2 ta sa n p st cc bc pot gr bk nw bal due S1 S2 tx sg)) H locs := G
  refine z_istore E [(6, .int (iI (if k < p then FL (48 * k + (m * 8 + w)) else 0))), (5, .int (iI (0))), (0, .ref bs), (1, .ref lo), (2, .ref mo), (3, .ref ao), (4, .int (iI (((i : Nat) : Int))))] dL_law_904 hl (by decide) rfl (fun ls hl => ?_)
  refine z_aload_n E hl 4 rfl dL_law_906 rfl ?_
  refine z_callV E G hl.1 (c_X5_thrown l D k4 mo mnw mte mge mus mco mfl mba mdu 0 n p st cc bc pot gr bk btw bhd ) kV_L_89 ⟨rfl, rfl, Nat.le_of_ble_eq_true rfl, Nat.le_of_ble_eq_true rfl⟩ [0] rfl (by decide) 0 5 rfl rfl rfl rfl rfl (Nat.le_of_ble_eq_true rfl) dL_law_907 ⟨by omega, by omega⟩ (fun v9 w9 H locs hq G => ?_)
  obtain ⟨rfl, rfl⟩ := hq
  refine W.eq (g2 := F0 mm 910 ls [.int (iI (0))]) rfl ?_
  have G : zG D AA ss.heap ((mo, .inr (5, [.int (iI (0)), .int (iI (((n : Nat) : Int))), .ref mnw, .ref mte, .ref mge, .ref mus, .int (iI (((p : Nat) : Int))), .int (iI (((st : Nat) : Int))), .int (iI (cc)), .int (iI (bc)), .ref mco, .ref mfl, .ref mba, .ref mdu, .long (lI (pot)), .long (lI (gr)), .long (lI (bk)), .int (iI (btw)), .int (iI (bhd))])) :: (mnw, .inl (k4 0, 19, .inl (fun i9 => iI (NW i9)))) :: (mte, .inl (k4 0, 912, .inl (fun i9 => iI (TE i9)))) :: (mge, .inl (k4 0, 288, .inl (fun i9 => iI (GE i9)))) :: (mus, .inl (k4 0, 288, .inl (fun i9 => iI (US i9)))) :: (mco, .inl (k4 0, 48, .inl (fun i9 => iI (CO i9)))) :: (mfl, .inl (k4 0, 2304, .inl (fun i9 => iI (FL i9)))) :: (mba, .inl (k4 1, 6, .inr (.inl (fun i9 => lI (BA i9))))) :: (mdu, .inl (k4 1, 6, .inr (.inl (fun i9 => lI (DU i9))))) :: (ao, .inl (k4 1, 1, .inr (.inl (fun i9 => lI ((up O 0 (if k < p then sg k 3 (m * 8 + w) else 0)) i9))))) :: (xW k4 lo lnow lsl lcl lba ldu nsh nrk h1 r1 q1 h2 r2 q2 ta sa n p st cc bc pot gr bk nw bal due S1 S2 tx sg)) H locs := G
  refine z_iload E hl 1 rfl dL_law_910 ?_
  refine z_icmp_eq (tgt := 917) E dL_law_912 (by decide) (by decide) (by decide) (fun c_912 => ?_) (fun c_912 => absurd c_912 (by decide))
  refine z_iload E hl 1 rfl dL_law_917 ?_
  refine z_if_ne (tgt := 934) E dL_law_919 (by decide) (by decide) (fun c_919 => absurd c_919 (by decide)) (fun c_919 => ?_)
  refine z_aload_n E hl 5 rfl dL_law_922 rfl ?_
  refine z_iconst E dL_law_923 ?_
  refine z_lald E G 9 rfl (0) rfl (by decide) (by decide) dL_law_924 ?_
  refine z_eql (y := if k < p then FL (48 * k + (m * 8 + w)) else 0) (up_s.trans hans) ?_
  refine z_iload E hl 0 rfl dL_law_925 ?_
  refine z_i2l E dL_law_927 hrb ?_
  refine z_lcmp E dL_law_928 ?_
  refine z_if_eq (tgt := 934) E dL_law_929 (by decide) (lcI_rng _ _) (fun c_929 => ?_) (fun c_929 => absurd c_929 (by rw [lcI_self]; decide))
  refine z_goto (tgt := 1502) E dL_law_934 (by decide) ?_
  refine W.cs (cells' := cl9 + ((0) + (0))) (slots' := sl9 + ((0) + (0))) (by omega) (by omega) ?_
  exact kk _ _ _ G (lv_sub hl [2, 3, 4, 5, 6] rfl)

set_option maxHeartbeats 4000000 in
set_option maxRecDepth 100000 in
theorem s_flow_0 {pp : Program} {l : Launch} {ee : Env} {ss : State} {mm : MethodId} {bl : List Frame} {me : Method} {co : Code} {AA : Nat → Prop} {H : Heap} {locs : List Loc} {ls : Array Slot} {Q9 : State → Prop} {D : va_G} {k4 : Nat → ClassId} {bs Ls : Nat} {xs : Nat → Int32} {cl9 sl9 : Nat} (hl9 : l.stackTraces = false) (E : zE pp mm co cL_law 9 ss #[Value.ref bs] RL D k4) (X : zEL ss AA) (S9 : zSc bs Ls xs ss AA) (i : Nat) (hi5 : i + 4 < Ls) (lo lnow lsl lcl lba ldu nsh nrk h1 r1 q1 h2 r2 q2 : Nat) (ta : Nat → Nat) (sa : Nat → Nat → Nat) (n p st : Nat) (cc bc pot gr bk : Int) (nw bal due : Nat → Int) (S1 S2 : sS) (tx : Nat → Nat → Int) (sg : Nat → Nat → Nat → Int) (k : Int) (m : Int) (w : Int) (mo mnw mte mge mus mco mfl mba mdu : Nat) (th btw bhd : Int) (NW TE GE US CO FL BA DU : Nat → Int) (ao : Nat) (O : Nat → Int) (hX : xOK n p st bc nw S1 S2 tx sg) (hk : -2147483648 ≤ k ∧ k ≤ 2147483647 ∧ (k < 0 ∨ 47 < k)) (hn9 : n ≤ 6) (hp9 : p ≤ 48) (hs9 : st ≤ 48) (hcc : rng cc) (hb9 : 0 ≤ bc ∧ bc ≤ 20000) (hx1 : (xs (i + 1)).toInt = k) (hx2 : (xs (i + 2)).toInt = m) (hx3 : (xs (i + 3)).toInt = w) (hc9 : cl9 + ((1) + (0)) ≤ room_1.cells) (hs99 : sl9 + ((6) + (0)) ≤ room_1.slots) (G : zG D AA ss.heap ((mo, .inr (5, [.int (iI (th)), .int (iI (((n : Nat) : Int))), .ref mnw, .ref mte, .ref mge, .ref mus, .int (iI (((p : Nat) : Int))), .int (iI (((st : Nat) : Int))), .int (iI (cc)), .int (iI (bc)), .ref mco, .ref mfl, .ref mba, .ref mdu, .long (lI (pot)), .long (lI (gr)), .long (lI (bk)), .int (iI (btw)), .int (iI (bhd))])) :: (mnw, .inl (k4 0, 19, .inl (fun i9 => iI (NW i9)))) :: (mte, .inl (k4 0, 912, .inl (fun i9 => iI (TE i9)))) :: (mge, .inl (k4 0, 288, .inl (fun i9 => iI (GE i9)))) :: (mus, .inl (k4 0, 288, .inl (fun i9 => iI (US i9)))) :: (mco, .inl (k4 0, 48, .inl (fun i9 => iI (CO i9)))) :: (mfl, .inl (k4 0, 2304, .inl (fun i9 => iI (FL i9)))) :: (mba, .inl (k4 1, 6, .inr (.inl (fun i9 => lI (BA i9))))) :: (mdu, .inl (k4 1, 6, .inr (.inl (fun i9 => lI (DU i9))))) :: (ao, .inl (k4 1, 1, .inr (.inl (fun i9 => lI (O i9))))) :: (xW k4 lo lnow lsl lcl lba ldu nsh nrk h1 r1 q1 h2 r2 q2 ta sa n p st cc bc pot gr bk nw bal due S1 S2 tx sg)) H locs) (hl : lv_has ls 9 [(0, .ref bs), (1, .ref lo), (2, .ref mo), (3, .ref ao), (4, .int (iI (((i : Nat) : Int))))]) (kk : ∀ (H : Heap) (locs : List Loc) (ls : Array Slot), zG D AA ss.heap ((mo, .inr (5, [.int (iI (1)), .int (iI (((n : Nat) : Int))), .ref mnw, .ref mte, .ref mge, .ref mus, .int (iI (((p : Nat) : Int))), .int (iI (((st : Nat) : Int))), .int (iI (cc)), .int (iI (bc)), .ref mco, .ref mfl, .ref mba, .ref mdu, .long (lI (pot)), .long (lI (gr)), .long (lI (bk)), .int (iI (btw)), .int (iI (bhd))])) :: (mnw, .inl (k4 0, 19, .inl (fun i9 => iI (NW i9)))) :: (mte, .inl (k4 0, 912, .inl (fun i9 => iI (TE i9)))) :: (mge, .inl (k4 0, 288, .inl (fun i9 => iI (GE i9)))) :: (mus, .inl (k4 0, 288, .inl (fun i9 => iI (US i9)))) :: (mco, .inl (k4 0, 48, .inl (fun i9 => iI (CO i9)))) :: (mfl, .inl (k4 0, 2304, .inl (fun i9 => iI (FL i9)))) :: (mba, .inl (k4 1, 6, .inr (.inl (fun i9 => lI (BA i9))))) :: (mdu, .inl (k4 1, 6, .inr (.inl (fun i9 => lI (DU i9))))) :: (ao, .inl (k4 1, 1, .inr (.inl (fun i9 => lI (O i9))))) :: (xW k4 lo lnow lsl lcl lba ldu nsh nrk h1 r1 q1 h2 r2 q2 ta sa n p st cc bc pot gr bk nw bal due S1 S2 tx sg)) H locs → lv_has ls 9 [(0, .ref bs), (1, .ref lo), (2, .ref mo), (3, .ref ao), (4, .int (iI (((i : Nat) : Int))))] → W pp l ee room_1 ss mm #[Value.ref bs] bl me co H locs (cl9 + ((1) + (0))) (sl9 + ((6) + (0))) Q9 (F0 mm 1502 ls [])) : W pp l ee room_1 ss mm #[Value.ref bs] bl me co H locs (cl9) (sl9) Q9 (F0 mm 857 ls []) := by
  refine z_aload_n E hl 1 rfl dL_law_857 rfl ?_
  refine z_aload_n E hl 0 rfl dL_law_858 rfl ?_
  refine z_iload E hl 4 rfl dL_law_859 ?_
  refine z_iconst E dL_law_861 ?_
  refine z_iadd E dL_law_862 ?_
  refine z_sld E S9 G (i + 1) (by omega) (by omega) dL_law_863 ?_
  refine z_eq (y := k) hx1 ?_
  refine z_aload_n E hl 0 rfl dL_law_864 rfl ?_
  refine z_iload E hl 4 rfl dL_law_865 ?_
  refine z_iconst E dL_law_867 ?_
  refine z_iadd E dL_law_868 ?_
  refine z_sld E S9 G (i + 2) (by omega) (by omega) dL_law_869 ?_
  refine z_eq (y := m) hx2 ?_
  refine z_aload_n E hl 0 rfl dL_law_870 rfl ?_
  refine z_iload E hl 4 rfl dL_law_871 ?_
  refine z_iconst E dL_law_873 ?_
  refine z_iadd E dL_law_874 ?_
  refine z_sld E S9 G (i + 3) (by omega) (by omega) dL_law_875 ?_
  refine z_eq (y := w) hx3 ?_
  refine z_aload_n E hl 3 rfl dL_law_876 rfl ?_
  refine z_callL (n := 5) (pre := [(mo, .inr (5, [.int (iI (th)), .int (iI (((n : Nat) : Int))), .ref mnw, .ref mte, .ref mge, .ref mus, .int (iI (((p : Nat) : Int))), .int (iI (((st : Nat) : Int))), .int (iI (cc)), .int (iI (bc)), .ref mco, .ref mfl, .ref mba, .ref mdu, .long (lI (pot)), .long (lI (gr)), .long (lI (bk)), .int (iI (btw)), .int (iI (bhd))])), (mnw, .inl (k4 0, 19, .inl (fun i9 => iI (NW i9)))), (mte, .inl (k4 0, 912, .inl (fun i9 => iI (TE i9)))), (mge, .inl (k4 0, 288, .inl (fun i9 => iI (GE i9)))), (mus, .inl (k4 0, 288, .inl (fun i9 => iI (US i9)))), (mco, .inl (k4 0, 48, .inl (fun i9 => iI (CO i9)))), (mfl, .inl (k4 0, 2304, .inl (fun i9 => iI (FL i9)))), (mba, .inl (k4 1, 6, .inr (.inl (fun i9 => lI (BA i9))))), (mdu, .inl (k4 1, 6, .inr (.inl (fun i9 => lI (DU i9)))))]) E X G hl.1 (w_flow_0 l hl9 D k4 lo lnow lsl lcl lba ldu nsh nrk h1 r1 q1 h2 r2 q2 ta sa n p st cc bc pot gr bk nw bal due S1 S2 tx sg k m w ao O hX hk) zw_491 zw_492 zw_74 zw_493 (by decide +kernel) (by decide +kernel) ⟨rfl, rfl, Nat.le_of_ble_eq_true rfl, Nat.le_of_ble_eq_true rfl⟩ rfl rfl (Nat.le_of_ble_eq_true rfl) dL_law_877 ⟨by omega, by omega⟩ (fun v9 w9 H locs hq G => ?_)
  obtain ⟨rfl, rfl⟩ := hq
  refine W.eq (g2 := F0 mm 880 ls [.int (iI (1))]) rfl ?_
  have G : zG D AA ss.heap ((mo, .inr (5, [.int (iI (th)), .int (iI (((n : Nat) : Int))), .ref mnw, .ref mte, .ref mge, .ref mus, .int (iI (((p : Nat) : Int))), .int (iI (((st : Nat) : Int))), .int (iI (cc)), .int (iI (bc)), .ref mco, .ref mfl, .ref mba, .ref mdu, .long (lI (pot)), .long (lI (gr)), .long (lI (bk)), .int (iI (btw)), .int (iI (bhd))])) :: (mnw, .inl (k4 0, 19, .inl (fun i9 => iI (NW i9)))) :: (mte, .inl (k4 0, 912, .inl (fun i9 => iI (TE i9)))) :: (mge, .inl (k4 0, 288, .inl (fun i9 => iI (GE i9)))) :: (mus, .inl (k4 0, 288, .inl (fun i9 => iI (US i9)))) :: (mco, .inl (k4 0, 48, .inl (fun i9 => iI (CO i9)))) :: (mfl, .inl (k4 0, 2304, .inl (fun i9 => iI (FL i9)))) :: (mba, .inl (k4 1, 6, .inr (.inl (fun i9 => lI (BA i9))))) :: (mdu, .inl (k4 1, 6, .inr (.inl (fun i9 => lI (DU i9))))) :: (ao, .inl (k4 1, 1, .inr (.inl (fun i9 => lI (O i9))))) :: (xW k4 lo lnow lsl lcl lba ldu nsh nrk h1 r1 q1 h2 r2 q2 ta sa n p st cc bc pot gr bk nw bal due S1 S2 tx sg)) H locs := G
  refine z_istore E [(5, .int (iI (1))), (0, .ref bs), (1, .ref lo), (2, .ref mo), (3, .ref ao), (4, .int (iI (((i : Nat) : Int))))] dL_law_880 hl (by decide) rfl (fun ls hl => ?_)
  refine z_aload_n E hl 3 rfl dL_law_882 rfl ?_
  refine z_aload_n E hl 1 rfl dL_law_883 rfl ?_
  refine z_iload E hl 5 rfl dL_law_884 ?_
  refine z_iconst E dL_law_886 ?_
  refine z_iadd E dL_law_887 ?_
  refine z_sld E S9 G (i + 1) (by omega) (by omega) dL_law_888 ?_
  refine z_eq (y := k) hx1 ?_
  refine z_aload_n E hl 1 rfl dL_law_889 rfl ?_
  refine z_iload E hl 5 rfl dL_law_890 ?_
  refine z_iconst E dL_law_892 ?_
  refine z_iadd E dL_law_893 ?_
  refine z_sld E S9 G (i + 2) (by omega) (by omega) dL_law_894 ?_
  refine z_eq (y := m) hx2 ?_
  refine z_aload_n E hl 1 rfl dL_law_895 rfl ?_
  refine z_iload E hl 5 rfl dL_law_896 ?_
  refine z_iconst E dL_law_898 ?_
  refine z_iadd E dL_law_899 ?_
  refine z_sld E S9 G (i + 3) (by omega) (by omega) dL_law_900 ?_
  refine z_eq (y := w) hx3 ?_
  refine z_callV E G hl.1 (c_X5_flow_0 l D k4 mo mnw mte mge mus mco mfl mba mdu th n p st cc bc pot gr bk btw bhd k m w (by omega) (by omega)) kV_L_134 ⟨rfl, rfl, Nat.le_of_ble_eq_true rfl, Nat.le_of_ble_eq_true rfl⟩ [0] rfl (by decide) 0 5 rfl rfl rfl rfl rfl (Nat.le_of_ble_eq_true rfl) dL_law_901 ⟨by omega, by omega⟩ (fun v9 w9 H locs hq G => ?_)
  obtain ⟨rfl, rfl⟩ := hq
  refine W.eq (g2 := F0 mm 904 ls [.int (iI (0))]) rfl ?_
  have G : zG D AA ss.heap ((mo, .inr (5, [.int (iI (1)), .int (iI (((n : Nat) : Int))), .ref mnw, .ref mte, .ref mge, .ref mus, .int (iI (((p : Nat) : Int))), .int (iI (((st : Nat) : Int))), .int (iI (cc)), .int (iI (bc)), .ref mco, .ref mfl, .ref mba, .ref mdu, .long (lI (pot)), .long (lI (gr)), .long (lI (bk)), .int (iI (btw)), .int (iI (bhd))])) :: (mnw, .inl (k4 0, 19, .inl (fun i9 => iI (NW i9)))) :: (mte, .inl (k4 0, 912, .inl (fun i9 => iI (TE i9)))) :: (mge, .inl (k4 0, 288, .inl (fun i9 => iI (GE i9)))) :: (mus, .inl (k4 0, 288, .inl (fun i9 => iI (US i9)))) :: (mco, .inl (k4 0, 48, .inl (fun i9 => iI (CO i9)))) :: (mfl, .inl (k4 0, 2304, .inl (fun i9 => iI (FL i9)))) :: (mba, .inl (k4 1, 6, .inr (.inl (fun i9 => lI (BA i9))))) :: (mdu, .inl (k4 1, 6, .inr (.inl (fun i9 => lI (DU i9))))) :: (ao, .inl (k4 1, 1, .inr (.inl (fun i9 => lI (O i9))))) :: (xW k4 lo lnow lsl lcl lba ldu nsh nrk h1 r1 q1 h2 r2 q2 ta sa n p st cc bc pot gr bk nw bal due S1 S2 tx sg)) H locs := G
  refine z_istore E [(6, .int (iI (0))), (5, .int (iI (1))), (0, .ref bs), (1, .ref lo), (2, .ref mo), (3, .ref ao), (4, .int (iI (((i : Nat) : Int))))] dL_law_904 hl (by decide) rfl (fun ls hl => ?_)
  refine z_aload_n E hl 4 rfl dL_law_906 rfl ?_
  refine z_callV E G hl.1 (c_X5_thrown l D k4 mo mnw mte mge mus mco mfl mba mdu 1 n p st cc bc pot gr bk btw bhd ) kV_L_89 ⟨rfl, rfl, Nat.le_of_ble_eq_true rfl, Nat.le_of_ble_eq_true rfl⟩ [0] rfl (by decide) 0 5 rfl rfl rfl rfl rfl (Nat.le_of_ble_eq_true rfl) dL_law_907 ⟨by omega, by omega⟩ (fun v9 w9 H locs hq G => ?_)
  obtain ⟨rfl, rfl⟩ := hq
  refine W.eq (g2 := F0 mm 910 ls [.int (iI (1))]) rfl ?_
  have G : zG D AA ss.heap ((mo, .inr (5, [.int (iI (1)), .int (iI (((n : Nat) : Int))), .ref mnw, .ref mte, .ref mge, .ref mus, .int (iI (((p : Nat) : Int))), .int (iI (((st : Nat) : Int))), .int (iI (cc)), .int (iI (bc)), .ref mco, .ref mfl, .ref mba, .ref mdu, .long (lI (pot)), .long (lI (gr)), .long (lI (bk)), .int (iI (btw)), .int (iI (bhd))])) :: (mnw, .inl (k4 0, 19, .inl (fun i9 => iI (NW i9)))) :: (mte, .inl (k4 0, 912, .inl (fun i9 => iI (TE i9)))) :: (mge, .inl (k4 0, 288, .inl (fun i9 => iI (GE i9)))) :: (mus, .inl (k4 0, 288, .inl (fun i9 => iI (US i9)))) :: (mco, .inl (k4 0, 48, .inl (fun i9 => iI (CO i9)))) :: (mfl, .inl (k4 0, 2304, .inl (fun i9 => iI (FL i9)))) :: (mba, .inl (k4 1, 6, .inr (.inl (fun i9 => lI (BA i9))))) :: (mdu, .inl (k4 1, 6, .inr (.inl (fun i9 => lI (DU i9))))) :: (ao, .inl (k4 1, 1, .inr (.inl (fun i9 => lI (O i9))))) :: (xW k4 lo lnow lsl lcl lba ldu nsh nrk h1 r1 q1 h2 r2 q2 ta sa n p st cc bc pot gr bk nw bal due S1 S2 tx sg)) H locs := G
  refine z_iload E hl 1 rfl dL_law_910 ?_
  refine z_icmp_eq (tgt := 917) E dL_law_912 (by decide) (by decide) (by decide) (fun c_912 => ?_) (fun c_912 => absurd c_912 (by decide))
  refine z_iload E hl 1 rfl dL_law_917 ?_
  refine z_if_ne (tgt := 934) E dL_law_919 (by decide) (by decide) (fun c_919 => ?_) (fun c_919 => absurd c_919 (by decide))
  refine z_goto (tgt := 1502) E dL_law_934 (by decide) ?_
  refine W.cs (cells' := cl9 + ((1) + (0))) (slots' := sl9 + ((6) + (0))) (by omega) (by omega) ?_
  exact kk _ _ _ G (lv_sub hl [2, 3, 4, 5, 6] rfl)

set_option maxHeartbeats 4000000 in
set_option maxRecDepth 100000 in
theorem s_flow_1 {pp : Program} {l : Launch} {ee : Env} {ss : State} {mm : MethodId} {bl : List Frame} {me : Method} {co : Code} {AA : Nat → Prop} {H : Heap} {locs : List Loc} {ls : Array Slot} {Q9 : State → Prop} {D : va_G} {k4 : Nat → ClassId} {bs Ls : Nat} {xs : Nat → Int32} {cl9 sl9 : Nat} (hl9 : l.stackTraces = false) (E : zE pp mm co cL_law 9 ss #[Value.ref bs] RL D k4) (X : zEL ss AA) (S9 : zSc bs Ls xs ss AA) (i : Nat) (hi5 : i + 4 < Ls) (lo lnow lsl lcl lba ldu nsh nrk h1 r1 q1 h2 r2 q2 : Nat) (ta : Nat → Nat) (sa : Nat → Nat → Nat) (n p st : Nat) (cc bc pot gr bk : Int) (nw bal due : Nat → Int) (S1 S2 : sS) (tx : Nat → Nat → Int) (sg : Nat → Nat → Nat → Int) (k : Nat) (m : Int) (w : Int) (mo mnw mte mge mus mco mfl mba mdu : Nat) (th btw bhd : Int) (NW TE GE US CO FL BA DU : Nat → Int) (ao : Nat) (O : Nat → Int) (hX : xOK n p st bc nw S1 S2 tx sg) (hk : k < 48) (hm : -2147483648 ≤ m ∧ m ≤ 2147483647 ∧ (m < 0 ∨ (n : Int) ≤ m)) (hn9 : n ≤ 6) (hp9 : p ≤ 48) (hs9 : st ≤ 48) (hcc : rng cc) (hb9 : 0 ≤ bc ∧ bc ≤ 20000) (hx1 : (xs (i + 1)).toInt = ((k : Nat) : Int)) (hx2 : (xs (i + 2)).toInt = m) (hx3 : (xs (i + 3)).toInt = w) (hc9 : cl9 + ((1) + (0)) ≤ room_1.cells) (hs99 : sl9 + ((6) + (0)) ≤ room_1.slots) (G : zG D AA ss.heap ((mo, .inr (5, [.int (iI (th)), .int (iI (((n : Nat) : Int))), .ref mnw, .ref mte, .ref mge, .ref mus, .int (iI (((p : Nat) : Int))), .int (iI (((st : Nat) : Int))), .int (iI (cc)), .int (iI (bc)), .ref mco, .ref mfl, .ref mba, .ref mdu, .long (lI (pot)), .long (lI (gr)), .long (lI (bk)), .int (iI (btw)), .int (iI (bhd))])) :: (mnw, .inl (k4 0, 19, .inl (fun i9 => iI (NW i9)))) :: (mte, .inl (k4 0, 912, .inl (fun i9 => iI (TE i9)))) :: (mge, .inl (k4 0, 288, .inl (fun i9 => iI (GE i9)))) :: (mus, .inl (k4 0, 288, .inl (fun i9 => iI (US i9)))) :: (mco, .inl (k4 0, 48, .inl (fun i9 => iI (CO i9)))) :: (mfl, .inl (k4 0, 2304, .inl (fun i9 => iI (FL i9)))) :: (mba, .inl (k4 1, 6, .inr (.inl (fun i9 => lI (BA i9))))) :: (mdu, .inl (k4 1, 6, .inr (.inl (fun i9 => lI (DU i9))))) :: (ao, .inl (k4 1, 1, .inr (.inl (fun i9 => lI (O i9))))) :: (xW k4 lo lnow lsl lcl lba ldu nsh nrk h1 r1 q1 h2 r2 q2 ta sa n p st cc bc pot gr bk nw bal due S1 S2 tx sg)) H locs) (hl : lv_has ls 9 [(0, .ref bs), (1, .ref lo), (2, .ref mo), (3, .ref ao), (4, .int (iI (((i : Nat) : Int))))]) (kk : ∀ (H : Heap) (locs : List Loc) (ls : Array Slot), zG D AA ss.heap ((mo, .inr (5, [.int (iI (1)), .int (iI (((n : Nat) : Int))), .ref mnw, .ref mte, .ref mge, .ref mus, .int (iI (((p : Nat) : Int))), .int (iI (((st : Nat) : Int))), .int (iI (cc)), .int (iI (bc)), .ref mco, .ref mfl, .ref mba, .ref mdu, .long (lI (pot)), .long (lI (gr)), .long (lI (bk)), .int (iI (btw)), .int (iI (bhd))])) :: (mnw, .inl (k4 0, 19, .inl (fun i9 => iI (NW i9)))) :: (mte, .inl (k4 0, 912, .inl (fun i9 => iI (TE i9)))) :: (mge, .inl (k4 0, 288, .inl (fun i9 => iI (GE i9)))) :: (mus, .inl (k4 0, 288, .inl (fun i9 => iI (US i9)))) :: (mco, .inl (k4 0, 48, .inl (fun i9 => iI (CO i9)))) :: (mfl, .inl (k4 0, 2304, .inl (fun i9 => iI (FL i9)))) :: (mba, .inl (k4 1, 6, .inr (.inl (fun i9 => lI (BA i9))))) :: (mdu, .inl (k4 1, 6, .inr (.inl (fun i9 => lI (DU i9))))) :: (ao, .inl (k4 1, 1, .inr (.inl (fun i9 => lI (O i9))))) :: (xW k4 lo lnow lsl lcl lba ldu nsh nrk h1 r1 q1 h2 r2 q2 ta sa n p st cc bc pot gr bk nw bal due S1 S2 tx sg)) H locs → lv_has ls 9 [(0, .ref bs), (1, .ref lo), (2, .ref mo), (3, .ref ao), (4, .int (iI (((i : Nat) : Int))))] → W pp l ee room_1 ss mm #[Value.ref bs] bl me co H locs (cl9 + ((1) + (0))) (sl9 + ((6) + (0))) Q9 (F0 mm 1502 ls [])) : W pp l ee room_1 ss mm #[Value.ref bs] bl me co H locs (cl9) (sl9) Q9 (F0 mm 857 ls []) := by
  refine z_aload_n E hl 1 rfl dL_law_857 rfl ?_
  refine z_aload_n E hl 0 rfl dL_law_858 rfl ?_
  refine z_iload E hl 4 rfl dL_law_859 ?_
  refine z_iconst E dL_law_861 ?_
  refine z_iadd E dL_law_862 ?_
  refine z_sld E S9 G (i + 1) (by omega) (by omega) dL_law_863 ?_
  refine z_eq (y := ((k : Nat) : Int)) hx1 ?_
  refine z_aload_n E hl 0 rfl dL_law_864 rfl ?_
  refine z_iload E hl 4 rfl dL_law_865 ?_
  refine z_iconst E dL_law_867 ?_
  refine z_iadd E dL_law_868 ?_
  refine z_sld E S9 G (i + 2) (by omega) (by omega) dL_law_869 ?_
  refine z_eq (y := m) hx2 ?_
  refine z_aload_n E hl 0 rfl dL_law_870 rfl ?_
  refine z_iload E hl 4 rfl dL_law_871 ?_
  refine z_iconst E dL_law_873 ?_
  refine z_iadd E dL_law_874 ?_
  refine z_sld E S9 G (i + 3) (by omega) (by omega) dL_law_875 ?_
  refine z_eq (y := w) hx3 ?_
  refine z_aload_n E hl 3 rfl dL_law_876 rfl ?_
  refine z_callL (n := 5) (pre := [(mo, .inr (5, [.int (iI (th)), .int (iI (((n : Nat) : Int))), .ref mnw, .ref mte, .ref mge, .ref mus, .int (iI (((p : Nat) : Int))), .int (iI (((st : Nat) : Int))), .int (iI (cc)), .int (iI (bc)), .ref mco, .ref mfl, .ref mba, .ref mdu, .long (lI (pot)), .long (lI (gr)), .long (lI (bk)), .int (iI (btw)), .int (iI (bhd))])), (mnw, .inl (k4 0, 19, .inl (fun i9 => iI (NW i9)))), (mte, .inl (k4 0, 912, .inl (fun i9 => iI (TE i9)))), (mge, .inl (k4 0, 288, .inl (fun i9 => iI (GE i9)))), (mus, .inl (k4 0, 288, .inl (fun i9 => iI (US i9)))), (mco, .inl (k4 0, 48, .inl (fun i9 => iI (CO i9)))), (mfl, .inl (k4 0, 2304, .inl (fun i9 => iI (FL i9)))), (mba, .inl (k4 1, 6, .inr (.inl (fun i9 => lI (BA i9))))), (mdu, .inl (k4 1, 6, .inr (.inl (fun i9 => lI (DU i9)))))]) E X G hl.1 (w_flow_1 l hl9 D k4 lo lnow lsl lcl lba ldu nsh nrk h1 r1 q1 h2 r2 q2 ta sa n p st cc bc pot gr bk nw bal due S1 S2 tx sg k m w ao O hX hk hm) zw_491 zw_492 zw_74 zw_493 (by decide +kernel) (by decide +kernel) ⟨rfl, rfl, Nat.le_of_ble_eq_true rfl, Nat.le_of_ble_eq_true rfl⟩ rfl rfl (Nat.le_of_ble_eq_true rfl) dL_law_877 ⟨by omega, by omega⟩ (fun v9 w9 H locs hq G => ?_)
  obtain ⟨rfl, rfl⟩ := hq
  refine W.eq (g2 := F0 mm 880 ls [.int (iI (1))]) rfl ?_
  have G : zG D AA ss.heap ((mo, .inr (5, [.int (iI (th)), .int (iI (((n : Nat) : Int))), .ref mnw, .ref mte, .ref mge, .ref mus, .int (iI (((p : Nat) : Int))), .int (iI (((st : Nat) : Int))), .int (iI (cc)), .int (iI (bc)), .ref mco, .ref mfl, .ref mba, .ref mdu, .long (lI (pot)), .long (lI (gr)), .long (lI (bk)), .int (iI (btw)), .int (iI (bhd))])) :: (mnw, .inl (k4 0, 19, .inl (fun i9 => iI (NW i9)))) :: (mte, .inl (k4 0, 912, .inl (fun i9 => iI (TE i9)))) :: (mge, .inl (k4 0, 288, .inl (fun i9 => iI (GE i9)))) :: (mus, .inl (k4 0, 288, .inl (fun i9 => iI (US i9)))) :: (mco, .inl (k4 0, 48, .inl (fun i9 => iI (CO i9)))) :: (mfl, .inl (k4 0, 2304, .inl (fun i9 => iI (FL i9)))) :: (mba, .inl (k4 1, 6, .inr (.inl (fun i9 => lI (BA i9))))) :: (mdu, .inl (k4 1, 6, .inr (.inl (fun i9 => lI (DU i9))))) :: (ao, .inl (k4 1, 1, .inr (.inl (fun i9 => lI (O i9))))) :: (xW k4 lo lnow lsl lcl lba ldu nsh nrk h1 r1 q1 h2 r2 q2 ta sa n p st cc bc pot gr bk nw bal due S1 S2 tx sg)) H locs := G
  refine z_istore E [(5, .int (iI (1))), (0, .ref bs), (1, .ref lo), (2, .ref mo), (3, .ref ao), (4, .int (iI (((i : Nat) : Int))))] dL_law_880 hl (by decide) rfl (fun ls hl => ?_)
  refine z_aload_n E hl 3 rfl dL_law_882 rfl ?_
  refine z_aload_n E hl 1 rfl dL_law_883 rfl ?_
  refine z_iload E hl 5 rfl dL_law_884 ?_
  refine z_iconst E dL_law_886 ?_
  refine z_iadd E dL_law_887 ?_
  refine z_sld E S9 G (i + 1) (by omega) (by omega) dL_law_888 ?_
  refine z_eq (y := ((k : Nat) : Int)) hx1 ?_
  refine z_aload_n E hl 1 rfl dL_law_889 rfl ?_
  refine z_iload E hl 5 rfl dL_law_890 ?_
  refine z_iconst E dL_law_892 ?_
  refine z_iadd E dL_law_893 ?_
  refine z_sld E S9 G (i + 2) (by omega) (by omega) dL_law_894 ?_
  refine z_eq (y := m) hx2 ?_
  refine z_aload_n E hl 1 rfl dL_law_895 rfl ?_
  refine z_iload E hl 5 rfl dL_law_896 ?_
  refine z_iconst E dL_law_898 ?_
  refine z_iadd E dL_law_899 ?_
  refine z_sld E S9 G (i + 3) (by omega) (by omega) dL_law_900 ?_
  refine z_eq (y := w) hx3 ?_
  refine z_callV E G hl.1 (c_X5_flow_1 l D k4 mo mnw mte mge mus mco mfl mba mdu th n p st cc bc pot gr bk btw bhd k m w (by omega) (by omega) (by omega)) kV_L_134 ⟨rfl, rfl, Nat.le_of_ble_eq_true rfl, Nat.le_of_ble_eq_true rfl⟩ [0] rfl (by decide) 0 5 rfl rfl rfl rfl rfl (Nat.le_of_ble_eq_true rfl) dL_law_901 ⟨by omega, by omega⟩ (fun v9 w9 H locs hq G => ?_)
  obtain ⟨rfl, rfl⟩ := hq
  refine W.eq (g2 := F0 mm 904 ls [.int (iI (0))]) rfl ?_
  have G : zG D AA ss.heap ((mo, .inr (5, [.int (iI (1)), .int (iI (((n : Nat) : Int))), .ref mnw, .ref mte, .ref mge, .ref mus, .int (iI (((p : Nat) : Int))), .int (iI (((st : Nat) : Int))), .int (iI (cc)), .int (iI (bc)), .ref mco, .ref mfl, .ref mba, .ref mdu, .long (lI (pot)), .long (lI (gr)), .long (lI (bk)), .int (iI (btw)), .int (iI (bhd))])) :: (mnw, .inl (k4 0, 19, .inl (fun i9 => iI (NW i9)))) :: (mte, .inl (k4 0, 912, .inl (fun i9 => iI (TE i9)))) :: (mge, .inl (k4 0, 288, .inl (fun i9 => iI (GE i9)))) :: (mus, .inl (k4 0, 288, .inl (fun i9 => iI (US i9)))) :: (mco, .inl (k4 0, 48, .inl (fun i9 => iI (CO i9)))) :: (mfl, .inl (k4 0, 2304, .inl (fun i9 => iI (FL i9)))) :: (mba, .inl (k4 1, 6, .inr (.inl (fun i9 => lI (BA i9))))) :: (mdu, .inl (k4 1, 6, .inr (.inl (fun i9 => lI (DU i9))))) :: (ao, .inl (k4 1, 1, .inr (.inl (fun i9 => lI (O i9))))) :: (xW k4 lo lnow lsl lcl lba ldu nsh nrk h1 r1 q1 h2 r2 q2 ta sa n p st cc bc pot gr bk nw bal due S1 S2 tx sg)) H locs := G
  refine z_istore E [(6, .int (iI (0))), (5, .int (iI (1))), (0, .ref bs), (1, .ref lo), (2, .ref mo), (3, .ref ao), (4, .int (iI (((i : Nat) : Int))))] dL_law_904 hl (by decide) rfl (fun ls hl => ?_)
  refine z_aload_n E hl 4 rfl dL_law_906 rfl ?_
  refine z_callV E G hl.1 (c_X5_thrown l D k4 mo mnw mte mge mus mco mfl mba mdu 1 n p st cc bc pot gr bk btw bhd ) kV_L_89 ⟨rfl, rfl, Nat.le_of_ble_eq_true rfl, Nat.le_of_ble_eq_true rfl⟩ [0] rfl (by decide) 0 5 rfl rfl rfl rfl rfl (Nat.le_of_ble_eq_true rfl) dL_law_907 ⟨by omega, by omega⟩ (fun v9 w9 H locs hq G => ?_)
  obtain ⟨rfl, rfl⟩ := hq
  refine W.eq (g2 := F0 mm 910 ls [.int (iI (1))]) rfl ?_
  have G : zG D AA ss.heap ((mo, .inr (5, [.int (iI (1)), .int (iI (((n : Nat) : Int))), .ref mnw, .ref mte, .ref mge, .ref mus, .int (iI (((p : Nat) : Int))), .int (iI (((st : Nat) : Int))), .int (iI (cc)), .int (iI (bc)), .ref mco, .ref mfl, .ref mba, .ref mdu, .long (lI (pot)), .long (lI (gr)), .long (lI (bk)), .int (iI (btw)), .int (iI (bhd))])) :: (mnw, .inl (k4 0, 19, .inl (fun i9 => iI (NW i9)))) :: (mte, .inl (k4 0, 912, .inl (fun i9 => iI (TE i9)))) :: (mge, .inl (k4 0, 288, .inl (fun i9 => iI (GE i9)))) :: (mus, .inl (k4 0, 288, .inl (fun i9 => iI (US i9)))) :: (mco, .inl (k4 0, 48, .inl (fun i9 => iI (CO i9)))) :: (mfl, .inl (k4 0, 2304, .inl (fun i9 => iI (FL i9)))) :: (mba, .inl (k4 1, 6, .inr (.inl (fun i9 => lI (BA i9))))) :: (mdu, .inl (k4 1, 6, .inr (.inl (fun i9 => lI (DU i9))))) :: (ao, .inl (k4 1, 1, .inr (.inl (fun i9 => lI (O i9))))) :: (xW k4 lo lnow lsl lcl lba ldu nsh nrk h1 r1 q1 h2 r2 q2 ta sa n p st cc bc pot gr bk nw bal due S1 S2 tx sg)) H locs := G
  refine z_iload E hl 1 rfl dL_law_910 ?_
  refine z_icmp_eq (tgt := 917) E dL_law_912 (by decide) (by decide) (by decide) (fun c_912 => ?_) (fun c_912 => absurd c_912 (by decide))
  refine z_iload E hl 1 rfl dL_law_917 ?_
  refine z_if_ne (tgt := 934) E dL_law_919 (by decide) (by decide) (fun c_919 => ?_) (fun c_919 => absurd c_919 (by decide))
  refine z_goto (tgt := 1502) E dL_law_934 (by decide) ?_
  refine W.cs (cells' := cl9 + ((1) + (0))) (slots' := sl9 + ((6) + (0))) (by omega) (by omega) ?_
  exact kk _ _ _ G (lv_sub hl [2, 3, 4, 5, 6] rfl)

set_option maxHeartbeats 4000000 in
set_option maxRecDepth 100000 in
theorem s_flow_2 {pp : Program} {l : Launch} {ee : Env} {ss : State} {mm : MethodId} {bl : List Frame} {me : Method} {co : Code} {AA : Nat → Prop} {H : Heap} {locs : List Loc} {ls : Array Slot} {Q9 : State → Prop} {D : va_G} {k4 : Nat → ClassId} {bs Ls : Nat} {xs : Nat → Int32} {cl9 sl9 : Nat} (hl9 : l.stackTraces = false) (E : zE pp mm co cL_law 9 ss #[Value.ref bs] RL D k4) (X : zEL ss AA) (S9 : zSc bs Ls xs ss AA) (i : Nat) (hi5 : i + 4 < Ls) (lo lnow lsl lcl lba ldu nsh nrk h1 r1 q1 h2 r2 q2 : Nat) (ta : Nat → Nat) (sa : Nat → Nat → Nat) (n p st : Nat) (cc bc pot gr bk : Int) (nw bal due : Nat → Int) (S1 S2 : sS) (tx : Nat → Nat → Int) (sg : Nat → Nat → Nat → Int) (k : Nat) (m : Nat) (w : Int) (mo mnw mte mge mus mco mfl mba mdu : Nat) (th btw bhd : Int) (NW TE GE US CO FL BA DU : Nat → Int) (ao : Nat) (O : Nat → Int) (hX : xOK n p st bc nw S1 S2 tx sg) (hk : k < 48) (hm : m < n) (hw : -2147483648 ≤ w ∧ w ≤ 2147483647 ∧ (w < 0 ∨ 7 < w)) (hn9 : n ≤ 6) (hp9 : p ≤ 48) (hs9 : st ≤ 48) (hcc : rng cc) (hb9 : 0 ≤ bc ∧ bc ≤ 20000) (hx1 : (xs (i + 1)).toInt = ((k : Nat) : Int)) (hx2 : (xs (i + 2)).toInt = ((m : Nat) : Int)) (hx3 : (xs (i + 3)).toInt = w) (hc9 : cl9 + ((1) + (0)) ≤ room_1.cells) (hs99 : sl9 + ((6) + (0)) ≤ room_1.slots) (G : zG D AA ss.heap ((mo, .inr (5, [.int (iI (th)), .int (iI (((n : Nat) : Int))), .ref mnw, .ref mte, .ref mge, .ref mus, .int (iI (((p : Nat) : Int))), .int (iI (((st : Nat) : Int))), .int (iI (cc)), .int (iI (bc)), .ref mco, .ref mfl, .ref mba, .ref mdu, .long (lI (pot)), .long (lI (gr)), .long (lI (bk)), .int (iI (btw)), .int (iI (bhd))])) :: (mnw, .inl (k4 0, 19, .inl (fun i9 => iI (NW i9)))) :: (mte, .inl (k4 0, 912, .inl (fun i9 => iI (TE i9)))) :: (mge, .inl (k4 0, 288, .inl (fun i9 => iI (GE i9)))) :: (mus, .inl (k4 0, 288, .inl (fun i9 => iI (US i9)))) :: (mco, .inl (k4 0, 48, .inl (fun i9 => iI (CO i9)))) :: (mfl, .inl (k4 0, 2304, .inl (fun i9 => iI (FL i9)))) :: (mba, .inl (k4 1, 6, .inr (.inl (fun i9 => lI (BA i9))))) :: (mdu, .inl (k4 1, 6, .inr (.inl (fun i9 => lI (DU i9))))) :: (ao, .inl (k4 1, 1, .inr (.inl (fun i9 => lI (O i9))))) :: (xW k4 lo lnow lsl lcl lba ldu nsh nrk h1 r1 q1 h2 r2 q2 ta sa n p st cc bc pot gr bk nw bal due S1 S2 tx sg)) H locs) (hl : lv_has ls 9 [(0, .ref bs), (1, .ref lo), (2, .ref mo), (3, .ref ao), (4, .int (iI (((i : Nat) : Int))))]) (kk : ∀ (H : Heap) (locs : List Loc) (ls : Array Slot), zG D AA ss.heap ((mo, .inr (5, [.int (iI (1)), .int (iI (((n : Nat) : Int))), .ref mnw, .ref mte, .ref mge, .ref mus, .int (iI (((p : Nat) : Int))), .int (iI (((st : Nat) : Int))), .int (iI (cc)), .int (iI (bc)), .ref mco, .ref mfl, .ref mba, .ref mdu, .long (lI (pot)), .long (lI (gr)), .long (lI (bk)), .int (iI (btw)), .int (iI (bhd))])) :: (mnw, .inl (k4 0, 19, .inl (fun i9 => iI (NW i9)))) :: (mte, .inl (k4 0, 912, .inl (fun i9 => iI (TE i9)))) :: (mge, .inl (k4 0, 288, .inl (fun i9 => iI (GE i9)))) :: (mus, .inl (k4 0, 288, .inl (fun i9 => iI (US i9)))) :: (mco, .inl (k4 0, 48, .inl (fun i9 => iI (CO i9)))) :: (mfl, .inl (k4 0, 2304, .inl (fun i9 => iI (FL i9)))) :: (mba, .inl (k4 1, 6, .inr (.inl (fun i9 => lI (BA i9))))) :: (mdu, .inl (k4 1, 6, .inr (.inl (fun i9 => lI (DU i9))))) :: (ao, .inl (k4 1, 1, .inr (.inl (fun i9 => lI (O i9))))) :: (xW k4 lo lnow lsl lcl lba ldu nsh nrk h1 r1 q1 h2 r2 q2 ta sa n p st cc bc pot gr bk nw bal due S1 S2 tx sg)) H locs → lv_has ls 9 [(0, .ref bs), (1, .ref lo), (2, .ref mo), (3, .ref ao), (4, .int (iI (((i : Nat) : Int))))] → W pp l ee room_1 ss mm #[Value.ref bs] bl me co H locs (cl9 + ((1) + (0))) (sl9 + ((6) + (0))) Q9 (F0 mm 1502 ls [])) : W pp l ee room_1 ss mm #[Value.ref bs] bl me co H locs (cl9) (sl9) Q9 (F0 mm 857 ls []) := by
  refine z_aload_n E hl 1 rfl dL_law_857 rfl ?_
  refine z_aload_n E hl 0 rfl dL_law_858 rfl ?_
  refine z_iload E hl 4 rfl dL_law_859 ?_
  refine z_iconst E dL_law_861 ?_
  refine z_iadd E dL_law_862 ?_
  refine z_sld E S9 G (i + 1) (by omega) (by omega) dL_law_863 ?_
  refine z_eq (y := ((k : Nat) : Int)) hx1 ?_
  refine z_aload_n E hl 0 rfl dL_law_864 rfl ?_
  refine z_iload E hl 4 rfl dL_law_865 ?_
  refine z_iconst E dL_law_867 ?_
  refine z_iadd E dL_law_868 ?_
  refine z_sld E S9 G (i + 2) (by omega) (by omega) dL_law_869 ?_
  refine z_eq (y := ((m : Nat) : Int)) hx2 ?_
  refine z_aload_n E hl 0 rfl dL_law_870 rfl ?_
  refine z_iload E hl 4 rfl dL_law_871 ?_
  refine z_iconst E dL_law_873 ?_
  refine z_iadd E dL_law_874 ?_
  refine z_sld E S9 G (i + 3) (by omega) (by omega) dL_law_875 ?_
  refine z_eq (y := w) hx3 ?_
  refine z_aload_n E hl 3 rfl dL_law_876 rfl ?_
  refine z_callL (n := 5) (pre := [(mo, .inr (5, [.int (iI (th)), .int (iI (((n : Nat) : Int))), .ref mnw, .ref mte, .ref mge, .ref mus, .int (iI (((p : Nat) : Int))), .int (iI (((st : Nat) : Int))), .int (iI (cc)), .int (iI (bc)), .ref mco, .ref mfl, .ref mba, .ref mdu, .long (lI (pot)), .long (lI (gr)), .long (lI (bk)), .int (iI (btw)), .int (iI (bhd))])), (mnw, .inl (k4 0, 19, .inl (fun i9 => iI (NW i9)))), (mte, .inl (k4 0, 912, .inl (fun i9 => iI (TE i9)))), (mge, .inl (k4 0, 288, .inl (fun i9 => iI (GE i9)))), (mus, .inl (k4 0, 288, .inl (fun i9 => iI (US i9)))), (mco, .inl (k4 0, 48, .inl (fun i9 => iI (CO i9)))), (mfl, .inl (k4 0, 2304, .inl (fun i9 => iI (FL i9)))), (mba, .inl (k4 1, 6, .inr (.inl (fun i9 => lI (BA i9))))), (mdu, .inl (k4 1, 6, .inr (.inl (fun i9 => lI (DU i9)))))]) E X G hl.1 (w_flow_2 l hl9 D k4 lo lnow lsl lcl lba ldu nsh nrk h1 r1 q1 h2 r2 q2 ta sa n p st cc bc pot gr bk nw bal due S1 S2 tx sg k m w ao O hX hk hm hw) zw_491 zw_492 zw_74 zw_493 (by decide +kernel) (by decide +kernel) ⟨rfl, rfl, Nat.le_of_ble_eq_true rfl, Nat.le_of_ble_eq_true rfl⟩ rfl rfl (Nat.le_of_ble_eq_true rfl) dL_law_877 ⟨by omega, by omega⟩ (fun v9 w9 H locs hq G => ?_)
  obtain ⟨rfl, rfl⟩ := hq
  refine W.eq (g2 := F0 mm 880 ls [.int (iI (1))]) rfl ?_
  have G : zG D AA ss.heap ((mo, .inr (5, [.int (iI (th)), .int (iI (((n : Nat) : Int))), .ref mnw, .ref mte, .ref mge, .ref mus, .int (iI (((p : Nat) : Int))), .int (iI (((st : Nat) : Int))), .int (iI (cc)), .int (iI (bc)), .ref mco, .ref mfl, .ref mba, .ref mdu, .long (lI (pot)), .long (lI (gr)), .long (lI (bk)), .int (iI (btw)), .int (iI (bhd))])) :: (mnw, .inl (k4 0, 19, .inl (fun i9 => iI (NW i9)))) :: (mte, .inl (k4 0, 912, .inl (fun i9 => iI (TE i9)))) :: (mge, .inl (k4 0, 288, .inl (fun i9 => iI (GE i9)))) :: (mus, .inl (k4 0, 288, .inl (fun i9 => iI (US i9)))) :: (mco, .inl (k4 0, 48, .inl (fun i9 => iI (CO i9)))) :: (mfl, .inl (k4 0, 2304, .inl (fun i9 => iI (FL i9)))) :: (mba, .inl (k4 1, 6, .inr (.inl (fun i9 => lI (BA i9))))) :: (mdu, .inl (k4 1, 6, .inr (.inl (fun i9 => lI (DU i9))))) :: (ao, .inl (k4 1, 1, .inr (.inl (fun i9 => lI (O i9))))) :: (xW k4 lo lnow lsl lcl lba ldu nsh nrk h1 r1 q1 h2 r2 q2 ta sa n p st cc bc pot gr bk nw bal due S1 S2 tx sg)) H locs := G
  refine z_istore E [(5, .int (iI (1))), (0, .ref bs), (1, .ref lo), (2, .ref mo), (3, .ref ao), (4, .int (iI (((i : Nat) : Int))))] dL_law_880 hl (by decide) rfl (fun ls hl => ?_)
  refine z_aload_n E hl 3 rfl dL_law_882 rfl ?_
  refine z_aload_n E hl 1 rfl dL_law_883 rfl ?_
  refine z_iload E hl 5 rfl dL_law_884 ?_
  refine z_iconst E dL_law_886 ?_
  refine z_iadd E dL_law_887 ?_
  refine z_sld E S9 G (i + 1) (by omega) (by omega) dL_law_888 ?_
  refine z_eq (y := ((k : Nat) : Int)) hx1 ?_
  refine z_aload_n E hl 1 rfl dL_law_889 rfl ?_
  refine z_iload E hl 5 rfl dL_law_890 ?_
  refine z_iconst E dL_law_892 ?_
  refine z_iadd E dL_law_893 ?_
  refine z_sld E S9 G (i + 2) (by omega) (by omega) dL_law_894 ?_
  refine z_eq (y := ((m : Nat) : Int)) hx2 ?_
  refine z_aload_n E hl 1 rfl dL_law_895 rfl ?_
  refine z_iload E hl 5 rfl dL_law_896 ?_
  refine z_iconst E dL_law_898 ?_
  refine z_iadd E dL_law_899 ?_
  refine z_sld E S9 G (i + 3) (by omega) (by omega) dL_law_900 ?_
  refine z_eq (y := w) hx3 ?_
  refine z_callV E G hl.1 (c_X5_flow_2 l D k4 mo mnw mte mge mus mco mfl mba mdu th n p st cc bc pot gr bk btw bhd k m w (by omega) (by omega) (by omega) (by omega)) kV_L_134 ⟨rfl, rfl, Nat.le_of_ble_eq_true rfl, Nat.le_of_ble_eq_true rfl⟩ [0] rfl (by decide) 0 5 rfl rfl rfl rfl rfl (Nat.le_of_ble_eq_true rfl) dL_law_901 ⟨by omega, by omega⟩ (fun v9 w9 H locs hq G => ?_)
  obtain ⟨rfl, rfl⟩ := hq
  refine W.eq (g2 := F0 mm 904 ls [.int (iI (0))]) rfl ?_
  have G : zG D AA ss.heap ((mo, .inr (5, [.int (iI (1)), .int (iI (((n : Nat) : Int))), .ref mnw, .ref mte, .ref mge, .ref mus, .int (iI (((p : Nat) : Int))), .int (iI (((st : Nat) : Int))), .int (iI (cc)), .int (iI (bc)), .ref mco, .ref mfl, .ref mba, .ref mdu, .long (lI (pot)), .long (lI (gr)), .long (lI (bk)), .int (iI (btw)), .int (iI (bhd))])) :: (mnw, .inl (k4 0, 19, .inl (fun i9 => iI (NW i9)))) :: (mte, .inl (k4 0, 912, .inl (fun i9 => iI (TE i9)))) :: (mge, .inl (k4 0, 288, .inl (fun i9 => iI (GE i9)))) :: (mus, .inl (k4 0, 288, .inl (fun i9 => iI (US i9)))) :: (mco, .inl (k4 0, 48, .inl (fun i9 => iI (CO i9)))) :: (mfl, .inl (k4 0, 2304, .inl (fun i9 => iI (FL i9)))) :: (mba, .inl (k4 1, 6, .inr (.inl (fun i9 => lI (BA i9))))) :: (mdu, .inl (k4 1, 6, .inr (.inl (fun i9 => lI (DU i9))))) :: (ao, .inl (k4 1, 1, .inr (.inl (fun i9 => lI (O i9))))) :: (xW k4 lo lnow lsl lcl lba ldu nsh nrk h1 r1 q1 h2 r2 q2 ta sa n p st cc bc pot gr bk nw bal due S1 S2 tx sg)) H locs := G
  refine z_istore E [(6, .int (iI (0))), (5, .int (iI (1))), (0, .ref bs), (1, .ref lo), (2, .ref mo), (3, .ref ao), (4, .int (iI (((i : Nat) : Int))))] dL_law_904 hl (by decide) rfl (fun ls hl => ?_)
  refine z_aload_n E hl 4 rfl dL_law_906 rfl ?_
  refine z_callV E G hl.1 (c_X5_thrown l D k4 mo mnw mte mge mus mco mfl mba mdu 1 n p st cc bc pot gr bk btw bhd ) kV_L_89 ⟨rfl, rfl, Nat.le_of_ble_eq_true rfl, Nat.le_of_ble_eq_true rfl⟩ [0] rfl (by decide) 0 5 rfl rfl rfl rfl rfl (Nat.le_of_ble_eq_true rfl) dL_law_907 ⟨by omega, by omega⟩ (fun v9 w9 H locs hq G => ?_)
  obtain ⟨rfl, rfl⟩ := hq
  refine W.eq (g2 := F0 mm 910 ls [.int (iI (1))]) rfl ?_
  have G : zG D AA ss.heap ((mo, .inr (5, [.int (iI (1)), .int (iI (((n : Nat) : Int))), .ref mnw, .ref mte, .ref mge, .ref mus, .int (iI (((p : Nat) : Int))), .int (iI (((st : Nat) : Int))), .int (iI (cc)), .int (iI (bc)), .ref mco, .ref mfl, .ref mba, .ref mdu, .long (lI (pot)), .long (lI (gr)), .long (lI (bk)), .int (iI (btw)), .int (iI (bhd))])) :: (mnw, .inl (k4 0, 19, .inl (fun i9 => iI (NW i9)))) :: (mte, .inl (k4 0, 912, .inl (fun i9 => iI (TE i9)))) :: (mge, .inl (k4 0, 288, .inl (fun i9 => iI (GE i9)))) :: (mus, .inl (k4 0, 288, .inl (fun i9 => iI (US i9)))) :: (mco, .inl (k4 0, 48, .inl (fun i9 => iI (CO i9)))) :: (mfl, .inl (k4 0, 2304, .inl (fun i9 => iI (FL i9)))) :: (mba, .inl (k4 1, 6, .inr (.inl (fun i9 => lI (BA i9))))) :: (mdu, .inl (k4 1, 6, .inr (.inl (fun i9 => lI (DU i9))))) :: (ao, .inl (k4 1, 1, .inr (.inl (fun i9 => lI (O i9))))) :: (xW k4 lo lnow lsl lcl lba ldu nsh nrk h1 r1 q1 h2 r2 q2 ta sa n p st cc bc pot gr bk nw bal due S1 S2 tx sg)) H locs := G
  refine z_iload E hl 1 rfl dL_law_910 ?_
  refine z_icmp_eq (tgt := 917) E dL_law_912 (by decide) (by decide) (by decide) (fun c_912 => ?_) (fun c_912 => absurd c_912 (by decide))
  refine z_iload E hl 1 rfl dL_law_917 ?_
  refine z_if_ne (tgt := 934) E dL_law_919 (by decide) (by decide) (fun c_919 => ?_) (fun c_919 => absurd c_919 (by decide))
  refine z_goto (tgt := 1502) E dL_law_934 (by decide) ?_
  refine W.cs (cells' := cl9 + ((1) + (0))) (slots' := sl9 + ((6) + (0))) (by omega) (by omega) ?_
  exact kk _ _ _ G (lv_sub hl [2, 3, 4, 5, 6] rfl)

set_option maxHeartbeats 4000000 in
set_option maxRecDepth 100000 in
theorem s_contentAt {pp : Program} {l : Launch} {ee : Env} {ss : State} {mm : MethodId} {bl : List Frame} {me : Method} {co : Code} {AA : Nat → Prop} {H : Heap} {locs : List Loc} {ls : Array Slot} {Q9 : State → Prop} {D : va_G} {k4 : Nat → ClassId} {bs Ls : Nat} {xs : Nat → Int32} {cl9 sl9 : Nat} (hl9 : l.stackTraces = false) (E : zE pp mm co cL_law 9 ss #[Value.ref bs] RL D k4) (X : zEL ss AA) (S9 : zSc bs Ls xs ss AA) (i : Nat) (hi5 : i + 4 < Ls) (lo lnow lsl lcl lba ldu nsh nrk h1 r1 q1 h2 r2 q2 : Nat) (ta : Nat → Nat) (sa : Nat → Nat → Nat) (n p st : Nat) (cc bc pot gr bk : Int) (nw bal due : Nat → Int) (S1 S2 : sS) (tx : Nat → Nat → Int) (sg : Nat → Nat → Nat → Int) (k : Nat) (mo mnw mte mge mus mco mfl mba mdu : Nat) (th btw bhd : Int) (NW TE GE US CO FL BA DU : Nat → Int) (ao : Nat) (O : Nat → Int) (hX : xOK n p st bc nw S1 S2 tx sg) (hk : k < 48) (hn9 : n ≤ 6) (hp9 : p ≤ 48) (hs9 : st ≤ 48) (hcc : rng cc) (hb9 : 0 ≤ bc ∧ bc ≤ 20000) (hx1 : (xs (i + 1)).toInt = ((k : Nat) : Int)) (hans : ((if k < p then sg k 4 0 else -1) : Int) = (if k < p then CO k else -1)) (hrb : rng (if k < p then CO k else -1)) (hc9 : cl9 + ((0) + (0)) ≤ room_1.cells) (hs99 : sl9 + ((0) + (0)) ≤ room_1.slots) (G : zG D AA ss.heap ((mo, .inr (5, [.int (iI (th)), .int (iI (((n : Nat) : Int))), .ref mnw, .ref mte, .ref mge, .ref mus, .int (iI (((p : Nat) : Int))), .int (iI (((st : Nat) : Int))), .int (iI (cc)), .int (iI (bc)), .ref mco, .ref mfl, .ref mba, .ref mdu, .long (lI (pot)), .long (lI (gr)), .long (lI (bk)), .int (iI (btw)), .int (iI (bhd))])) :: (mnw, .inl (k4 0, 19, .inl (fun i9 => iI (NW i9)))) :: (mte, .inl (k4 0, 912, .inl (fun i9 => iI (TE i9)))) :: (mge, .inl (k4 0, 288, .inl (fun i9 => iI (GE i9)))) :: (mus, .inl (k4 0, 288, .inl (fun i9 => iI (US i9)))) :: (mco, .inl (k4 0, 48, .inl (fun i9 => iI (CO i9)))) :: (mfl, .inl (k4 0, 2304, .inl (fun i9 => iI (FL i9)))) :: (mba, .inl (k4 1, 6, .inr (.inl (fun i9 => lI (BA i9))))) :: (mdu, .inl (k4 1, 6, .inr (.inl (fun i9 => lI (DU i9))))) :: (ao, .inl (k4 1, 1, .inr (.inl (fun i9 => lI (O i9))))) :: (xW k4 lo lnow lsl lcl lba ldu nsh nrk h1 r1 q1 h2 r2 q2 ta sa n p st cc bc pot gr bk nw bal due S1 S2 tx sg)) H locs) (hl : lv_has ls 9 [(0, .ref bs), (1, .ref lo), (2, .ref mo), (3, .ref ao), (4, .int (iI (((i : Nat) : Int))))]) (kk : ∀ (H : Heap) (locs : List Loc) (ls : Array Slot), zG D AA ss.heap ((mo, .inr (5, [.int (iI (0)), .int (iI (((n : Nat) : Int))), .ref mnw, .ref mte, .ref mge, .ref mus, .int (iI (((p : Nat) : Int))), .int (iI (((st : Nat) : Int))), .int (iI (cc)), .int (iI (bc)), .ref mco, .ref mfl, .ref mba, .ref mdu, .long (lI (pot)), .long (lI (gr)), .long (lI (bk)), .int (iI (btw)), .int (iI (bhd))])) :: (mnw, .inl (k4 0, 19, .inl (fun i9 => iI (NW i9)))) :: (mte, .inl (k4 0, 912, .inl (fun i9 => iI (TE i9)))) :: (mge, .inl (k4 0, 288, .inl (fun i9 => iI (GE i9)))) :: (mus, .inl (k4 0, 288, .inl (fun i9 => iI (US i9)))) :: (mco, .inl (k4 0, 48, .inl (fun i9 => iI (CO i9)))) :: (mfl, .inl (k4 0, 2304, .inl (fun i9 => iI (FL i9)))) :: (mba, .inl (k4 1, 6, .inr (.inl (fun i9 => lI (BA i9))))) :: (mdu, .inl (k4 1, 6, .inr (.inl (fun i9 => lI (DU i9))))) :: (ao, .inl (k4 1, 1, .inr (.inl (fun i9 => lI ((up O 0 (if k < p then sg k 4 0 else -1)) i9))))) :: (xW k4 lo lnow lsl lcl lba ldu nsh nrk h1 r1 q1 h2 r2 q2 ta sa n p st cc bc pot gr bk nw bal due S1 S2 tx sg)) H locs → lv_has ls 9 [(0, .ref bs), (1, .ref lo), (2, .ref mo), (3, .ref ao), (4, .int (iI (((i : Nat) : Int))))] → W pp l ee room_1 ss mm #[Value.ref bs] bl me co H locs (cl9 + ((0) + (0))) (sl9 + ((0) + (0))) Q9 (F0 mm 1502 ls [])) : W pp l ee room_1 ss mm #[Value.ref bs] bl me co H locs (cl9) (sl9) Q9 (F0 mm 937 ls []) := by
  refine z_aload_n E hl 1 rfl dL_law_937 rfl ?_
  refine z_aload_n E hl 0 rfl dL_law_938 rfl ?_
  refine z_iload E hl 4 rfl dL_law_939 ?_
  refine z_iconst E dL_law_941 ?_
  refine z_iadd E dL_law_942 ?_
  refine z_sld E S9 G (i + 1) (by omega) (by omega) dL_law_943 ?_
  refine z_eq (y := ((k : Nat) : Int)) hx1 ?_
  refine z_aload_n E hl 3 rfl dL_law_944 rfl ?_
  refine z_callL (n := 3) (pre := [(mo, .inr (5, [.int (iI (th)), .int (iI (((n : Nat) : Int))), .ref mnw, .ref mte, .ref mge, .ref mus, .int (iI (((p : Nat) : Int))), .int (iI (((st : Nat) : Int))), .int (iI (cc)), .int (iI (bc)), .ref mco, .ref mfl, .ref mba, .ref mdu, .long (lI (pot)), .long (lI (gr)), .long (lI (bk)), .int (iI (btw)), .int (iI (bhd))])), (mnw, .inl (k4 0, 19, .inl (fun i9 => iI (NW i9)))), (mte, .inl (k4 0, 912, .inl (fun i9 => iI (TE i9)))), (mge, .inl (k4 0, 288, .inl (fun i9 => iI (GE i9)))), (mus, .inl (k4 0, 288, .inl (fun i9 => iI (US i9)))), (mco, .inl (k4 0, 48, .inl (fun i9 => iI (CO i9)))), (mfl, .inl (k4 0, 2304, .inl (fun i9 => iI (FL i9)))), (mba, .inl (k4 1, 6, .inr (.inl (fun i9 => lI (BA i9))))), (mdu, .inl (k4 1, 6, .inr (.inl (fun i9 => lI (DU i9)))))]) E X G hl.1 (w_contentAt l D k4 lo lnow lsl lcl lba ldu nsh nrk h1 r1 q1 h2 r2 q2 ta sa n p st cc bc pot gr bk nw bal due S1 S2 tx sg k ao O hX hk) zw_503 zw_504 zw_74 zw_505 (by decide +kernel) (by decide +kernel) ⟨rfl, rfl, Nat.le_of_ble_eq_true rfl, Nat.le_of_ble_eq_true rfl⟩ rfl rfl (Nat.le_of_ble_eq_true rfl) dL_law_945 ⟨by omega, by omega⟩ (fun v9 w9 H locs hq G => ?_)
  obtain ⟨rfl, rfl⟩ := hq
  refine W.eq (g2 := F0 mm 948 ls [.int (iI (0))]) rfl ?_
  have G : zG D AA ss.heap ((mo, .inr (5, [.int (iI (th)), .int (iI (((n : Nat) : Int))), .ref mnw, .ref mte, .ref mge, .ref mus, .int (iI (((p : Nat) : Int))), .int (iI (((st : Nat) : Int))), .int (iI (cc)), .int (iI (bc)), .ref mco, .ref mfl, .ref mba, .ref mdu, .long (lI (pot)), .long (lI (gr)), .long (lI (bk)), .int (iI (btw)), .int (iI (bhd))])) :: (mnw, .inl (k4 0, 19, .inl (fun i9 => iI (NW i9)))) :: (mte, .inl (k4 0, 912, .inl (fun i9 => iI (TE i9)))) :: (mge, .inl (k4 0, 288, .inl (fun i9 => iI (GE i9)))) :: (mus, .inl (k4 0, 288, .inl (fun i9 => iI (US i9)))) :: (mco, .inl (k4 0, 48, .inl (fun i9 => iI (CO i9)))) :: (mfl, .inl (k4 0, 2304, .inl (fun i9 => iI (FL i9)))) :: (mba, .inl (k4 1, 6, .inr (.inl (fun i9 => lI (BA i9))))) :: (mdu, .inl (k4 1, 6, .inr (.inl (fun i9 => lI (DU i9))))) :: (ao, .inl (k4 1, 1, .inr (.inl (fun i9 => lI ((up O 0 (if k < p then sg k 4 0 else -1)) i9))))) :: (xW k4 lo lnow lsl lcl lba ldu nsh nrk h1 r1 q1 h2 r2 q2 ta sa n p st cc bc pot gr bk nw bal due S1 S2 tx sg)) H locs := G
  refine z_istore E [(5, .int (iI (0))), (0, .ref bs), (1, .ref lo), (2, .ref mo), (3, .ref ao), (4, .int (iI (((i : Nat) : Int))))] dL_law_948 hl (by decide) rfl (fun ls hl => ?_)
  refine z_aload_n E hl 3 rfl dL_law_950 rfl ?_
  refine z_aload_n E hl 1 rfl dL_law_951 rfl ?_
  refine z_iload E hl 5 rfl dL_law_952 ?_
  refine z_iconst E dL_law_954 ?_
  refine z_iadd E dL_law_955 ?_
  refine z_sld E S9 G (i + 1) (by omega) (by omega) dL_law_956 ?_
  refine z_eq (y := ((k : Nat) : Int)) hx1 ?_
  refine z_callV E G hl.1 (c_X5_contentAt l D k4 mo mnw mte mge mus mco mfl mba mdu th n p st cc bc pot gr bk btw bhd k CO (by omega) (by omega) (by omega)) kV_L_137 ⟨rfl, rfl, Nat.le_of_ble_eq_true rfl, Nat.le_of_ble_eq_true rfl⟩ [0, 5] rfl (by decide) 0 5 rfl rfl rfl rfl rfl (Nat.le_of_ble_eq_true rfl) dL_law_957 ⟨by omega, by omega⟩ (fun v9 w9 H locs hq G => ?_)
  obtain ⟨rfl, rfl⟩ := hq
  refine W.eq (g2 := F0 mm 960 ls [.int (iI (if k < p then CO k else -1))]) rfl ?_
  have G : zG D AA ss.heap ((mo, .inr (5, [.int (iI (0)), .int (iI (((n : Nat) : Int))), .ref mnw, .ref mte, .ref mge, .ref mus, .int (iI (((p : Nat) : Int))), .int (iI (((st : Nat) : Int))), .int (iI (cc)), .int (iI (bc)), .ref mco, .ref mfl, .ref mba, .ref mdu, .long (lI (pot)), .long (lI (gr)), .long (lI (bk)), .int (iI (btw)), .int (iI (bhd))])) :: (mnw, .inl (k4 0, 19, .inl (fun i9 => iI (NW i9)))) :: (mte, .inl (k4 0, 912, .inl (fun i9 => iI (TE i9)))) :: (mge, .inl (k4 0, 288, .inl (fun i9 => iI (GE i9)))) :: (mus, .inl (k4 0, 288, .inl (fun i9 => iI (US i9)))) :: (mco, .inl (k4 0, 48, .inl (fun i9 => iI (CO i9)))) :: (mfl, .inl (k4 0, 2304, .inl (fun i9 => iI (FL i9)))) :: (mba, .inl (k4 1, 6, .inr (.inl (fun i9 => lI (BA i9))))) :: (mdu, .inl (k4 1, 6, .inr (.inl (fun i9 => lI (DU i9))))) :: (ao, .inl (k4 1, 1, .inr (.inl (fun i9 => lI ((up O 0 (if k < p then sg k 4 0 else -1)) i9))))) :: (xW k4 lo lnow lsl lcl lba ldu nsh nrk h1 r1 q1 h2 r2 q2 ta sa n p st cc bc pot gr bk nw bal due S1 S2 tx sg)) H locs := G
  refine z_istore E [(6, .int (iI (if k < p then CO k else -1))), (5, .int (iI (0))), (0, .ref bs), (1, .ref lo), (2, .ref mo), (3, .ref ao), (4, .int (iI (((i : Nat) : Int))))] dL_law_960 hl (by decide) rfl (fun ls hl => ?_)
  refine z_aload_n E hl 4 rfl dL_law_962 rfl ?_
  refine z_callV E G hl.1 (c_X5_thrown l D k4 mo mnw mte mge mus mco mfl mba mdu 0 n p st cc bc pot gr bk btw bhd ) kV_L_89 ⟨rfl, rfl, Nat.le_of_ble_eq_true rfl, Nat.le_of_ble_eq_true rfl⟩ [0] rfl (by decide) 0 5 rfl rfl rfl rfl rfl (Nat.le_of_ble_eq_true rfl) dL_law_963 ⟨by omega, by omega⟩ (fun v9 w9 H locs hq G => ?_)
  obtain ⟨rfl, rfl⟩ := hq
  refine W.eq (g2 := F0 mm 966 ls [.int (iI (0))]) rfl ?_
  have G : zG D AA ss.heap ((mo, .inr (5, [.int (iI (0)), .int (iI (((n : Nat) : Int))), .ref mnw, .ref mte, .ref mge, .ref mus, .int (iI (((p : Nat) : Int))), .int (iI (((st : Nat) : Int))), .int (iI (cc)), .int (iI (bc)), .ref mco, .ref mfl, .ref mba, .ref mdu, .long (lI (pot)), .long (lI (gr)), .long (lI (bk)), .int (iI (btw)), .int (iI (bhd))])) :: (mnw, .inl (k4 0, 19, .inl (fun i9 => iI (NW i9)))) :: (mte, .inl (k4 0, 912, .inl (fun i9 => iI (TE i9)))) :: (mge, .inl (k4 0, 288, .inl (fun i9 => iI (GE i9)))) :: (mus, .inl (k4 0, 288, .inl (fun i9 => iI (US i9)))) :: (mco, .inl (k4 0, 48, .inl (fun i9 => iI (CO i9)))) :: (mfl, .inl (k4 0, 2304, .inl (fun i9 => iI (FL i9)))) :: (mba, .inl (k4 1, 6, .inr (.inl (fun i9 => lI (BA i9))))) :: (mdu, .inl (k4 1, 6, .inr (.inl (fun i9 => lI (DU i9))))) :: (ao, .inl (k4 1, 1, .inr (.inl (fun i9 => lI ((up O 0 (if k < p then sg k 4 0 else -1)) i9))))) :: (xW k4 lo lnow lsl lcl lba ldu nsh nrk h1 r1 q1 h2 r2 q2 ta sa n p st cc bc pot gr bk nw bal due S1 S2 tx sg)) H locs := G
  refine z_iload E hl 1 rfl dL_law_966 ?_
  refine z_icmp_eq (tgt := 973) E dL_law_968 (by decide) (by decide) (by decide) (fun c_968 => ?_) (fun c_968 => absurd c_968 (by decide))
  refine z_iload E hl 1 rfl dL_law_973 ?_
  refine z_if_ne (tgt := 990) E dL_law_975 (by decide) (by decide) (fun c_975 => absurd c_975 (by decide)) (fun c_975 => ?_)
  refine z_aload_n E hl 5 rfl dL_law_978 rfl ?_
  refine z_iconst E dL_law_979 ?_
  refine z_lald E G 9 rfl (0) rfl (by decide) (by decide) dL_law_980 ?_
  refine z_eql (y := if k < p then CO k else -1) (up_s.trans hans) ?_
  refine z_iload E hl 0 rfl dL_law_981 ?_
  refine z_i2l E dL_law_983 hrb ?_
  refine z_lcmp E dL_law_984 ?_
  refine z_if_eq (tgt := 990) E dL_law_985 (by decide) (lcI_rng _ _) (fun c_985 => ?_) (fun c_985 => absurd c_985 (by rw [lcI_self]; decide))
  refine z_goto (tgt := 1502) E dL_law_990 (by decide) ?_
  refine W.cs (cells' := cl9 + ((0) + (0))) (slots' := sl9 + ((0) + (0))) (by omega) (by omega) ?_
  exact kk _ _ _ G (lv_sub hl [2, 3, 4, 5, 6] rfl)

set_option maxHeartbeats 4000000 in
set_option maxRecDepth 100000 in
theorem s_contentAt_0 {pp : Program} {l : Launch} {ee : Env} {ss : State} {mm : MethodId} {bl : List Frame} {me : Method} {co : Code} {AA : Nat → Prop} {H : Heap} {locs : List Loc} {ls : Array Slot} {Q9 : State → Prop} {D : va_G} {k4 : Nat → ClassId} {bs Ls : Nat} {xs : Nat → Int32} {cl9 sl9 : Nat} (hl9 : l.stackTraces = false) (E : zE pp mm co cL_law 9 ss #[Value.ref bs] RL D k4) (X : zEL ss AA) (S9 : zSc bs Ls xs ss AA) (i : Nat) (hi5 : i + 4 < Ls) (lo lnow lsl lcl lba ldu nsh nrk h1 r1 q1 h2 r2 q2 : Nat) (ta : Nat → Nat) (sa : Nat → Nat → Nat) (n p st : Nat) (cc bc pot gr bk : Int) (nw bal due : Nat → Int) (S1 S2 : sS) (tx : Nat → Nat → Int) (sg : Nat → Nat → Nat → Int) (k : Int) (mo mnw mte mge mus mco mfl mba mdu : Nat) (th btw bhd : Int) (NW TE GE US CO FL BA DU : Nat → Int) (ao : Nat) (O : Nat → Int) (hX : xOK n p st bc nw S1 S2 tx sg) (hk : -2147483648 ≤ k ∧ k ≤ 2147483647 ∧ (k < 0 ∨ 47 < k)) (hn9 : n ≤ 6) (hp9 : p ≤ 48) (hs9 : st ≤ 48) (hcc : rng cc) (hb9 : 0 ≤ bc ∧ bc ≤ 20000) (hx1 : (xs (i + 1)).toInt = k) (hc9 : cl9 + ((1) + (0)) ≤ room_1.cells) (hs99 : sl9 + ((6) + (0)) ≤ room_1.slots) (G : zG D AA ss.heap ((mo, .inr (5, [.int (iI (th)), .int (iI (((n : Nat) : Int))), .ref mnw, .ref mte, .ref mge, .ref mus, .int (iI (((p : Nat) : Int))), .int (iI (((st : Nat) : Int))), .int (iI (cc)), .int (iI (bc)), .ref mco, .ref mfl, .ref mba, .ref mdu, .long (lI (pot)), .long (lI (gr)), .long (lI (bk)), .int (iI (btw)), .int (iI (bhd))])) :: (mnw, .inl (k4 0, 19, .inl (fun i9 => iI (NW i9)))) :: (mte, .inl (k4 0, 912, .inl (fun i9 => iI (TE i9)))) :: (mge, .inl (k4 0, 288, .inl (fun i9 => iI (GE i9)))) :: (mus, .inl (k4 0, 288, .inl (fun i9 => iI (US i9)))) :: (mco, .inl (k4 0, 48, .inl (fun i9 => iI (CO i9)))) :: (mfl, .inl (k4 0, 2304, .inl (fun i9 => iI (FL i9)))) :: (mba, .inl (k4 1, 6, .inr (.inl (fun i9 => lI (BA i9))))) :: (mdu, .inl (k4 1, 6, .inr (.inl (fun i9 => lI (DU i9))))) :: (ao, .inl (k4 1, 1, .inr (.inl (fun i9 => lI (O i9))))) :: (xW k4 lo lnow lsl lcl lba ldu nsh nrk h1 r1 q1 h2 r2 q2 ta sa n p st cc bc pot gr bk nw bal due S1 S2 tx sg)) H locs) (hl : lv_has ls 9 [(0, .ref bs), (1, .ref lo), (2, .ref mo), (3, .ref ao), (4, .int (iI (((i : Nat) : Int))))]) (kk : ∀ (H : Heap) (locs : List Loc) (ls : Array Slot), zG D AA ss.heap ((mo, .inr (5, [.int (iI (1)), .int (iI (((n : Nat) : Int))), .ref mnw, .ref mte, .ref mge, .ref mus, .int (iI (((p : Nat) : Int))), .int (iI (((st : Nat) : Int))), .int (iI (cc)), .int (iI (bc)), .ref mco, .ref mfl, .ref mba, .ref mdu, .long (lI (pot)), .long (lI (gr)), .long (lI (bk)), .int (iI (btw)), .int (iI (bhd))])) :: (mnw, .inl (k4 0, 19, .inl (fun i9 => iI (NW i9)))) :: (mte, .inl (k4 0, 912, .inl (fun i9 => iI (TE i9)))) :: (mge, .inl (k4 0, 288, .inl (fun i9 => iI (GE i9)))) :: (mus, .inl (k4 0, 288, .inl (fun i9 => iI (US i9)))) :: (mco, .inl (k4 0, 48, .inl (fun i9 => iI (CO i9)))) :: (mfl, .inl (k4 0, 2304, .inl (fun i9 => iI (FL i9)))) :: (mba, .inl (k4 1, 6, .inr (.inl (fun i9 => lI (BA i9))))) :: (mdu, .inl (k4 1, 6, .inr (.inl (fun i9 => lI (DU i9))))) :: (ao, .inl (k4 1, 1, .inr (.inl (fun i9 => lI (O i9))))) :: (xW k4 lo lnow lsl lcl lba ldu nsh nrk h1 r1 q1 h2 r2 q2 ta sa n p st cc bc pot gr bk nw bal due S1 S2 tx sg)) H locs → lv_has ls 9 [(0, .ref bs), (1, .ref lo), (2, .ref mo), (3, .ref ao), (4, .int (iI (((i : Nat) : Int))))] → W pp l ee room_1 ss mm #[Value.ref bs] bl me co H locs (cl9 + ((1) + (0))) (sl9 + ((6) + (0))) Q9 (F0 mm 1502 ls [])) : W pp l ee room_1 ss mm #[Value.ref bs] bl me co H locs (cl9) (sl9) Q9 (F0 mm 937 ls []) := by
  refine z_aload_n E hl 1 rfl dL_law_937 rfl ?_
  refine z_aload_n E hl 0 rfl dL_law_938 rfl ?_
  refine z_iload E hl 4 rfl dL_law_939 ?_
  refine z_iconst E dL_law_941 ?_
  refine z_iadd E dL_law_942 ?_
  refine z_sld E S9 G (i + 1) (by omega) (by omega) dL_law_943 ?_
  refine z_eq (y := k) hx1 ?_
  refine z_aload_n E hl 3 rfl dL_law_944 rfl ?_
  refine z_callL (n := 3) (pre := [(mo, .inr (5, [.int (iI (th)), .int (iI (((n : Nat) : Int))), .ref mnw, .ref mte, .ref mge, .ref mus, .int (iI (((p : Nat) : Int))), .int (iI (((st : Nat) : Int))), .int (iI (cc)), .int (iI (bc)), .ref mco, .ref mfl, .ref mba, .ref mdu, .long (lI (pot)), .long (lI (gr)), .long (lI (bk)), .int (iI (btw)), .int (iI (bhd))])), (mnw, .inl (k4 0, 19, .inl (fun i9 => iI (NW i9)))), (mte, .inl (k4 0, 912, .inl (fun i9 => iI (TE i9)))), (mge, .inl (k4 0, 288, .inl (fun i9 => iI (GE i9)))), (mus, .inl (k4 0, 288, .inl (fun i9 => iI (US i9)))), (mco, .inl (k4 0, 48, .inl (fun i9 => iI (CO i9)))), (mfl, .inl (k4 0, 2304, .inl (fun i9 => iI (FL i9)))), (mba, .inl (k4 1, 6, .inr (.inl (fun i9 => lI (BA i9))))), (mdu, .inl (k4 1, 6, .inr (.inl (fun i9 => lI (DU i9)))))]) E X G hl.1 (w_contentAt_0 l hl9 D k4 lo lnow lsl lcl lba ldu nsh nrk h1 r1 q1 h2 r2 q2 ta sa n p st cc bc pot gr bk nw bal due S1 S2 tx sg k ao O hX hk) zw_503 zw_504 zw_74 zw_505 (by decide +kernel) (by decide +kernel) ⟨rfl, rfl, Nat.le_of_ble_eq_true rfl, Nat.le_of_ble_eq_true rfl⟩ rfl rfl (Nat.le_of_ble_eq_true rfl) dL_law_945 ⟨by omega, by omega⟩ (fun v9 w9 H locs hq G => ?_)
  obtain ⟨rfl, rfl⟩ := hq
  refine W.eq (g2 := F0 mm 948 ls [.int (iI (1))]) rfl ?_
  have G : zG D AA ss.heap ((mo, .inr (5, [.int (iI (th)), .int (iI (((n : Nat) : Int))), .ref mnw, .ref mte, .ref mge, .ref mus, .int (iI (((p : Nat) : Int))), .int (iI (((st : Nat) : Int))), .int (iI (cc)), .int (iI (bc)), .ref mco, .ref mfl, .ref mba, .ref mdu, .long (lI (pot)), .long (lI (gr)), .long (lI (bk)), .int (iI (btw)), .int (iI (bhd))])) :: (mnw, .inl (k4 0, 19, .inl (fun i9 => iI (NW i9)))) :: (mte, .inl (k4 0, 912, .inl (fun i9 => iI (TE i9)))) :: (mge, .inl (k4 0, 288, .inl (fun i9 => iI (GE i9)))) :: (mus, .inl (k4 0, 288, .inl (fun i9 => iI (US i9)))) :: (mco, .inl (k4 0, 48, .inl (fun i9 => iI (CO i9)))) :: (mfl, .inl (k4 0, 2304, .inl (fun i9 => iI (FL i9)))) :: (mba, .inl (k4 1, 6, .inr (.inl (fun i9 => lI (BA i9))))) :: (mdu, .inl (k4 1, 6, .inr (.inl (fun i9 => lI (DU i9))))) :: (ao, .inl (k4 1, 1, .inr (.inl (fun i9 => lI (O i9))))) :: (xW k4 lo lnow lsl lcl lba ldu nsh nrk h1 r1 q1 h2 r2 q2 ta sa n p st cc bc pot gr bk nw bal due S1 S2 tx sg)) H locs := G
  refine z_istore E [(5, .int (iI (1))), (0, .ref bs), (1, .ref lo), (2, .ref mo), (3, .ref ao), (4, .int (iI (((i : Nat) : Int))))] dL_law_948 hl (by decide) rfl (fun ls hl => ?_)
  refine z_aload_n E hl 3 rfl dL_law_950 rfl ?_
  refine z_aload_n E hl 1 rfl dL_law_951 rfl ?_
  refine z_iload E hl 5 rfl dL_law_952 ?_
  refine z_iconst E dL_law_954 ?_
  refine z_iadd E dL_law_955 ?_
  refine z_sld E S9 G (i + 1) (by omega) (by omega) dL_law_956 ?_
  refine z_eq (y := k) hx1 ?_
  refine z_callV E G hl.1 (c_X5_contentAt_0 l D k4 mo mnw mte mge mus mco mfl mba mdu th n p st cc bc pot gr bk btw bhd k (by omega) (by omega)) kV_L_137 ⟨rfl, rfl, Nat.le_of_ble_eq_true rfl, Nat.le_of_ble_eq_true rfl⟩ [0] rfl (by decide) 0 5 rfl rfl rfl rfl rfl (Nat.le_of_ble_eq_true rfl) dL_law_957 ⟨by omega, by omega⟩ (fun v9 w9 H locs hq G => ?_)
  obtain ⟨rfl, rfl⟩ := hq
  refine W.eq (g2 := F0 mm 960 ls [.int (iI (0))]) rfl ?_
  have G : zG D AA ss.heap ((mo, .inr (5, [.int (iI (1)), .int (iI (((n : Nat) : Int))), .ref mnw, .ref mte, .ref mge, .ref mus, .int (iI (((p : Nat) : Int))), .int (iI (((st : Nat) : Int))), .int (iI (cc)), .int (iI (bc)), .ref mco, .ref mfl, .ref mba, .ref mdu, .long (lI (pot)), .long (lI (gr)), .long (lI (bk)), .int (iI (btw)), .int (iI (bhd))])) :: (mnw, .inl (k4 0, 19, .inl (fun i9 => iI (NW i9)))) :: (mte, .inl (k4 0, 912, .inl (fun i9 => iI (TE i9)))) :: (mge, .inl (k4 0, 288, .inl (fun i9 => iI (GE i9)))) :: (mus, .inl (k4 0, 288, .inl (fun i9 => iI (US i9)))) :: (mco, .inl (k4 0, 48, .inl (fun i9 => iI (CO i9)))) :: (mfl, .inl (k4 0, 2304, .inl (fun i9 => iI (FL i9)))) :: (mba, .inl (k4 1, 6, .inr (.inl (fun i9 => lI (BA i9))))) :: (mdu, .inl (k4 1, 6, .inr (.inl (fun i9 => lI (DU i9))))) :: (ao, .inl (k4 1, 1, .inr (.inl (fun i9 => lI (O i9))))) :: (xW k4 lo lnow lsl lcl lba ldu nsh nrk h1 r1 q1 h2 r2 q2 ta sa n p st cc bc pot gr bk nw bal due S1 S2 tx sg)) H locs := G
  refine z_istore E [(6, .int (iI (0))), (5, .int (iI (1))), (0, .ref bs), (1, .ref lo), (2, .ref mo), (3, .ref ao), (4, .int (iI (((i : Nat) : Int))))] dL_law_960 hl (by decide) rfl (fun ls hl => ?_)
  refine z_aload_n E hl 4 rfl dL_law_962 rfl ?_
  refine z_callV E G hl.1 (c_X5_thrown l D k4 mo mnw mte mge mus mco mfl mba mdu 1 n p st cc bc pot gr bk btw bhd ) kV_L_89 ⟨rfl, rfl, Nat.le_of_ble_eq_true rfl, Nat.le_of_ble_eq_true rfl⟩ [0] rfl (by decide) 0 5 rfl rfl rfl rfl rfl (Nat.le_of_ble_eq_true rfl) dL_law_963 ⟨by omega, by omega⟩ (fun v9 w9 H locs hq G => ?_)
  obtain ⟨rfl, rfl⟩ := hq
  refine W.eq (g2 := F0 mm 966 ls [.int (iI (1))]) rfl ?_
  have G : zG D AA ss.heap ((mo, .inr (5, [.int (iI (1)), .int (iI (((n : Nat) : Int))), .ref mnw, .ref mte, .ref mge, .ref mus, .int (iI (((p : Nat) : Int))), .int (iI (((st : Nat) : Int))), .int (iI (cc)), .int (iI (bc)), .ref mco, .ref mfl, .ref mba, .ref mdu, .long (lI (pot)), .long (lI (gr)), .long (lI (bk)), .int (iI (btw)), .int (iI (bhd))])) :: (mnw, .inl (k4 0, 19, .inl (fun i9 => iI (NW i9)))) :: (mte, .inl (k4 0, 912, .inl (fun i9 => iI (TE i9)))) :: (mge, .inl (k4 0, 288, .inl (fun i9 => iI (GE i9)))) :: (mus, .inl (k4 0, 288, .inl (fun i9 => iI (US i9)))) :: (mco, .inl (k4 0, 48, .inl (fun i9 => iI (CO i9)))) :: (mfl, .inl (k4 0, 2304, .inl (fun i9 => iI (FL i9)))) :: (mba, .inl (k4 1, 6, .inr (.inl (fun i9 => lI (BA i9))))) :: (mdu, .inl (k4 1, 6, .inr (.inl (fun i9 => lI (DU i9))))) :: (ao, .inl (k4 1, 1, .inr (.inl (fun i9 => lI (O i9))))) :: (xW k4 lo lnow lsl lcl lba ldu nsh nrk h1 r1 q1 h2 r2 q2 ta sa n p st cc bc pot gr bk nw bal due S1 S2 tx sg)) H locs := G
  refine z_iload E hl 1 rfl dL_law_966 ?_
  refine z_icmp_eq (tgt := 973) E dL_law_968 (by decide) (by decide) (by decide) (fun c_968 => ?_) (fun c_968 => absurd c_968 (by decide))
  refine z_iload E hl 1 rfl dL_law_973 ?_
  refine z_if_ne (tgt := 990) E dL_law_975 (by decide) (by decide) (fun c_975 => ?_) (fun c_975 => absurd c_975 (by decide))
  refine z_goto (tgt := 1502) E dL_law_990 (by decide) ?_
  refine W.cs (cells' := cl9 + ((1) + (0))) (slots' := sl9 + ((6) + (0))) (by omega) (by omega) ?_
  exact kk _ _ _ G (lv_sub hl [2, 3, 4, 5, 6] rfl)

set_option maxHeartbeats 4000000 in
set_option maxRecDepth 100000 in
theorem s_would {pp : Program} {l : Launch} {ee : Env} {ss : State} {mm : MethodId} {bl : List Frame} {me : Method} {co : Code} {AA : Nat → Prop} {H : Heap} {locs : List Loc} {ls : Array Slot} {Q9 : State → Prop} {D : va_G} {k4 : Nat → ClassId} {bs Ls : Nat} {xs : Nat → Int32} {cl9 sl9 : Nat} (hl9 : l.stackTraces = false) (E : zE pp mm co cL_law 9 ss #[Value.ref bs] RL D k4) (X : zEL ss AA) (S9 : zSc bs Ls xs ss AA) (i : Nat) (hi5 : i + 4 < Ls) (lo lnow lsl lcl lba ldu nsh nrk h1 r1 q1 h2 r2 q2 : Nat) (ta : Nat → Nat) (sa : Nat → Nat → Nat) (n p st : Nat) (cc bc pot gr bk : Int) (nw bal due : Nat → Int) (S1 S2 : sS) (tx : Nat → Nat → Int) (sg : Nat → Nat → Nat → Int) (m : Nat) (ru : Int) (mo mnw mte mge mus mco mfl mba mdu : Nat) (th btw bhd : Int) (NW TE GE US CO FL BA DU : Nat → Int) (ao : Nat) (O : Nat → Int) (hX : xOK n p st bc nw S1 S2 tx sg) (hm : m < n) (hru : 0 ≤ ru ∧ ru ≤ 3) (hp : p < 48) (mhg : rdOK (fun x0 => GE (48 * x0 + p))) (mhu : rdOK (fun x0 => US (48 * x0 + p))) (mg0 : nul n (fun x0 => GE (48 * x0 + p))) (mu0 : nul n (fun x0 => US (48 * x0 + p))) (mht : tOK NW) (mhc : 0 ≤ bc ∧ bc ≤ NW 4) (hn9 : n ≤ 6) (hp9 : p ≤ 48) (hs9 : st ≤ 48) (hcc : rng cc) (hb9 : 0 ≤ bc ∧ bc ≤ 20000) (hx1 : (xs (i + 1)).toInt = ((m : Nat) : Int)) (hx2 : (xs (i + 2)).toInt = ru) (hans : ((CV (sg p 1) (sg p 2) (up nw 0 ru) bc (m * 8 + 7)) : Int) = (CV (fun x0 => GE (48 * x0 + p)) (fun x0 => US (48 * x0 + p)) (up NW 0 ru) bc (m * 8 + 7))) (hrb : rng (CV (fun x0 => GE (48 * x0 + p)) (fun x0 => US (48 * x0 + p)) (up NW 0 ru) bc (m * 8 + 7))) (hc9 : cl9 + ((0) + (16 + 2 * rdC (fun x0 => GE (48 * x0 + p)) (fun x0 => US (48 * x0 + p)))) ≤ room_1.cells) (hs99 : sl9 + ((0) + (11 * (16 + 2 * rdC (fun x0 => GE (48 * x0 + p)) (fun x0 => US (48 * x0 + p))))) ≤ room_1.slots) (G : zG D AA ss.heap ((mo, .inr (5, [.int (iI (th)), .int (iI (((n : Nat) : Int))), .ref mnw, .ref mte, .ref mge, .ref mus, .int (iI (((p : Nat) : Int))), .int (iI (((st : Nat) : Int))), .int (iI (cc)), .int (iI (bc)), .ref mco, .ref mfl, .ref mba, .ref mdu, .long (lI (pot)), .long (lI (gr)), .long (lI (bk)), .int (iI (btw)), .int (iI (bhd))])) :: (mnw, .inl (k4 0, 19, .inl (fun i9 => iI (NW i9)))) :: (mte, .inl (k4 0, 912, .inl (fun i9 => iI (TE i9)))) :: (mge, .inl (k4 0, 288, .inl (fun i9 => iI (GE i9)))) :: (mus, .inl (k4 0, 288, .inl (fun i9 => iI (US i9)))) :: (mco, .inl (k4 0, 48, .inl (fun i9 => iI (CO i9)))) :: (mfl, .inl (k4 0, 2304, .inl (fun i9 => iI (FL i9)))) :: (mba, .inl (k4 1, 6, .inr (.inl (fun i9 => lI (BA i9))))) :: (mdu, .inl (k4 1, 6, .inr (.inl (fun i9 => lI (DU i9))))) :: (ao, .inl (k4 1, 1, .inr (.inl (fun i9 => lI (O i9))))) :: (xW k4 lo lnow lsl lcl lba ldu nsh nrk h1 r1 q1 h2 r2 q2 ta sa n p st cc bc pot gr bk nw bal due S1 S2 tx sg)) H locs) (hl : lv_has ls 9 [(0, .ref bs), (1, .ref lo), (2, .ref mo), (3, .ref ao), (4, .int (iI (((i : Nat) : Int))))]) (kk : ∀ (tx9 : Nat → Nat → Int) (A9 B9 : sS)  (b1 b2 : Int), slOK tx9 → sOK A9 → sOK B9 → ∀ (H : Heap) (locs : List Loc) (ls : Array Slot), zG D AA ss.heap ((mo, .inr (5, [.int (iI (0)), .int (iI (((n : Nat) : Int))), .ref mnw, .ref mte, .ref mge, .ref mus, .int (iI (((p : Nat) : Int))), .int (iI (((st : Nat) : Int))), .int (iI (cc)), .int (iI (bc)), .ref mco, .ref mfl, .ref mba, .ref mdu, .long (lI (pot)), .long (lI (gr)), .long (lI (bk)), .int (iI (b1)), .int (iI (b2))])) :: (mnw, .inl (k4 0, 19, .inl (fun i9 => iI (NW i9)))) :: (mte, .inl (k4 0, 912, .inl (fun i9 => iI (TE i9)))) :: (mge, .inl (k4 0, 288, .inl (fun i9 => iI (GE i9)))) :: (mus, .inl (k4 0, 288, .inl (fun i9 => iI (US i9)))) :: (mco, .inl (k4 0, 48, .inl (fun i9 => iI (CO i9)))) :: (mfl, .inl (k4 0, 2304, .inl (fun i9 => iI (FL i9)))) :: (mba, .inl (k4 1, 6, .inr (.inl (fun i9 => lI (BA i9))))) :: (mdu, .inl (k4 1, 6, .inr (.inl (fun i9 => lI (DU i9))))) :: (ao, .inl (k4 1, 1, .inr (.inl (fun i9 => lI ((up O 0 (CV (sg p 1) (sg p 2) (up nw 0 ru) bc (m * 8 + 7))) i9))))) :: (xW k4 lo lnow lsl lcl lba ldu nsh nrk h1 r1 q1 h2 r2 q2 ta sa n p st cc bc pot gr bk nw bal due A9 B9 tx9 sg)) H locs → lv_has ls 9 [(0, .ref bs), (1, .ref lo), (2, .ref mo), (3, .ref ao), (4, .int (iI (((i : Nat) : Int))))] → W pp l ee room_1 ss mm #[Value.ref bs] bl me co H locs (cl9 + ((0) + (16 + 2 * rdC (fun x0 => GE (48 * x0 + p)) (fun x0 => US (48 * x0 + p))))) (sl9 + ((0) + (11 * (16 + 2 * rdC (fun x0 => GE (48 * x0 + p)) (fun x0 => US (48 * x0 + p)))))) Q9 (F0 mm 1502 ls [])) : W pp l ee room_1 ss mm #[Value.ref bs] bl me co H locs (cl9) (sl9) Q9 (F0 mm 993 ls []) := by
  refine z_aload_n E hl 1 rfl dL_law_993 rfl ?_
  refine z_aload_n E hl 0 rfl dL_law_994 rfl ?_
  refine z_iload E hl 4 rfl dL_law_995 ?_
  refine z_iconst E dL_law_997 ?_
  refine z_iadd E dL_law_998 ?_
  refine z_sld E S9 G (i + 1) (by omega) (by omega) dL_law_999 ?_
  refine z_eq (y := ((m : Nat) : Int)) hx1 ?_
  refine z_aload_n E hl 0 rfl dL_law_1000 rfl ?_
  refine z_iload E hl 4 rfl dL_law_1001 ?_
  refine z_iconst E dL_law_1003 ?_
  refine z_iadd E dL_law_1004 ?_
  refine z_sld E S9 G (i + 2) (by omega) (by omega) dL_law_1005 ?_
  refine z_eq (y := ru) hx2 ?_
  refine z_aload_n E hl 3 rfl dL_law_1006 rfl ?_
  refine z_callL (n := 4) (pre := [(mo, .inr (5, [.int (iI (th)), .int (iI (((n : Nat) : Int))), .ref mnw, .ref mte, .ref mge, .ref mus, .int (iI (((p : Nat) : Int))), .int (iI (((st : Nat) : Int))), .int (iI (cc)), .int (iI (bc)), .ref mco, .ref mfl, .ref mba, .ref mdu, .long (lI (pot)), .long (lI (gr)), .long (lI (bk)), .int (iI (btw)), .int (iI (bhd))])), (mnw, .inl (k4 0, 19, .inl (fun i9 => iI (NW i9)))), (mte, .inl (k4 0, 912, .inl (fun i9 => iI (TE i9)))), (mge, .inl (k4 0, 288, .inl (fun i9 => iI (GE i9)))), (mus, .inl (k4 0, 288, .inl (fun i9 => iI (US i9)))), (mco, .inl (k4 0, 48, .inl (fun i9 => iI (CO i9)))), (mfl, .inl (k4 0, 2304, .inl (fun i9 => iI (FL i9)))), (mba, .inl (k4 1, 6, .inr (.inl (fun i9 => lI (BA i9))))), (mdu, .inl (k4 1, 6, .inr (.inl (fun i9 => lI (DU i9)))))]) E X G hl.1 (w_would l D k4 lo lnow lsl lcl lba ldu nsh nrk h1 r1 q1 h2 r2 q2 ta sa n p st cc bc pot gr bk nw bal due S1 S2 tx sg m ru ao O hX hm hru hp) zw_514 zw_515 zw_74 zw_516 (by decide +kernel) (by decide +kernel) ⟨rfl, rfl, Nat.le_of_ble_eq_true rfl, Nat.le_of_ble_eq_true rfl⟩ rfl rfl (Nat.le_of_ble_eq_true rfl) dL_law_1007 ⟨by omega, by omega⟩ (fun v9 w9 H locs hq G => ?_)
  obtain ⟨tx9, A9, B9, rfl, rfl, hf0, hf1, hf2⟩ := hq
  refine W.eq (g2 := F0 mm 1010 ls [.int (iI (0))]) rfl ?_
  have G : zG D AA ss.heap ((mo, .inr (5, [.int (iI (th)), .int (iI (((n : Nat) : Int))), .ref mnw, .ref mte, .ref mge, .ref mus, .int (iI (((p : Nat) : Int))), .int (iI (((st : Nat) : Int))), .int (iI (cc)), .int (iI (bc)), .ref mco, .ref mfl, .ref mba, .ref mdu, .long (lI (pot)), .long (lI (gr)), .long (lI (bk)), .int (iI (btw)), .int (iI (bhd))])) :: (mnw, .inl (k4 0, 19, .inl (fun i9 => iI (NW i9)))) :: (mte, .inl (k4 0, 912, .inl (fun i9 => iI (TE i9)))) :: (mge, .inl (k4 0, 288, .inl (fun i9 => iI (GE i9)))) :: (mus, .inl (k4 0, 288, .inl (fun i9 => iI (US i9)))) :: (mco, .inl (k4 0, 48, .inl (fun i9 => iI (CO i9)))) :: (mfl, .inl (k4 0, 2304, .inl (fun i9 => iI (FL i9)))) :: (mba, .inl (k4 1, 6, .inr (.inl (fun i9 => lI (BA i9))))) :: (mdu, .inl (k4 1, 6, .inr (.inl (fun i9 => lI (DU i9))))) :: (ao, .inl (k4 1, 1, .inr (.inl (fun i9 => lI ((up O 0 (CV (sg p 1) (sg p 2) (up nw 0 ru) bc (m * 8 + 7))) i9))))) :: (xW k4 lo lnow lsl lcl lba ldu nsh nrk h1 r1 q1 h2 r2 q2 ta sa n p st cc bc pot gr bk nw bal due A9 B9 tx9 sg)) H locs := G
  refine z_istore E [(5, .int (iI (0))), (0, .ref bs), (1, .ref lo), (2, .ref mo), (3, .ref ao), (4, .int (iI (((i : Nat) : Int))))] dL_law_1010 hl (by decide) rfl (fun ls hl => ?_)
  refine z_aload_n E hl 3 rfl dL_law_1012 rfl ?_
  refine z_aload_n E hl 1 rfl dL_law_1013 rfl ?_
  refine z_iload E hl 5 rfl dL_law_1014 ?_
  refine z_iconst E dL_law_1016 ?_
  refine z_iadd E dL_law_1017 ?_
  refine z_sld E S9 G (i + 1) (by omega) (by omega) dL_law_1018 ?_
  refine z_eq (y := ((m : Nat) : Int)) hx1 ?_
  refine z_aload_n E hl 1 rfl dL_law_1019 rfl ?_
  refine z_iload E hl 5 rfl dL_law_1020 ?_
  refine z_iconst E dL_law_1022 ?_
  refine z_iadd E dL_law_1023 ?_
  refine z_sld E S9 G (i + 2) (by omega) (by omega) dL_law_1024 ?_
  refine z_eq (y := ru) hx2 ?_
  refine z_callV E G hl.1 (c_X5_would l D k4 mo mnw mte mge mus mco mfl mba mdu th n p st cc bc pot gr bk btw bhd m ru NW GE US (by omega) (by omega) (by omega) (by omega) mhg mhu mg0 mu0 mht mhc) kV_L_141 ⟨rfl, rfl, Nat.le_of_ble_eq_true rfl, Nat.le_of_ble_eq_true rfl⟩ [0, 1, 3, 4] rfl (by decide) 0 5 rfl rfl rfl rfl rfl (Nat.le_of_ble_eq_true rfl) dL_law_1025 ⟨by omega, by omega⟩ (fun v9 w9 H locs hq G => ?_)
  obtain ⟨b1, b2, rfl, rfl⟩ := hq
  refine W.eq (g2 := F0 mm 1028 ls [.int (iI (CV (fun x0 => GE (48 * x0 + p)) (fun x0 => US (48 * x0 + p)) (up NW 0 ru) bc (m * 8 + 7)))]) rfl ?_
  have G : zG D AA ss.heap ((mo, .inr (5, [.int (iI (0)), .int (iI (((n : Nat) : Int))), .ref mnw, .ref mte, .ref mge, .ref mus, .int (iI (((p : Nat) : Int))), .int (iI (((st : Nat) : Int))), .int (iI (cc)), .int (iI (bc)), .ref mco, .ref mfl, .ref mba, .ref mdu, .long (lI (pot)), .long (lI (gr)), .long (lI (bk)), .int (iI (b1)), .int (iI (b2))])) :: (mnw, .inl (k4 0, 19, .inl (fun i9 => iI (NW i9)))) :: (mte, .inl (k4 0, 912, .inl (fun i9 => iI (TE i9)))) :: (mge, .inl (k4 0, 288, .inl (fun i9 => iI (GE i9)))) :: (mus, .inl (k4 0, 288, .inl (fun i9 => iI (US i9)))) :: (mco, .inl (k4 0, 48, .inl (fun i9 => iI (CO i9)))) :: (mfl, .inl (k4 0, 2304, .inl (fun i9 => iI (FL i9)))) :: (mba, .inl (k4 1, 6, .inr (.inl (fun i9 => lI (BA i9))))) :: (mdu, .inl (k4 1, 6, .inr (.inl (fun i9 => lI (DU i9))))) :: (ao, .inl (k4 1, 1, .inr (.inl (fun i9 => lI ((up O 0 (CV (sg p 1) (sg p 2) (up nw 0 ru) bc (m * 8 + 7))) i9))))) :: (xW k4 lo lnow lsl lcl lba ldu nsh nrk h1 r1 q1 h2 r2 q2 ta sa n p st cc bc pot gr bk nw bal due A9 B9 tx9 sg)) H locs := G
  refine z_istore E [(6, .int (iI (CV (fun x0 => GE (48 * x0 + p)) (fun x0 => US (48 * x0 + p)) (up NW 0 ru) bc (m * 8 + 7)))), (5, .int (iI (0))), (0, .ref bs), (1, .ref lo), (2, .ref mo), (3, .ref ao), (4, .int (iI (((i : Nat) : Int))))] dL_law_1028 hl (by decide) rfl (fun ls hl => ?_)
  refine z_aload_n E hl 4 rfl dL_law_1030 rfl ?_
  refine z_callV E G hl.1 (c_X5_thrown l D k4 mo mnw mte mge mus mco mfl mba mdu 0 n p st cc bc pot gr bk b1 b2 ) kV_L_89 ⟨rfl, rfl, Nat.le_of_ble_eq_true rfl, Nat.le_of_ble_eq_true rfl⟩ [0] rfl (by decide) 0 5 rfl rfl rfl rfl rfl (Nat.le_of_ble_eq_true rfl) dL_law_1031 ⟨by omega, by omega⟩ (fun v9 w9 H locs hq G => ?_)
  obtain ⟨rfl, rfl⟩ := hq
  refine W.eq (g2 := F0 mm 1034 ls [.int (iI (0))]) rfl ?_
  have G : zG D AA ss.heap ((mo, .inr (5, [.int (iI (0)), .int (iI (((n : Nat) : Int))), .ref mnw, .ref mte, .ref mge, .ref mus, .int (iI (((p : Nat) : Int))), .int (iI (((st : Nat) : Int))), .int (iI (cc)), .int (iI (bc)), .ref mco, .ref mfl, .ref mba, .ref mdu, .long (lI (pot)), .long (lI (gr)), .long (lI (bk)), .int (iI (b1)), .int (iI (b2))])) :: (mnw, .inl (k4 0, 19, .inl (fun i9 => iI (NW i9)))) :: (mte, .inl (k4 0, 912, .inl (fun i9 => iI (TE i9)))) :: (mge, .inl (k4 0, 288, .inl (fun i9 => iI (GE i9)))) :: (mus, .inl (k4 0, 288, .inl (fun i9 => iI (US i9)))) :: (mco, .inl (k4 0, 48, .inl (fun i9 => iI (CO i9)))) :: (mfl, .inl (k4 0, 2304, .inl (fun i9 => iI (FL i9)))) :: (mba, .inl (k4 1, 6, .inr (.inl (fun i9 => lI (BA i9))))) :: (mdu, .inl (k4 1, 6, .inr (.inl (fun i9 => lI (DU i9))))) :: (ao, .inl (k4 1, 1, .inr (.inl (fun i9 => lI ((up O 0 (CV (sg p 1) (sg p 2) (up nw 0 ru) bc (m * 8 + 7))) i9))))) :: (xW k4 lo lnow lsl lcl lba ldu nsh nrk h1 r1 q1 h2 r2 q2 ta sa n p st cc bc pot gr bk nw bal due A9 B9 tx9 sg)) H locs := G
  refine z_iload E hl 1 rfl dL_law_1034 ?_
  refine z_icmp_eq (tgt := 1041) E dL_law_1036 (by decide) (by decide) (by decide) (fun c_1036 => ?_) (fun c_1036 => absurd c_1036 (by decide))
  refine z_iload E hl 1 rfl dL_law_1041 ?_
  refine z_if_ne (tgt := 1058) E dL_law_1043 (by decide) (by decide) (fun c_1043 => absurd c_1043 (by decide)) (fun c_1043 => ?_)
  refine z_aload_n E hl 5 rfl dL_law_1046 rfl ?_
  refine z_iconst E dL_law_1047 ?_
  refine z_lald E G 9 rfl (0) rfl (by decide) (by decide) dL_law_1048 ?_
  refine z_eql (y := CV (fun x0 => GE (48 * x0 + p)) (fun x0 => US (48 * x0 + p)) (up NW 0 ru) bc (m * 8 + 7)) (up_s.trans hans) ?_
  refine z_iload E hl 0 rfl dL_law_1049 ?_
  refine z_i2l E dL_law_1051 hrb ?_
  refine z_lcmp E dL_law_1052 ?_
  refine z_if_eq (tgt := 1058) E dL_law_1053 (by decide) (lcI_rng _ _) (fun c_1053 => ?_) (fun c_1053 => absurd c_1053 (by rw [lcI_self]; decide))
  refine z_goto (tgt := 1502) E dL_law_1058 (by decide) ?_
  refine W.cs (cells' := cl9 + ((0) + (16 + 2 * rdC (fun x0 => GE (48 * x0 + p)) (fun x0 => US (48 * x0 + p))))) (slots' := sl9 + ((0) + (11 * (16 + 2 * rdC (fun x0 => GE (48 * x0 + p)) (fun x0 => US (48 * x0 + p)))))) (by omega) (by omega) ?_
  exact kk tx9 A9 B9 b1 b2 hf0 hf1 hf2 _ _ _ G (lv_sub hl [2, 3, 4, 5, 6] rfl)

set_option maxHeartbeats 4000000 in
set_option maxRecDepth 100000 in
theorem s_would_0 {pp : Program} {l : Launch} {ee : Env} {ss : State} {mm : MethodId} {bl : List Frame} {me : Method} {co : Code} {AA : Nat → Prop} {H : Heap} {locs : List Loc} {ls : Array Slot} {Q9 : State → Prop} {D : va_G} {k4 : Nat → ClassId} {bs Ls : Nat} {xs : Nat → Int32} {cl9 sl9 : Nat} (hl9 : l.stackTraces = false) (E : zE pp mm co cL_law 9 ss #[Value.ref bs] RL D k4) (X : zEL ss AA) (S9 : zSc bs Ls xs ss AA) (i : Nat) (hi5 : i + 4 < Ls) (lo lnow lsl lcl lba ldu nsh nrk h1 r1 q1 h2 r2 q2 : Nat) (ta : Nat → Nat) (sa : Nat → Nat → Nat) (n p st : Nat) (cc bc pot gr bk : Int) (nw bal due : Nat → Int) (S1 S2 : sS) (tx : Nat → Nat → Int) (sg : Nat → Nat → Nat → Int) (m : Int) (a : Int) (mo mnw mte mge mus mco mfl mba mdu : Nat) (th btw bhd : Int) (NW TE GE US CO FL BA DU : Nat → Int) (ao : Nat) (O : Nat → Int) (hX : xOK n p st bc nw S1 S2 tx sg) (hm : -2147483648 ≤ m ∧ m ≤ 2147483647 ∧ (m < 0 ∨ (n : Int) ≤ m)) (hn9 : n ≤ 6) (hp9 : p ≤ 48) (hs9 : st ≤ 48) (hcc : rng cc) (hb9 : 0 ≤ bc ∧ bc ≤ 20000) (hx1 : (xs (i + 1)).toInt = m) (hx2 : (xs (i + 2)).toInt = a) (hc9 : cl9 + ((1) + (0)) ≤ room_1.cells) (hs99 : sl9 + ((6) + (0)) ≤ room_1.slots) (G : zG D AA ss.heap ((mo, .inr (5, [.int (iI (th)), .int (iI (((n : Nat) : Int))), .ref mnw, .ref mte, .ref mge, .ref mus, .int (iI (((p : Nat) : Int))), .int (iI (((st : Nat) : Int))), .int (iI (cc)), .int (iI (bc)), .ref mco, .ref mfl, .ref mba, .ref mdu, .long (lI (pot)), .long (lI (gr)), .long (lI (bk)), .int (iI (btw)), .int (iI (bhd))])) :: (mnw, .inl (k4 0, 19, .inl (fun i9 => iI (NW i9)))) :: (mte, .inl (k4 0, 912, .inl (fun i9 => iI (TE i9)))) :: (mge, .inl (k4 0, 288, .inl (fun i9 => iI (GE i9)))) :: (mus, .inl (k4 0, 288, .inl (fun i9 => iI (US i9)))) :: (mco, .inl (k4 0, 48, .inl (fun i9 => iI (CO i9)))) :: (mfl, .inl (k4 0, 2304, .inl (fun i9 => iI (FL i9)))) :: (mba, .inl (k4 1, 6, .inr (.inl (fun i9 => lI (BA i9))))) :: (mdu, .inl (k4 1, 6, .inr (.inl (fun i9 => lI (DU i9))))) :: (ao, .inl (k4 1, 1, .inr (.inl (fun i9 => lI (O i9))))) :: (xW k4 lo lnow lsl lcl lba ldu nsh nrk h1 r1 q1 h2 r2 q2 ta sa n p st cc bc pot gr bk nw bal due S1 S2 tx sg)) H locs) (hl : lv_has ls 9 [(0, .ref bs), (1, .ref lo), (2, .ref mo), (3, .ref ao), (4, .int (iI (((i : Nat) : Int))))]) (kk : ∀ (H : Heap) (locs : List Loc) (ls : Array Slot), zG D AA ss.heap ((mo, .inr (5, [.int (iI (1)), .int (iI (((n : Nat) : Int))), .ref mnw, .ref mte, .ref mge, .ref mus, .int (iI (((p : Nat) : Int))), .int (iI (((st : Nat) : Int))), .int (iI (cc)), .int (iI (bc)), .ref mco, .ref mfl, .ref mba, .ref mdu, .long (lI (pot)), .long (lI (gr)), .long (lI (bk)), .int (iI (btw)), .int (iI (bhd))])) :: (mnw, .inl (k4 0, 19, .inl (fun i9 => iI (NW i9)))) :: (mte, .inl (k4 0, 912, .inl (fun i9 => iI (TE i9)))) :: (mge, .inl (k4 0, 288, .inl (fun i9 => iI (GE i9)))) :: (mus, .inl (k4 0, 288, .inl (fun i9 => iI (US i9)))) :: (mco, .inl (k4 0, 48, .inl (fun i9 => iI (CO i9)))) :: (mfl, .inl (k4 0, 2304, .inl (fun i9 => iI (FL i9)))) :: (mba, .inl (k4 1, 6, .inr (.inl (fun i9 => lI (BA i9))))) :: (mdu, .inl (k4 1, 6, .inr (.inl (fun i9 => lI (DU i9))))) :: (ao, .inl (k4 1, 1, .inr (.inl (fun i9 => lI (O i9))))) :: (xW k4 lo lnow lsl lcl lba ldu nsh nrk h1 r1 q1 h2 r2 q2 ta sa n p st cc bc pot gr bk nw bal due S1 S2 tx sg)) H locs → lv_has ls 9 [(0, .ref bs), (1, .ref lo), (2, .ref mo), (3, .ref ao), (4, .int (iI (((i : Nat) : Int))))] → W pp l ee room_1 ss mm #[Value.ref bs] bl me co H locs (cl9 + ((1) + (0))) (sl9 + ((6) + (0))) Q9 (F0 mm 1502 ls [])) : W pp l ee room_1 ss mm #[Value.ref bs] bl me co H locs (cl9) (sl9) Q9 (F0 mm 993 ls []) := by
  refine z_aload_n E hl 1 rfl dL_law_993 rfl ?_
  refine z_aload_n E hl 0 rfl dL_law_994 rfl ?_
  refine z_iload E hl 4 rfl dL_law_995 ?_
  refine z_iconst E dL_law_997 ?_
  refine z_iadd E dL_law_998 ?_
  refine z_sld E S9 G (i + 1) (by omega) (by omega) dL_law_999 ?_
  refine z_eq (y := m) hx1 ?_
  refine z_aload_n E hl 0 rfl dL_law_1000 rfl ?_
  refine z_iload E hl 4 rfl dL_law_1001 ?_
  refine z_iconst E dL_law_1003 ?_
  refine z_iadd E dL_law_1004 ?_
  refine z_sld E S9 G (i + 2) (by omega) (by omega) dL_law_1005 ?_
  refine z_eq (y := a) hx2 ?_
  refine z_aload_n E hl 3 rfl dL_law_1006 rfl ?_
  refine z_callL (n := 4) (pre := [(mo, .inr (5, [.int (iI (th)), .int (iI (((n : Nat) : Int))), .ref mnw, .ref mte, .ref mge, .ref mus, .int (iI (((p : Nat) : Int))), .int (iI (((st : Nat) : Int))), .int (iI (cc)), .int (iI (bc)), .ref mco, .ref mfl, .ref mba, .ref mdu, .long (lI (pot)), .long (lI (gr)), .long (lI (bk)), .int (iI (btw)), .int (iI (bhd))])), (mnw, .inl (k4 0, 19, .inl (fun i9 => iI (NW i9)))), (mte, .inl (k4 0, 912, .inl (fun i9 => iI (TE i9)))), (mge, .inl (k4 0, 288, .inl (fun i9 => iI (GE i9)))), (mus, .inl (k4 0, 288, .inl (fun i9 => iI (US i9)))), (mco, .inl (k4 0, 48, .inl (fun i9 => iI (CO i9)))), (mfl, .inl (k4 0, 2304, .inl (fun i9 => iI (FL i9)))), (mba, .inl (k4 1, 6, .inr (.inl (fun i9 => lI (BA i9))))), (mdu, .inl (k4 1, 6, .inr (.inl (fun i9 => lI (DU i9)))))]) E X G hl.1 (w_would_0 l hl9 D k4 lo lnow lsl lcl lba ldu nsh nrk h1 r1 q1 h2 r2 q2 ta sa n p st cc bc pot gr bk nw bal due S1 S2 tx sg m a ao O hX hm) zw_514 zw_515 zw_74 zw_516 (by decide +kernel) (by decide +kernel) ⟨rfl, rfl, Nat.le_of_ble_eq_true rfl, Nat.le_of_ble_eq_true rfl⟩ rfl rfl (Nat.le_of_ble_eq_true rfl) dL_law_1007 ⟨by omega, by omega⟩ (fun v9 w9 H locs hq G => ?_)
  obtain ⟨rfl, rfl⟩ := hq
  refine W.eq (g2 := F0 mm 1010 ls [.int (iI (1))]) rfl ?_
  have G : zG D AA ss.heap ((mo, .inr (5, [.int (iI (th)), .int (iI (((n : Nat) : Int))), .ref mnw, .ref mte, .ref mge, .ref mus, .int (iI (((p : Nat) : Int))), .int (iI (((st : Nat) : Int))), .int (iI (cc)), .int (iI (bc)), .ref mco, .ref mfl, .ref mba, .ref mdu, .long (lI (pot)), .long (lI (gr)), .long (lI (bk)), .int (iI (btw)), .int (iI (bhd))])) :: (mnw, .inl (k4 0, 19, .inl (fun i9 => iI (NW i9)))) :: (mte, .inl (k4 0, 912, .inl (fun i9 => iI (TE i9)))) :: (mge, .inl (k4 0, 288, .inl (fun i9 => iI (GE i9)))) :: (mus, .inl (k4 0, 288, .inl (fun i9 => iI (US i9)))) :: (mco, .inl (k4 0, 48, .inl (fun i9 => iI (CO i9)))) :: (mfl, .inl (k4 0, 2304, .inl (fun i9 => iI (FL i9)))) :: (mba, .inl (k4 1, 6, .inr (.inl (fun i9 => lI (BA i9))))) :: (mdu, .inl (k4 1, 6, .inr (.inl (fun i9 => lI (DU i9))))) :: (ao, .inl (k4 1, 1, .inr (.inl (fun i9 => lI (O i9))))) :: (xW k4 lo lnow lsl lcl lba ldu nsh nrk h1 r1 q1 h2 r2 q2 ta sa n p st cc bc pot gr bk nw bal due S1 S2 tx sg)) H locs := G
  refine z_istore E [(5, .int (iI (1))), (0, .ref bs), (1, .ref lo), (2, .ref mo), (3, .ref ao), (4, .int (iI (((i : Nat) : Int))))] dL_law_1010 hl (by decide) rfl (fun ls hl => ?_)
  refine z_aload_n E hl 3 rfl dL_law_1012 rfl ?_
  refine z_aload_n E hl 1 rfl dL_law_1013 rfl ?_
  refine z_iload E hl 5 rfl dL_law_1014 ?_
  refine z_iconst E dL_law_1016 ?_
  refine z_iadd E dL_law_1017 ?_
  refine z_sld E S9 G (i + 1) (by omega) (by omega) dL_law_1018 ?_
  refine z_eq (y := m) hx1 ?_
  refine z_aload_n E hl 1 rfl dL_law_1019 rfl ?_
  refine z_iload E hl 5 rfl dL_law_1020 ?_
  refine z_iconst E dL_law_1022 ?_
  refine z_iadd E dL_law_1023 ?_
  refine z_sld E S9 G (i + 2) (by omega) (by omega) dL_law_1024 ?_
  refine z_eq (y := a) hx2 ?_
  refine z_callV E G hl.1 (c_X5_would_0 l D k4 mo mnw mte mge mus mco mfl mba mdu th n p st cc bc pot gr bk btw bhd m a (by omega) (by omega)) kV_L_141 ⟨rfl, rfl, Nat.le_of_ble_eq_true rfl, Nat.le_of_ble_eq_true rfl⟩ [0] rfl (by decide) 0 5 rfl rfl rfl rfl rfl (Nat.le_of_ble_eq_true rfl) dL_law_1025 ⟨by omega, by omega⟩ (fun v9 w9 H locs hq G => ?_)
  obtain ⟨rfl, rfl⟩ := hq
  refine W.eq (g2 := F0 mm 1028 ls [.int (iI (0))]) rfl ?_
  have G : zG D AA ss.heap ((mo, .inr (5, [.int (iI (1)), .int (iI (((n : Nat) : Int))), .ref mnw, .ref mte, .ref mge, .ref mus, .int (iI (((p : Nat) : Int))), .int (iI (((st : Nat) : Int))), .int (iI (cc)), .int (iI (bc)), .ref mco, .ref mfl, .ref mba, .ref mdu, .long (lI (pot)), .long (lI (gr)), .long (lI (bk)), .int (iI (btw)), .int (iI (bhd))])) :: (mnw, .inl (k4 0, 19, .inl (fun i9 => iI (NW i9)))) :: (mte, .inl (k4 0, 912, .inl (fun i9 => iI (TE i9)))) :: (mge, .inl (k4 0, 288, .inl (fun i9 => iI (GE i9)))) :: (mus, .inl (k4 0, 288, .inl (fun i9 => iI (US i9)))) :: (mco, .inl (k4 0, 48, .inl (fun i9 => iI (CO i9)))) :: (mfl, .inl (k4 0, 2304, .inl (fun i9 => iI (FL i9)))) :: (mba, .inl (k4 1, 6, .inr (.inl (fun i9 => lI (BA i9))))) :: (mdu, .inl (k4 1, 6, .inr (.inl (fun i9 => lI (DU i9))))) :: (ao, .inl (k4 1, 1, .inr (.inl (fun i9 => lI (O i9))))) :: (xW k4 lo lnow lsl lcl lba ldu nsh nrk h1 r1 q1 h2 r2 q2 ta sa n p st cc bc pot gr bk nw bal due S1 S2 tx sg)) H locs := G
  refine z_istore E [(6, .int (iI (0))), (5, .int (iI (1))), (0, .ref bs), (1, .ref lo), (2, .ref mo), (3, .ref ao), (4, .int (iI (((i : Nat) : Int))))] dL_law_1028 hl (by decide) rfl (fun ls hl => ?_)
  refine z_aload_n E hl 4 rfl dL_law_1030 rfl ?_
  refine z_callV E G hl.1 (c_X5_thrown l D k4 mo mnw mte mge mus mco mfl mba mdu 1 n p st cc bc pot gr bk btw bhd ) kV_L_89 ⟨rfl, rfl, Nat.le_of_ble_eq_true rfl, Nat.le_of_ble_eq_true rfl⟩ [0] rfl (by decide) 0 5 rfl rfl rfl rfl rfl (Nat.le_of_ble_eq_true rfl) dL_law_1031 ⟨by omega, by omega⟩ (fun v9 w9 H locs hq G => ?_)
  obtain ⟨rfl, rfl⟩ := hq
  refine W.eq (g2 := F0 mm 1034 ls [.int (iI (1))]) rfl ?_
  have G : zG D AA ss.heap ((mo, .inr (5, [.int (iI (1)), .int (iI (((n : Nat) : Int))), .ref mnw, .ref mte, .ref mge, .ref mus, .int (iI (((p : Nat) : Int))), .int (iI (((st : Nat) : Int))), .int (iI (cc)), .int (iI (bc)), .ref mco, .ref mfl, .ref mba, .ref mdu, .long (lI (pot)), .long (lI (gr)), .long (lI (bk)), .int (iI (btw)), .int (iI (bhd))])) :: (mnw, .inl (k4 0, 19, .inl (fun i9 => iI (NW i9)))) :: (mte, .inl (k4 0, 912, .inl (fun i9 => iI (TE i9)))) :: (mge, .inl (k4 0, 288, .inl (fun i9 => iI (GE i9)))) :: (mus, .inl (k4 0, 288, .inl (fun i9 => iI (US i9)))) :: (mco, .inl (k4 0, 48, .inl (fun i9 => iI (CO i9)))) :: (mfl, .inl (k4 0, 2304, .inl (fun i9 => iI (FL i9)))) :: (mba, .inl (k4 1, 6, .inr (.inl (fun i9 => lI (BA i9))))) :: (mdu, .inl (k4 1, 6, .inr (.inl (fun i9 => lI (DU i9))))) :: (ao, .inl (k4 1, 1, .inr (.inl (fun i9 => lI (O i9))))) :: (xW k4 lo lnow lsl lcl lba ldu nsh nrk h1 r1 q1 h2 r2 q2 ta sa n p st cc bc pot gr bk nw bal due S1 S2 tx sg)) H locs := G
  refine z_iload E hl 1 rfl dL_law_1034 ?_
  refine z_icmp_eq (tgt := 1041) E dL_law_1036 (by decide) (by decide) (by decide) (fun c_1036 => ?_) (fun c_1036 => absurd c_1036 (by decide))
  refine z_iload E hl 1 rfl dL_law_1041 ?_
  refine z_if_ne (tgt := 1058) E dL_law_1043 (by decide) (by decide) (fun c_1043 => ?_) (fun c_1043 => absurd c_1043 (by decide))
  refine z_goto (tgt := 1502) E dL_law_1058 (by decide) ?_
  refine W.cs (cells' := cl9 + ((1) + (0))) (slots' := sl9 + ((6) + (0))) (by omega) (by omega) ?_
  exact kk _ _ _ G (lv_sub hl [2, 3, 4, 5, 6] rfl)

set_option maxHeartbeats 4000000 in
set_option maxRecDepth 100000 in
theorem s_would_1 {pp : Program} {l : Launch} {ee : Env} {ss : State} {mm : MethodId} {bl : List Frame} {me : Method} {co : Code} {AA : Nat → Prop} {H : Heap} {locs : List Loc} {ls : Array Slot} {Q9 : State → Prop} {D : va_G} {k4 : Nat → ClassId} {bs Ls : Nat} {xs : Nat → Int32} {cl9 sl9 : Nat} (hl9 : l.stackTraces = false) (E : zE pp mm co cL_law 9 ss #[Value.ref bs] RL D k4) (X : zEL ss AA) (S9 : zSc bs Ls xs ss AA) (i : Nat) (hi5 : i + 4 < Ls) (lo lnow lsl lcl lba ldu nsh nrk h1 r1 q1 h2 r2 q2 : Nat) (ta : Nat → Nat) (sa : Nat → Nat → Nat) (n p st : Nat) (cc bc pot gr bk : Int) (nw bal due : Nat → Int) (S1 S2 : sS) (tx : Nat → Nat → Int) (sg : Nat → Nat → Nat → Int) (m : Nat) (a : Int) (mo mnw mte mge mus mco mfl mba mdu : Nat) (th btw bhd : Int) (NW TE GE US CO FL BA DU : Nat → Int) (ao : Nat) (O : Nat → Int) (hX : xOK n p st bc nw S1 S2 tx sg) (hm : m < n) (ha : -2147483648 ≤ a ∧ a ≤ 2147483647 ∧ (a < 0 ∨ 3 < a)) (hn9 : n ≤ 6) (hp9 : p ≤ 48) (hs9 : st ≤ 48) (hcc : rng cc) (hb9 : 0 ≤ bc ∧ bc ≤ 20000) (hx1 : (xs (i + 1)).toInt = ((m : Nat) : Int)) (hx2 : (xs (i + 2)).toInt = a) (hc9 : cl9 + ((1) + (0)) ≤ room_1.cells) (hs99 : sl9 + ((6) + (0)) ≤ room_1.slots) (G : zG D AA ss.heap ((mo, .inr (5, [.int (iI (th)), .int (iI (((n : Nat) : Int))), .ref mnw, .ref mte, .ref mge, .ref mus, .int (iI (((p : Nat) : Int))), .int (iI (((st : Nat) : Int))), .int (iI (cc)), .int (iI (bc)), .ref mco, .ref mfl, .ref mba, .ref mdu, .long (lI (pot)), .long (lI (gr)), .long (lI (bk)), .int (iI (btw)), .int (iI (bhd))])) :: (mnw, .inl (k4 0, 19, .inl (fun i9 => iI (NW i9)))) :: (mte, .inl (k4 0, 912, .inl (fun i9 => iI (TE i9)))) :: (mge, .inl (k4 0, 288, .inl (fun i9 => iI (GE i9)))) :: (mus, .inl (k4 0, 288, .inl (fun i9 => iI (US i9)))) :: (mco, .inl (k4 0, 48, .inl (fun i9 => iI (CO i9)))) :: (mfl, .inl (k4 0, 2304, .inl (fun i9 => iI (FL i9)))) :: (mba, .inl (k4 1, 6, .inr (.inl (fun i9 => lI (BA i9))))) :: (mdu, .inl (k4 1, 6, .inr (.inl (fun i9 => lI (DU i9))))) :: (ao, .inl (k4 1, 1, .inr (.inl (fun i9 => lI (O i9))))) :: (xW k4 lo lnow lsl lcl lba ldu nsh nrk h1 r1 q1 h2 r2 q2 ta sa n p st cc bc pot gr bk nw bal due S1 S2 tx sg)) H locs) (hl : lv_has ls 9 [(0, .ref bs), (1, .ref lo), (2, .ref mo), (3, .ref ao), (4, .int (iI (((i : Nat) : Int))))]) (kk : ∀ (H : Heap) (locs : List Loc) (ls : Array Slot), zG D AA ss.heap ((mo, .inr (5, [.int (iI (2)), .int (iI (((n : Nat) : Int))), .ref mnw, .ref mte, .ref mge, .ref mus, .int (iI (((p : Nat) : Int))), .int (iI (((st : Nat) : Int))), .int (iI (cc)), .int (iI (bc)), .ref mco, .ref mfl, .ref mba, .ref mdu, .long (lI (pot)), .long (lI (gr)), .long (lI (bk)), .int (iI (btw)), .int (iI (bhd))])) :: (mnw, .inl (k4 0, 19, .inl (fun i9 => iI (NW i9)))) :: (mte, .inl (k4 0, 912, .inl (fun i9 => iI (TE i9)))) :: (mge, .inl (k4 0, 288, .inl (fun i9 => iI (GE i9)))) :: (mus, .inl (k4 0, 288, .inl (fun i9 => iI (US i9)))) :: (mco, .inl (k4 0, 48, .inl (fun i9 => iI (CO i9)))) :: (mfl, .inl (k4 0, 2304, .inl (fun i9 => iI (FL i9)))) :: (mba, .inl (k4 1, 6, .inr (.inl (fun i9 => lI (BA i9))))) :: (mdu, .inl (k4 1, 6, .inr (.inl (fun i9 => lI (DU i9))))) :: (ao, .inl (k4 1, 1, .inr (.inl (fun i9 => lI (O i9))))) :: (xW k4 lo lnow lsl lcl lba ldu nsh nrk h1 r1 q1 h2 r2 q2 ta sa n p st cc bc pot gr bk nw bal due S1 S2 tx sg)) H locs → lv_has ls 9 [(0, .ref bs), (1, .ref lo), (2, .ref mo), (3, .ref ao), (4, .int (iI (((i : Nat) : Int))))] → W pp l ee room_1 ss mm #[Value.ref bs] bl me co H locs (cl9 + ((1) + (0))) (sl9 + ((6) + (0))) Q9 (F0 mm 1502 ls [])) : W pp l ee room_1 ss mm #[Value.ref bs] bl me co H locs (cl9) (sl9) Q9 (F0 mm 993 ls []) := by
  refine z_aload_n E hl 1 rfl dL_law_993 rfl ?_
  refine z_aload_n E hl 0 rfl dL_law_994 rfl ?_
  refine z_iload E hl 4 rfl dL_law_995 ?_
  refine z_iconst E dL_law_997 ?_
  refine z_iadd E dL_law_998 ?_
  refine z_sld E S9 G (i + 1) (by omega) (by omega) dL_law_999 ?_
  refine z_eq (y := ((m : Nat) : Int)) hx1 ?_
  refine z_aload_n E hl 0 rfl dL_law_1000 rfl ?_
  refine z_iload E hl 4 rfl dL_law_1001 ?_
  refine z_iconst E dL_law_1003 ?_
  refine z_iadd E dL_law_1004 ?_
  refine z_sld E S9 G (i + 2) (by omega) (by omega) dL_law_1005 ?_
  refine z_eq (y := a) hx2 ?_
  refine z_aload_n E hl 3 rfl dL_law_1006 rfl ?_
  refine z_callL (n := 4) (pre := [(mo, .inr (5, [.int (iI (th)), .int (iI (((n : Nat) : Int))), .ref mnw, .ref mte, .ref mge, .ref mus, .int (iI (((p : Nat) : Int))), .int (iI (((st : Nat) : Int))), .int (iI (cc)), .int (iI (bc)), .ref mco, .ref mfl, .ref mba, .ref mdu, .long (lI (pot)), .long (lI (gr)), .long (lI (bk)), .int (iI (btw)), .int (iI (bhd))])), (mnw, .inl (k4 0, 19, .inl (fun i9 => iI (NW i9)))), (mte, .inl (k4 0, 912, .inl (fun i9 => iI (TE i9)))), (mge, .inl (k4 0, 288, .inl (fun i9 => iI (GE i9)))), (mus, .inl (k4 0, 288, .inl (fun i9 => iI (US i9)))), (mco, .inl (k4 0, 48, .inl (fun i9 => iI (CO i9)))), (mfl, .inl (k4 0, 2304, .inl (fun i9 => iI (FL i9)))), (mba, .inl (k4 1, 6, .inr (.inl (fun i9 => lI (BA i9))))), (mdu, .inl (k4 1, 6, .inr (.inl (fun i9 => lI (DU i9)))))]) E X G hl.1 (w_would_1 l hl9 D k4 lo lnow lsl lcl lba ldu nsh nrk h1 r1 q1 h2 r2 q2 ta sa n p st cc bc pot gr bk nw bal due S1 S2 tx sg m a ao O hX hm ha) zw_514 zw_515 zw_74 zw_516 (by decide +kernel) (by decide +kernel) ⟨rfl, rfl, Nat.le_of_ble_eq_true rfl, Nat.le_of_ble_eq_true rfl⟩ rfl rfl (Nat.le_of_ble_eq_true rfl) dL_law_1007 ⟨by omega, by omega⟩ (fun v9 w9 H locs hq G => ?_)
  obtain ⟨rfl, rfl⟩ := hq
  refine W.eq (g2 := F0 mm 1010 ls [.int (iI (2))]) rfl ?_
  have G : zG D AA ss.heap ((mo, .inr (5, [.int (iI (th)), .int (iI (((n : Nat) : Int))), .ref mnw, .ref mte, .ref mge, .ref mus, .int (iI (((p : Nat) : Int))), .int (iI (((st : Nat) : Int))), .int (iI (cc)), .int (iI (bc)), .ref mco, .ref mfl, .ref mba, .ref mdu, .long (lI (pot)), .long (lI (gr)), .long (lI (bk)), .int (iI (btw)), .int (iI (bhd))])) :: (mnw, .inl (k4 0, 19, .inl (fun i9 => iI (NW i9)))) :: (mte, .inl (k4 0, 912, .inl (fun i9 => iI (TE i9)))) :: (mge, .inl (k4 0, 288, .inl (fun i9 => iI (GE i9)))) :: (mus, .inl (k4 0, 288, .inl (fun i9 => iI (US i9)))) :: (mco, .inl (k4 0, 48, .inl (fun i9 => iI (CO i9)))) :: (mfl, .inl (k4 0, 2304, .inl (fun i9 => iI (FL i9)))) :: (mba, .inl (k4 1, 6, .inr (.inl (fun i9 => lI (BA i9))))) :: (mdu, .inl (k4 1, 6, .inr (.inl (fun i9 => lI (DU i9))))) :: (ao, .inl (k4 1, 1, .inr (.inl (fun i9 => lI (O i9))))) :: (xW k4 lo lnow lsl lcl lba ldu nsh nrk h1 r1 q1 h2 r2 q2 ta sa n p st cc bc pot gr bk nw bal due S1 S2 tx sg)) H locs := G
  refine z_istore E [(5, .int (iI (2))), (0, .ref bs), (1, .ref lo), (2, .ref mo), (3, .ref ao), (4, .int (iI (((i : Nat) : Int))))] dL_law_1010 hl (by decide) rfl (fun ls hl => ?_)
  refine z_aload_n E hl 3 rfl dL_law_1012 rfl ?_
  refine z_aload_n E hl 1 rfl dL_law_1013 rfl ?_
  refine z_iload E hl 5 rfl dL_law_1014 ?_
  refine z_iconst E dL_law_1016 ?_
  refine z_iadd E dL_law_1017 ?_
  refine z_sld E S9 G (i + 1) (by omega) (by omega) dL_law_1018 ?_
  refine z_eq (y := ((m : Nat) : Int)) hx1 ?_
  refine z_aload_n E hl 1 rfl dL_law_1019 rfl ?_
  refine z_iload E hl 5 rfl dL_law_1020 ?_
  refine z_iconst E dL_law_1022 ?_
  refine z_iadd E dL_law_1023 ?_
  refine z_sld E S9 G (i + 2) (by omega) (by omega) dL_law_1024 ?_
  refine z_eq (y := a) hx2 ?_
  refine z_callV E G hl.1 (c_X5_would_1 l D k4 mo mnw mte mge mus mco mfl mba mdu th n p st cc bc pot gr bk btw bhd m a (by omega) (by omega) (by omega)) kV_L_141 ⟨rfl, rfl, Nat.le_of_ble_eq_true rfl, Nat.le_of_ble_eq_true rfl⟩ [0] rfl (by decide) 0 5 rfl rfl rfl rfl rfl (Nat.le_of_ble_eq_true rfl) dL_law_1025 ⟨by omega, by omega⟩ (fun v9 w9 H locs hq G => ?_)
  obtain ⟨rfl, rfl⟩ := hq
  refine W.eq (g2 := F0 mm 1028 ls [.int (iI (0))]) rfl ?_
  have G : zG D AA ss.heap ((mo, .inr (5, [.int (iI (2)), .int (iI (((n : Nat) : Int))), .ref mnw, .ref mte, .ref mge, .ref mus, .int (iI (((p : Nat) : Int))), .int (iI (((st : Nat) : Int))), .int (iI (cc)), .int (iI (bc)), .ref mco, .ref mfl, .ref mba, .ref mdu, .long (lI (pot)), .long (lI (gr)), .long (lI (bk)), .int (iI (btw)), .int (iI (bhd))])) :: (mnw, .inl (k4 0, 19, .inl (fun i9 => iI (NW i9)))) :: (mte, .inl (k4 0, 912, .inl (fun i9 => iI (TE i9)))) :: (mge, .inl (k4 0, 288, .inl (fun i9 => iI (GE i9)))) :: (mus, .inl (k4 0, 288, .inl (fun i9 => iI (US i9)))) :: (mco, .inl (k4 0, 48, .inl (fun i9 => iI (CO i9)))) :: (mfl, .inl (k4 0, 2304, .inl (fun i9 => iI (FL i9)))) :: (mba, .inl (k4 1, 6, .inr (.inl (fun i9 => lI (BA i9))))) :: (mdu, .inl (k4 1, 6, .inr (.inl (fun i9 => lI (DU i9))))) :: (ao, .inl (k4 1, 1, .inr (.inl (fun i9 => lI (O i9))))) :: (xW k4 lo lnow lsl lcl lba ldu nsh nrk h1 r1 q1 h2 r2 q2 ta sa n p st cc bc pot gr bk nw bal due S1 S2 tx sg)) H locs := G
  refine z_istore E [(6, .int (iI (0))), (5, .int (iI (2))), (0, .ref bs), (1, .ref lo), (2, .ref mo), (3, .ref ao), (4, .int (iI (((i : Nat) : Int))))] dL_law_1028 hl (by decide) rfl (fun ls hl => ?_)
  refine z_aload_n E hl 4 rfl dL_law_1030 rfl ?_
  refine z_callV E G hl.1 (c_X5_thrown l D k4 mo mnw mte mge mus mco mfl mba mdu 2 n p st cc bc pot gr bk btw bhd ) kV_L_89 ⟨rfl, rfl, Nat.le_of_ble_eq_true rfl, Nat.le_of_ble_eq_true rfl⟩ [0] rfl (by decide) 0 5 rfl rfl rfl rfl rfl (Nat.le_of_ble_eq_true rfl) dL_law_1031 ⟨by omega, by omega⟩ (fun v9 w9 H locs hq G => ?_)
  obtain ⟨rfl, rfl⟩ := hq
  refine W.eq (g2 := F0 mm 1034 ls [.int (iI (2))]) rfl ?_
  have G : zG D AA ss.heap ((mo, .inr (5, [.int (iI (2)), .int (iI (((n : Nat) : Int))), .ref mnw, .ref mte, .ref mge, .ref mus, .int (iI (((p : Nat) : Int))), .int (iI (((st : Nat) : Int))), .int (iI (cc)), .int (iI (bc)), .ref mco, .ref mfl, .ref mba, .ref mdu, .long (lI (pot)), .long (lI (gr)), .long (lI (bk)), .int (iI (btw)), .int (iI (bhd))])) :: (mnw, .inl (k4 0, 19, .inl (fun i9 => iI (NW i9)))) :: (mte, .inl (k4 0, 912, .inl (fun i9 => iI (TE i9)))) :: (mge, .inl (k4 0, 288, .inl (fun i9 => iI (GE i9)))) :: (mus, .inl (k4 0, 288, .inl (fun i9 => iI (US i9)))) :: (mco, .inl (k4 0, 48, .inl (fun i9 => iI (CO i9)))) :: (mfl, .inl (k4 0, 2304, .inl (fun i9 => iI (FL i9)))) :: (mba, .inl (k4 1, 6, .inr (.inl (fun i9 => lI (BA i9))))) :: (mdu, .inl (k4 1, 6, .inr (.inl (fun i9 => lI (DU i9))))) :: (ao, .inl (k4 1, 1, .inr (.inl (fun i9 => lI (O i9))))) :: (xW k4 lo lnow lsl lcl lba ldu nsh nrk h1 r1 q1 h2 r2 q2 ta sa n p st cc bc pot gr bk nw bal due S1 S2 tx sg)) H locs := G
  refine z_iload E hl 1 rfl dL_law_1034 ?_
  refine z_icmp_eq (tgt := 1041) E dL_law_1036 (by decide) (by decide) (by decide) (fun c_1036 => ?_) (fun c_1036 => absurd c_1036 (by decide))
  refine z_iload E hl 1 rfl dL_law_1041 ?_
  refine z_if_ne (tgt := 1058) E dL_law_1043 (by decide) (by decide) (fun c_1043 => ?_) (fun c_1043 => absurd c_1043 (by decide))
  refine z_goto (tgt := 1502) E dL_law_1058 (by decide) ?_
  refine W.cs (cells' := cl9 + ((1) + (0))) (slots' := sl9 + ((6) + (0))) (by omega) (by omega) ?_
  exact kk _ _ _ G (lv_sub hl [2, 3, 4, 5, 6] rfl)
