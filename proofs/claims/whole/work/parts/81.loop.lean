set_option maxHeartbeats 4000000 in
set_option maxRecDepth 100000 in
theorem law_loop {pp : Program} {l : Launch} {ee : Env} {ss : State} {mm : MethodId} {bl : List Frame} {me : Method} {co : Code} {AA : Nat → Prop} {Q9 : State → Prop} {D : va_G} {k4 : Nat → ClassId} {bs Ls : Nat} {xs : Nat → Int32} (hl9 : l.stackTraces = false) (E : zE pp mm co cL_law 9 ss #[Value.ref bs] RL D k4) (X : zEL ss AA) (S9 : zSc bs Ls xs ss AA) (lo lnow lsl lcl lba ldu nsh nrk h1 r1 q1 h2 r2 q2 : Nat) (ta : Nat → Nat) (sa : Nat → Nat → Nat) (mo mnw mte mge mus mco mfl mba mdu ao : Nat)
    (hQ : ∀ (d0 : Drawn) (H : Heap) (locs : List Loc) (ls : Array Slot) (cl9 sl9 : Nat), ss.drawn.sameBut d0 lw_cs → va_S AA ss.heap H locs → cl9 ≤ room_1.cells → sl9 ≤ room_1.slots → W pp l ee room_1 (ss.setDrawn d0) mm #[Value.ref bs] bl me co H locs cl9 sl9 Q9 (F0 mm 1508 ls [])) :
    ∀ (f : Nat) (i : Nat) (d0 : Drawn) (u : Nat) (n p st : Nat) (cc bc pot gr bk : Int) (nw bal due : Nat → Int) (S1 S2 : sS) (tx : Nat → Nat → Int) (sg : Nat → Nat → Nat → Int) (th btw bhd : Int) (NW TE GE US CO FL BA DU : Nat → Int) (O : Nat → Int) (H : Heap) (locs : List Loc) (ls : Array Slot) (cl9 sl9 : Nat), Ls < f + i → ss.drawn.sameBut d0 lw_cs → ST n p st u cc bc nw bal due S1 S2 tx sg NW TE GE US CO FL BA DU cl9 sl9 → 5 * (p + u) ≤ i → i ≤ 2560 → zG D AA ss.heap (lW k4 lo lnow lsl lcl lba ldu nsh nrk h1 r1 q1 h2 r2 q2 ta sa mo mnw mte mge mus mco mfl mba mdu ao n p st cc bc pot gr bk nw bal due S1 S2 tx sg th btw bhd NW TE GE US CO FL BA DU O) H locs → lv_has ls 9 [(0, .ref bs), (1, .ref lo), (2, .ref mo), (3, .ref ao), (4, .int (iI (((i : Nat) : Int))))] → W pp l ee room_1 (ss.setDrawn d0) mm #[Value.ref bs] bl me co H locs cl9 sl9 Q9 (F0 mm 23 ls []) := by
  intro f
  induction f with
  | zero =>
    intro i d0 u n p st cc bc pot gr bk nw bal due S1 S2 tx sg th btw bhd NW TE GE US CO FL BA DU O H locs ls cl9 sl9 hf hd T h5 h6 G hl
    have hL := S9.2.2.2
    have hE := E.redraw d0
    have hS0 : zSc bs Ls xs (ss.setDrawn d0) AA := S9
    have hr := T.room (by omega)
    refine z_iload hE hl 4 rfl dL_law_23 ?_
    refine z_aload_n hE hl 0 rfl dL_law_25 rfl ?_
    refine va_slen hE.1 hE.2.1 hS0.1 hS0.2.1 hS0.2.2.1 G.2.2.1 dL_law_26 ?_
    rw [iI_len]
    refine z_iconst hE dL_law_27 ?_
    refine z_isub hE dL_law_28 ?_
    refine z_icmp_gt (tgt := 1508) hE dL_law_29 (by decide) ⟨by omega, by omega⟩ ⟨by omega, by omega⟩ (fun c9 => ?_) (fun c9 => absurd c9 (by omega))
    exact hQ d0 _ _ _ _ _ hd G.2.2.1 hr.1 hr.2
  | succ f ih =>
    intro i d0 u n p st cc bc pot gr bk nw bal due S1 S2 tx sg th btw bhd NW TE GE US CO FL BA DU O H locs ls cl9 sl9 hf hd T h5 h6 G hl
    have hL := S9.2.2.2
    have hE := E.redraw d0
    have hS0 : zSc bs Ls xs (ss.setDrawn d0) AA := S9
    have hr := T.room (by omega)
    refine z_iload hE hl 4 rfl dL_law_23 ?_
    refine z_aload_n hE hl 0 rfl dL_law_25 rfl ?_
    refine va_slen hE.1 hE.2.1 hS0.1 hS0.2.1 hS0.2.2.1 G.2.2.1 dL_law_26 ?_
    rw [iI_len]
    refine z_iconst hE dL_law_27 ?_
    refine z_isub hE dL_law_28 ?_
    refine z_icmp_gt (tgt := 1508) hE dL_law_29 (by decide) ⟨by omega, by omega⟩ ⟨by omega, by omega⟩ (fun c9 => hQ d0 _ _ _ _ _ hd G.2.2.1 hr.1 hr.2) (fun c9 => ?_)
    have hi5 : i + 4 < Ls := by omega
    have N : Nx pp l ee ss mm bl me co AA Q9 D k4 bs lo lnow lsl lcl lba ldu nsh nrk h1 r1 q1 h2 r2 q2 ta sa mo mnw mte mge mus mco mfl mba mdu ao i := by
      intro d0 u n p st cc bc pot gr bk nw bal due S1 S2 tx sg th btw bhd NW TE GE US CO FL BA DU O H locs ls cl9 sl9 hd T h5 G hl
      have hE := E.redraw d0
      refine z_iinc hE [(4, .int (iI (((i : Nat) : Int) + 5))), (0, .ref bs), (1, .ref lo), (2, .ref mo), (3, .ref ao)] dL_law_1502 hl (k := 4) rfl (by decide) rfl (fun ls hl => ?_)
      refine z_goto (tgt := 23) hE dL_law_1505 (by decide) ?_
      exact ih (i + 5) d0 u n p st cc bc pot gr bk nw bal due S1 S2 tx sg th btw bhd NW TE GE US CO FL BA DU O H locs ls cl9 sl9 (by omega) hd T h5 (by omega) G (lv_sub hl [1, 2, 3, 4, 0] rfl)
    refine z_aload_n hE hl 0 rfl dL_law_32 rfl ?_
    refine z_iload hE hl 4 rfl dL_law_33 ?_
    refine z_sld hE hS0 G i rfl (by omega) dL_law_35 ?_
    refine z_bipush hE dL_law_36 (by decide) ?_
    refine lv_iand hE.1 hE.2.1 dL_law_38 ?_
    obtain ⟨c, hc, hce⟩ := and31 (iI (xs i).toInt)
    rw [hce]
    by_cases c24 : 24 ≤ c
    · refine z_tableOut (tgt := 1502) hE dL_law_39 ⟨by omega, by omega⟩ (by omega) (by decide) ?_
      exact N hd T (by omega) G hl
    have h24 : c = 0 ∨ c = 1 ∨ c = 2 ∨ c = 3 ∨ c = 4 ∨ c = 5 ∨ c = 6 ∨ c = 7 ∨ c = 8 ∨ c = 9 ∨ c = 10 ∨ c = 11 ∨ c = 12 ∨ c = 13 ∨ c = 14 ∨ c = 15 ∨ c = 16 ∨ c = 17 ∨ c = 18 ∨ c = 19 ∨ c = 20 ∨ c = 21 ∨ c = 22 ∨ c = 23 := by omega
    rcases h24 with rfl | rfl | rfl | rfl | rfl | rfl | rfl | rfl | rfl | rfl | rfl | rfl | rfl | rfl | rfl | rfl | rfl | rfl | rfl | rfl | rfl | rfl | rfl | rfl
    · refine z_tableIn (tgt := 148) hE 0 dL_law_39 ⟨by omega, by omega⟩ (by omega) (by decide) rfl (by decide) ?_
      exact k_addMember hl9 E X S9 lo lnow lsl lcl lba ldu nsh nrk h1 r1 q1 h2 r2 q2 ta sa mo mnw mte mge mus mco mfl mba mdu ao i hi5 N d0 u n p st cc bc pot gr bk nw bal due S1 S2 tx sg th btw bhd NW TE GE US CO FL BA DU O H locs _ cl9 sl9 hd T h5 (by omega) G hl
    · refine z_tableIn (tgt := 192) hE 1 dL_law_39 ⟨by omega, by omega⟩ (by omega) (by decide) rfl (by decide) ?_
      exact k_setMember hl9 E X S9 lo lnow lsl lcl lba ldu nsh nrk h1 r1 q1 h2 r2 q2 ta sa mo mnw mte mge mus mco mfl mba mdu ao i hi5 N d0 u n p st cc bc pot gr bk nw bal due S1 S2 tx sg th btw bhd NW TE GE US CO FL BA DU O H locs _ cl9 sl9 hd T h5 (by omega) G hl
    · refine z_tableIn (tgt := 272) hE 2 dL_law_39 ⟨by omega, by omega⟩ (by omega) (by decide) rfl (by decide) ?_
      exact k_setRule hl9 E X S9 lo lnow lsl lcl lba ldu nsh nrk h1 r1 q1 h2 r2 q2 ta sa mo mnw mte mge mus mco mfl mba mdu ao i hi5 N d0 u n p st cc bc pot gr bk nw bal due S1 S2 tx sg th btw bhd NW TE GE US CO FL BA DU O H locs _ cl9 sl9 hd T h5 (by omega) G hl
    · refine z_tableIn (tgt := 328) hE 3 dL_law_39 ⟨by omega, by omega⟩ (by omega) (by decide) rfl (by decide) ?_
      exact k_setPrices hl9 E X S9 lo lnow lsl lcl lba ldu nsh nrk h1 r1 q1 h2 r2 q2 ta sa mo mnw mte mge mus mco mfl mba mdu ao i hi5 N d0 u n p st cc bc pot gr bk nw bal due S1 S2 tx sg th btw bhd NW TE GE US CO FL BA DU O H locs _ cl9 sl9 hd T h5 (by omega) G hl
    · refine z_tableIn (tgt := 408) hE 4 dL_law_39 ⟨by omega, by omega⟩ (by omega) (by decide) rfl (by decide) ?_
      exact k_setBattery hl9 E X S9 lo lnow lsl lcl lba ldu nsh nrk h1 r1 q1 h2 r2 q2 ta sa mo mnw mte mge mus mco mfl mba mdu ao i hi5 N d0 u n p st cc bc pot gr bk nw bal due S1 S2 tx sg th btw bhd NW TE GE US CO FL BA DU O H locs _ cl9 sl9 hd T h5 (by omega) G hl
    · refine z_tableIn (tgt := 488) hE 5 dL_law_39 ⟨by omega, by omega⟩ (by omega) (by decide) rfl (by decide) ?_
      exact k_content hl9 E X S9 lo lnow lsl lcl lba ldu nsh nrk h1 r1 q1 h2 r2 q2 ta sa mo mnw mte mge mus mco mfl mba mdu ao i hi5 N d0 u n p st cc bc pot gr bk nw bal due S1 S2 tx sg th btw bhd NW TE GE US CO FL BA DU O H locs _ cl9 sl9 hd T h5 (by omega) G hl
    · refine z_tableIn (tgt := 501) hE 6 dL_law_39 ⟨by omega, by omega⟩ (by omega) (by decide) rfl (by decide) ?_
      exact k_members hl9 E X S9 lo lnow lsl lcl lba ldu nsh nrk h1 r1 q1 h2 r2 q2 ta sa mo mnw mte mge mus mco mfl mba mdu ao i hi5 N d0 u n p st cc bc pot gr bk nw bal due S1 S2 tx sg th btw bhd NW TE GE US CO FL BA DU O H locs _ cl9 sl9 hd T h5 (by omega) G hl
    · refine z_tableIn (tgt := 514) hE 7 dL_law_39 ⟨by omega, by omega⟩ (by omega) (by decide) rfl (by decide) ?_
      exact k_meter hl9 E X S9 lo lnow lsl lcl lba ldu nsh nrk h1 r1 q1 h2 r2 q2 ta sa mo mnw mte mge mus mco mfl mba mdu ao i hi5 N d0 u n p st cc bc pot gr bk nw bal due S1 S2 tx sg th btw bhd NW TE GE US CO FL BA DU O H locs _ cl9 sl9 hd T h5 (by omega) G hl
    · refine z_tableIn (tgt := 613) hE 8 dL_law_39 ⟨by omega, by omega⟩ (by omega) (by decide) rfl (by decide) ?_
      exact k_reading hl9 E X S9 lo lnow lsl lcl lba ldu nsh nrk h1 r1 q1 h2 r2 q2 ta sa mo mnw mte mge mus mco mfl mba mdu ao i hi5 N d0 u n p st cc bc pot gr bk nw bal due S1 S2 tx sg th btw bhd NW TE GE US CO FL BA DU O H locs _ cl9 sl9 hd T h5 (by omega) G hl
    · refine z_tableIn (tgt := 709) hE 9 dL_law_39 ⟨by omega, by omega⟩ (by omega) (by decide) rfl (by decide) ?_
      exact k_present hl9 E X S9 lo lnow lsl lcl lba ldu nsh nrk h1 r1 q1 h2 r2 q2 ta sa mo mnw mte mge mus mco mfl mba mdu ao i hi5 N d0 u n p st cc bc pot gr bk nw bal due S1 S2 tx sg th btw bhd NW TE GE US CO FL BA DU O H locs _ cl9 sl9 hd T h5 (by omega) G hl
    · refine z_tableIn (tgt := 722) hE 10 dL_law_39 ⟨by omega, by omega⟩ (by omega) (by decide) rfl (by decide) ?_
      exact k_close hl9 E X S9 lo lnow lsl lcl lba ldu nsh nrk h1 r1 q1 h2 r2 q2 ta sa mo mnw mte mge mus mco mfl mba mdu ao i hi5 N d0 u n p st cc bc pot gr bk nw bal due S1 S2 tx sg th btw bhd NW TE GE US CO FL BA DU O H locs _ cl9 sl9 hd T h5 (by omega) G hl
    · refine z_tableIn (tgt := 766) hE 11 dL_law_39 ⟨by omega, by omega⟩ (by omega) (by decide) rfl (by decide) ?_
      exact k_correct hl9 E X S9 lo lnow lsl lcl lba ldu nsh nrk h1 r1 q1 h2 r2 q2 ta sa mo mnw mte mge mus mco mfl mba mdu ao i hi5 N d0 u n p st cc bc pot gr bk nw bal due S1 S2 tx sg th btw bhd NW TE GE US CO FL BA DU O H locs _ cl9 sl9 hd T h5 (by omega) G hl
    · refine z_tableIn (tgt := 857) hE 12 dL_law_39 ⟨by omega, by omega⟩ (by omega) (by decide) rfl (by decide) ?_
      exact k_flow hl9 E X S9 lo lnow lsl lcl lba ldu nsh nrk h1 r1 q1 h2 r2 q2 ta sa mo mnw mte mge mus mco mfl mba mdu ao i hi5 N d0 u n p st cc bc pot gr bk nw bal due S1 S2 tx sg th btw bhd NW TE GE US CO FL BA DU O H locs _ cl9 sl9 hd T h5 (by omega) G hl
    · refine z_tableIn (tgt := 937) hE 13 dL_law_39 ⟨by omega, by omega⟩ (by omega) (by decide) rfl (by decide) ?_
      exact k_contentAt hl9 E X S9 lo lnow lsl lcl lba ldu nsh nrk h1 r1 q1 h2 r2 q2 ta sa mo mnw mte mge mus mco mfl mba mdu ao i hi5 N d0 u n p st cc bc pot gr bk nw bal due S1 S2 tx sg th btw bhd NW TE GE US CO FL BA DU O H locs _ cl9 sl9 hd T h5 (by omega) G hl
    · refine z_tableIn (tgt := 993) hE 14 dL_law_39 ⟨by omega, by omega⟩ (by omega) (by decide) rfl (by decide) ?_
      exact k_would hl9 E X S9 lo lnow lsl lcl lba ldu nsh nrk h1 r1 q1 h2 r2 q2 ta sa mo mnw mte mge mus mco mfl mba mdu ao i hi5 N d0 u n p st cc bc pot gr bk nw bal due S1 S2 tx sg th btw bhd NW TE GE US CO FL BA DU O H locs _ cl9 sl9 hd T h5 (by omega) G hl
    · refine z_tableIn (tgt := 1061) hE 15 dL_law_39 ⟨by omega, by omega⟩ (by omega) (by decide) rfl (by decide) ?_
      exact k_bestRule hl9 E X S9 lo lnow lsl lcl lba ldu nsh nrk h1 r1 q1 h2 r2 q2 ta sa mo mnw mte mge mus mco mfl mba mdu ao i hi5 N d0 u n p st cc bc pot gr bk nw bal due S1 S2 tx sg th btw bhd NW TE GE US CO FL BA DU O H locs _ cl9 sl9 hd T h5 (by omega) G hl
    · refine z_tableIn (tgt := 1117) hE 16 dL_law_39 ⟨by omega, by omega⟩ (by omega) (by decide) rfl (by decide) ?_
      exact k_account hl9 E X S9 lo lnow lsl lcl lba ldu nsh nrk h1 r1 q1 h2 r2 q2 ta sa mo mnw mte mge mus mco mfl mba mdu ao i hi5 N d0 u n p st cc bc pot gr bk nw bal due S1 S2 tx sg th btw bhd NW TE GE US CO FL BA DU O H locs _ cl9 sl9 hd T h5 (by omega) G hl
    · refine z_tableIn (tgt := 1200) hE 17 dL_law_39 ⟨by omega, by omega⟩ (by omega) (by decide) rfl (by decide) ?_
      exact k_common hl9 E X S9 lo lnow lsl lcl lba ldu nsh nrk h1 r1 q1 h2 r2 q2 ta sa mo mnw mte mge mus mco mfl mba mdu ao i hi5 N d0 u n p st cc bc pot gr bk nw bal due S1 S2 tx sg th btw bhd NW TE GE US CO FL BA DU O H locs _ cl9 sl9 hd T h5 (by omega) G hl
    · refine z_tableIn (tgt := 1255) hE 18 dL_law_39 ⟨by omega, by omega⟩ (by omega) (by decide) rfl (by decide) ?_
      exact k_settle hl9 E X S9 lo lnow lsl lcl lba ldu nsh nrk h1 r1 q1 h2 r2 q2 ta sa mo mnw mte mge mus mco mfl mba mdu ao i hi5 N d0 u n p st cc bc pot gr bk nw bal due S1 S2 tx sg th btw bhd NW TE GE US CO FL BA DU O H locs _ cl9 sl9 hd T h5 (by omega) G hl
    · refine z_tableIn (tgt := 1311) hE 19 dL_law_39 ⟨by omega, by omega⟩ (by omega) (by decide) rfl (by decide) ?_
      exact k_pay hl9 E X S9 lo lnow lsl lcl lba ldu nsh nrk h1 r1 q1 h2 r2 q2 ta sa mo mnw mte mge mus mco mfl mba mdu ao i hi5 N d0 u n p st cc bc pot gr bk nw bal due S1 S2 tx sg th btw bhd NW TE GE US CO FL BA DU O H locs _ cl9 sl9 hd T h5 (by omega) G hl
    · refine z_tableIn (tgt := 1378) hE 20 dL_law_39 ⟨by omega, by omega⟩ (by omega) (by decide) rfl (by decide) ?_
      exact k_late hl9 E X S9 lo lnow lsl lcl lba ldu nsh nrk h1 r1 q1 h2 r2 q2 ta sa mo mnw mte mge mus mco mfl mba mdu ao i hi5 N d0 u n p st cc bc pot gr bk nw bal due S1 S2 tx sg th btw bhd NW TE GE US CO FL BA DU O H locs _ cl9 sl9 hd T h5 (by omega) G hl
    · refine z_tableIn (tgt := 1434) hE 21 dL_law_39 ⟨by omega, by omega⟩ (by omega) (by decide) rfl (by decide) ?_
      exact k_corrections hl9 E X S9 lo lnow lsl lcl lba ldu nsh nrk h1 r1 q1 h2 r2 q2 ta sa mo mnw mte mge mus mco mfl mba mdu ao i hi5 N d0 u n p st cc bc pot gr bk nw bal due S1 S2 tx sg th btw bhd NW TE GE US CO FL BA DU O H locs _ cl9 sl9 hd T h5 (by omega) G hl
    · refine z_tableIn (tgt := 1447) hE 22 dL_law_39 ⟨by omega, by omega⟩ (by omega) (by decide) rfl (by decide) ?_
      exact k_independence hl9 E X S9 lo lnow lsl lcl lba ldu nsh nrk h1 r1 q1 h2 r2 q2 ta sa mo mnw mte mge mus mco mfl mba mdu ao i hi5 N d0 u n p st cc bc pot gr bk nw bal due S1 S2 tx sg th btw bhd NW TE GE US CO FL BA DU O H locs _ cl9 sl9 hd T h5 (by omega) G hl
    · refine z_tableIn (tgt := 1488) hE 23 dL_law_39 ⟨by omega, by omega⟩ (by omega) (by decide) rfl (by decide) ?_
      exact k_digest hl9 E X S9 lo lnow lsl lcl lba ldu nsh nrk h1 r1 q1 h2 r2 q2 ta sa mo mnw mte mge mus mco mfl mba mdu ao i hi5 N d0 u n p st cc bc pot gr bk nw bal due S1 S2 tx sg th btw bhd NW TE GE US CO FL BA DU O H locs _ cl9 sl9 hd T h5 (by omega) G hl
