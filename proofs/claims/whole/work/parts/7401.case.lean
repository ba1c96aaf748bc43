set_option maxHeartbeats 4000000 in
set_option maxRecDepth 100000 in
theorem k_setBattery {pp : Program} {l : Launch} {ee : Env} {ss : State} {mm : MethodId} {bl : List Frame} {me : Method} {co : Code} {AA : Nat → Prop} {Q9 : State → Prop} {D : va_G} {k4 : Nat → ClassId} {bs Ls : Nat} {xs : Nat → Int32} (hl9 : l.stackTraces = false) (E : zE pp mm co cL_law 9 ss #[Value.ref bs] RL D k4) (X : zEL ss AA) (S9 : zSc bs Ls xs ss AA) (lo lnow lsl lcl lba ldu nsh nrk h1 r1 q1 h2 r2 q2 : Nat) (ta : Nat → Nat) (sa : Nat → Nat → Nat) (mo mnw mte mge mus mco mfl mba mdu ao : Nat) (i : Nat) (hi5 : i + 4 < Ls) (N : Nx pp l ee ss mm bl me co AA Q9 D k4 bs lo lnow lsl lcl lba ldu nsh nrk h1 r1 q1 h2 r2 q2 ta sa mo mnw mte mge mus mco mfl mba mdu ao i) (d0 : Drawn) (u : Nat) (n p st : Nat) (cc bc pot gr bk : Int) (nw bal due : Nat → Int) (S1 S2 : sS) (tx : Nat → Nat → Int) (sg : Nat → Nat → Nat → Int) (th btw bhd : Int) (NW TE GE US CO FL BA DU : Nat → Int) (O : Nat → Int) (H : Heap) (locs : List Loc) (ls : Array Slot) (cl9 sl9 : Nat) (hd : ss.drawn.sameBut d0 lw_cs) (T : ST n p st u cc bc nw bal due S1 S2 tx sg NW TE GE US CO FL BA DU cl9 sl9) (h5 : 5 * (p + u) ≤ i) (h6 : i ≤ 2555) (G : zG D AA ss.heap (lW k4 lo lnow lsl lcl lba ldu nsh nrk h1 r1 q1 h2 r2 q2 ta sa mo mnw mte mge mus mco mfl mba mdu ao n p st cc bc pot gr bk nw bal due S1 S2 tx sg th btw bhd NW TE GE US CO FL BA DU O) H locs) (hl : lv_has ls 9 [(0, .ref bs), (1, .ref lo), (2, .ref mo), (3, .ref ao), (4, .int (iI (((i : Nat) : Int))))]) : W pp l ee room_1 (ss.setDrawn d0) mm #[Value.ref bs] bl me co H locs cl9 sl9 Q9 (F0 mm 408 ls []) := by
  have hE := E.redraw d0
  have hX0 := X.redraw d0
  have hS0 : zSc bs Ls xs (ss.setDrawn d0) AA := S9
  obtain ⟨hI, hcc, hR, hc9, hs9⟩ := id T
  obtain ⟨y1, y2, y3, y4, y5, y6, y7, y8, y9⟩ := id hI.1
  have y44 := y4.2.2.2.2.1
  have hccr : rng cc := ⟨by omega, by omega⟩
  have hs48 : st ≤ 48 := by omega
  have hb9 : 0 ≤ bc ∧ bc ≤ 20000 := by omega
  have v1 := iI_rng (xs (i + 1))
  have v2 := iI_rng (xs (i + 2))
  have v3 := iI_rng (xs (i + 3))
  have v4 := iI_rng (xs (i + 4))
  by_cases c0 : (xs (i + 1)).toInt < 0 ∨ 20000 < (xs (i + 1)).toInt
  · have T2 := T.next (cc' := cc) (mc := (1) + (0)) (ms := (6) + (0)) hI (by omega) (by omega) (by omega) (by omega)
    have hr := T2.room (by omega)
    exact s_setBattery_0 hl9 hE hX0 hS0 i hi5 lo lnow lsl lcl lba ldu nsh nrk h1 r1 q1 h2 r2 q2 ta sa n p st cc bc pot gr bk nw bal due S1 S2 tx sg (xs (i + 1)).toInt (xs (i + 2)).toInt (xs (i + 3)).toInt mo mnw mte mge mus mco mfl mba mdu th btw bhd NW TE GE US CO FL BA DU ao O hI.1 (by omega) hI.1.1 hI.1.2.1 hs48 hccr hb9 rfl rfl rfl hr.1 hr.2 G hl (fun H locs ls G hl => N hd T2 (by omega) G hl)
  by_cases c1 : (xs (i + 2)).toInt < 0 ∨ 5000 < (xs (i + 2)).toInt
  · have T2 := T.next (cc' := cc) (mc := (1) + (0)) (ms := (6) + (0)) hI (by omega) (by omega) (by omega) (by omega)
    have hr := T2.room (by omega)
    exact s_setBattery_1 hl9 hE hX0 hS0 i hi5 lo lnow lsl lcl lba ldu nsh nrk h1 r1 q1 h2 r2 q2 ta sa n p st cc bc pot gr bk nw bal due S1 S2 tx sg (xs (i + 1)).toInt (xs (i + 2)).toInt (xs (i + 3)).toInt mo mnw mte mge mus mco mfl mba mdu th btw bhd NW TE GE US CO FL BA DU ao O hI.1 (by omega) (by omega) hI.1.1 hI.1.2.1 hs48 hccr hb9 rfl rfl rfl hr.1 hr.2 G hl (fun H locs ls G hl => N hd T2 (by omega) G hl)
  by_cases c2 : (xs (i + 3)).toInt < 1 ∨ 100 < (xs (i + 3)).toInt
  · have T2 := T.next (cc' := cc) (mc := (1) + (0)) (ms := (6) + (0)) hI (by omega) (by omega) (by omega) (by omega)
    have hr := T2.room (by omega)
    exact s_setBattery_2 hl9 hE hX0 hS0 i hi5 lo lnow lsl lcl lba ldu nsh nrk h1 r1 q1 h2 r2 q2 ta sa n p st cc bc pot gr bk nw bal due S1 S2 tx sg (xs (i + 1)).toInt (xs (i + 2)).toInt (xs (i + 3)).toInt mo mnw mte mge mus mco mfl mba mdu th btw bhd NW TE GE US CO FL BA DU ao O hI.1 (by omega) (by omega) (by omega) hI.1.1 hI.1.2.1 hs48 hccr hb9 rfl rfl rfl hr.1 hr.2 G hl (fun H locs ls G hl => N hd T2 (by omega) G hl)
  have T2 := T.next (cc' := cc) (mc := (0) + (0)) (ms := (0) + (0)) (hI.set (bc' := min bc (xs (i + 1)).toInt) (tOK_up (k := 6) (a := (xs (i + 3)).toInt) (tOK_up (k := 5) (a := (xs (i + 2)).toInt) (tOK_up (k := 4) (a := (xs (i + 1)).toInt) hI.1.2.2.2.1 (by show 0 ≤ (xs (i + 1)).toInt ∧ (xs (i + 1)).toInt ≤ 20000; omega)) (by show 0 ≤ (xs (i + 2)).toInt ∧ (xs (i + 2)).toInt ≤ 5000; omega)) (by show 1 ≤ (xs (i + 3)).toInt ∧ (xs (i + 3)).toInt ≤ 100; omega)) (t19_up (t19_up (t19_up hI.2.1))) (by rw [up_n (by omega), up_n (by omega), up_s]; omega)) (by omega) (by omega) (by omega) (by omega)
  have hr := T2.room (by omega)
  exact s_setBattery hl9 hE hX0 hS0 i hi5 lo lnow lsl lcl lba ldu nsh nrk h1 r1 q1 h2 r2 q2 ta sa n p st cc bc pot gr bk nw bal due S1 S2 tx sg (xs (i + 1)).toInt (xs (i + 2)).toInt (xs (i + 3)).toInt mo mnw mte mge mus mco mfl mba mdu th btw bhd NW TE GE US CO FL BA DU ao O hI.1 (by omega) (by omega) (by omega) hI.1.1 hI.1.2.1 hs48 hccr hb9 rfl rfl rfl ⟨by omega, by omega⟩ hr.1 hr.2 G hl (fun H locs ls G hl => N hd T2 (by omega) G hl)

set_option maxHeartbeats 4000000 in
set_option maxRecDepth 100000 in
theorem k_content {pp : Program} {l : Launch} {ee : Env} {ss : State} {mm : MethodId} {bl : List Frame} {me : Method} {co : Code} {AA : Nat → Prop} {Q9 : State → Prop} {D : va_G} {k4 : Nat → ClassId} {bs Ls : Nat} {xs : Nat → Int32} (hl9 : l.stackTraces = false) (E : zE pp mm co cL_law 9 ss #[Value.ref bs] RL D k4) (X : zEL ss AA) (S9 : zSc bs Ls xs ss AA) (lo lnow lsl lcl lba ldu nsh nrk h1 r1 q1 h2 r2 q2 : Nat) (ta : Nat → Nat) (sa : Nat → Nat → Nat) (mo mnw mte mge mus mco mfl mba mdu ao : Nat) (i : Nat) (hi5 : i + 4 < Ls) (N : Nx pp l ee ss mm bl me co AA Q9 D k4 bs lo lnow lsl lcl lba ldu nsh nrk h1 r1 q1 h2 r2 q2 ta sa mo mnw mte mge mus mco mfl mba mdu ao i) (d0 : Drawn) (u : Nat) (n p st : Nat) (cc bc pot gr bk : Int) (nw bal due : Nat → Int) (S1 S2 : sS) (tx : Nat → Nat → Int) (sg : Nat → Nat → Nat → Int) (th btw bhd : Int) (NW TE GE US CO FL BA DU : Nat → Int) (O : Nat → Int) (H : Heap) (locs : List Loc) (ls : Array Slot) (cl9 sl9 : Nat) (hd : ss.drawn.sameBut d0 lw_cs) (T : ST n p st u cc bc nw bal due S1 S2 tx sg NW TE GE US CO FL BA DU cl9 sl9) (h5 : 5 * (p + u) ≤ i) (h6 : i ≤ 2555) (G : zG D AA ss.heap (lW k4 lo lnow lsl lcl lba ldu nsh nrk h1 r1 q1 h2 r2 q2 ta sa mo mnw mte mge mus mco mfl mba mdu ao n p st cc bc pot gr bk nw bal due S1 S2 tx sg th btw bhd NW TE GE US CO FL BA DU O) H locs) (hl : lv_has ls 9 [(0, .ref bs), (1, .ref lo), (2, .ref mo), (3, .ref ao), (4, .int (iI (((i : Nat) : Int))))]) : W pp l ee room_1 (ss.setDrawn d0) mm #[Value.ref bs] bl me co H locs cl9 sl9 Q9 (F0 mm 488 ls []) := by
  have hE := E.redraw d0
  have hX0 := X.redraw d0
  have hS0 : zSc bs Ls xs (ss.setDrawn d0) AA := S9
  obtain ⟨hI, hcc, hR, hc9, hs9⟩ := id T
  obtain ⟨y1, y2, y3, y4, y5, y6, y7, y8, y9⟩ := id hI.1
  have y44 := y4.2.2.2.2.1
  have hccr : rng cc := ⟨by omega, by omega⟩
  have hs48 : st ≤ 48 := by omega
  have hb9 : 0 ≤ bc ∧ bc ≤ 20000 := by omega
  have v1 := iI_rng (xs (i + 1))
  have v2 := iI_rng (xs (i + 2))
  have v3 := iI_rng (xs (i + 3))
  have v4 := iI_rng (xs (i + 4))
  have T2 := T.next (cc' := cc) (mc := (0) + (0)) (ms := (0) + (0)) (hI) (by omega) (by omega) (by omega) (by omega)
  have hr := T2.room (by omega)
  exact s_content hl9 hE hX0 hS0 i hi5 lo lnow lsl lcl lba ldu nsh nrk h1 r1 q1 h2 r2 q2 ta sa n p st cc bc pot gr bk nw bal due S1 S2 tx sg mo mnw mte mge mus mco mfl mba mdu th btw bhd NW TE GE US CO FL BA DU ao O hI.1.1 hI.1.2.1 hs48 hccr hb9 hr.1 hr.2 G hl (fun H locs ls G hl => N hd T2 (by omega) G hl)

set_option maxHeartbeats 4000000 in
set_option maxRecDepth 100000 in
theorem k_members {pp : Program} {l : Launch} {ee : Env} {ss : State} {mm : MethodId} {bl : List Frame} {me : Method} {co : Code} {AA : Nat → Prop} {Q9 : State → Prop} {D : va_G} {k4 : Nat → ClassId} {bs Ls : Nat} {xs : Nat → Int32} (hl9 : l.stackTraces = false) (E : zE pp mm co cL_law 9 ss #[Value.ref bs] RL D k4) (X : zEL ss AA) (S9 : zSc bs Ls xs ss AA) (lo lnow lsl lcl lba ldu nsh nrk h1 r1 q1 h2 r2 q2 : Nat) (ta : Nat → Nat) (sa : Nat → Nat → Nat) (mo mnw mte mge mus mco mfl mba mdu ao : Nat) (i : Nat) (hi5 : i + 4 < Ls) (N : Nx pp l ee ss mm bl me co AA Q9 D k4 bs lo lnow lsl lcl lba ldu nsh nrk h1 r1 q1 h2 r2 q2 ta sa mo mnw mte mge mus mco mfl mba mdu ao i) (d0 : Drawn) (u : Nat) (n p st : Nat) (cc bc pot gr bk : Int) (nw bal due : Nat → Int) (S1 S2 : sS) (tx : Nat → Nat → Int) (sg : Nat → Nat → Nat → Int) (th btw bhd : Int) (NW TE GE US CO FL BA DU : Nat → Int) (O : Nat → Int) (H : Heap) (locs : List Loc) (ls : Array Slot) (cl9 sl9 : Nat) (hd : ss.drawn.sameBut d0 lw_cs) (T : ST n p st u cc bc nw bal due S1 S2 tx sg NW TE GE US CO FL BA DU cl9 sl9) (h5 : 5 * (p + u) ≤ i) (h6 : i ≤ 2555) (G : zG D AA ss.heap (lW k4 lo lnow lsl lcl lba ldu nsh nrk h1 r1 q1 h2 r2 q2 ta sa mo mnw mte mge mus mco mfl mba mdu ao n p st cc bc pot gr bk nw bal due S1 S2 tx sg th btw bhd NW TE GE US CO FL BA DU O) H locs) (hl : lv_has ls 9 [(0, .ref bs), (1, .ref lo), (2, .ref mo), (3, .ref ao), (4, .int (iI (((i : Nat) : Int))))]) : W pp l ee room_1 (ss.setDrawn d0) mm #[Value.ref bs] bl me co H locs cl9 sl9 Q9 (F0 mm 501 ls []) := by
  have hE := E.redraw d0
  have hX0 := X.redraw d0
  have hS0 : zSc bs Ls xs (ss.setDrawn d0) AA := S9
  obtain ⟨hI, hcc, hR, hc9, hs9⟩ := id T
  obtain ⟨y1, y2, y3, y4, y5, y6, y7, y8, y9⟩ := id hI.1
  have y44 := y4.2.2.2.2.1
  have hccr : rng cc := ⟨by omega, by omega⟩
  have hs48 : st ≤ 48 := by omega
  have hb9 : 0 ≤ bc ∧ bc ≤ 20000 := by omega
  have v1 := iI_rng (xs (i + 1))
  have v2 := iI_rng (xs (i + 2))
  have v3 := iI_rng (xs (i + 3))
  have v4 := iI_rng (xs (i + 4))
  have T2 := T.next (cc' := cc) (mc := (0) + (0)) (ms := (0) + (0)) (hI) (by omega) (by omega) (by omega) (by omega)
  have hr := T2.room (by omega)
  exact s_members hl9 hE hX0 hS0 i hi5 lo lnow lsl lcl lba ldu nsh nrk h1 r1 q1 h2 r2 q2 ta sa n p st cc bc pot gr bk nw bal due S1 S2 tx sg mo mnw mte mge mus mco mfl mba mdu th btw bhd NW TE GE US CO FL BA DU ao O hI.1.1 hI.1.2.1 hs48 hccr hb9 hr.1 hr.2 G hl (fun H locs ls G hl => N hd T2 (by omega) G hl)

set_option maxHeartbeats 4000000 in
set_option maxRecDepth 100000 in
theorem k_meter {pp : Program} {l : Launch} {ee : Env} {ss : State} {mm : MethodId} {bl : List Frame} {me : Method} {co : Code} {AA : Nat → Prop} {Q9 : State → Prop} {D : va_G} {k4 : Nat → ClassId} {bs Ls : Nat} {xs : Nat → Int32} (hl9 : l.stackTraces = false) (E : zE pp mm co cL_law 9 ss #[Value.ref bs] RL D k4) (X : zEL ss AA) (S9 : zSc bs Ls xs ss AA) (lo lnow lsl lcl lba ldu nsh nrk h1 r1 q1 h2 r2 q2 : Nat) (ta : Nat → Nat) (sa : Nat → Nat → Nat) (mo mnw mte mge mus mco mfl mba mdu ao : Nat) (i : Nat) (hi5 : i + 4 < Ls) (N : Nx pp l ee ss mm bl me co AA Q9 D k4 bs lo lnow lsl lcl lba ldu nsh nrk h1 r1 q1 h2 r2 q2 ta sa mo mnw mte mge mus mco mfl mba mdu ao i) (d0 : Drawn) (u : Nat) (n p st : Nat) (cc bc pot gr bk : Int) (nw bal due : Nat → Int) (S1 S2 : sS) (tx : Nat → Nat → Int) (sg : Nat → Nat → Nat → Int) (th btw bhd : Int) (NW TE GE US CO FL BA DU : Nat → Int) (O : Nat → Int) (H : Heap) (locs : List Loc) (ls : Array Slot) (cl9 sl9 : Nat) (hd : ss.drawn.sameBut d0 lw_cs) (T : ST n p st u cc bc nw bal due S1 S2 tx sg NW TE GE US CO FL BA DU cl9 sl9) (h5 : 5 * (p + u) ≤ i) (h6 : i ≤ 2555) (G : zG D AA ss.heap (lW k4 lo lnow lsl lcl lba ldu nsh nrk h1 r1 q1 h2 r2 q2 ta sa mo mnw mte mge mus mco mfl mba mdu ao n p st cc bc pot gr bk nw bal due S1 S2 tx sg th btw bhd NW TE GE US CO FL BA DU O) H locs) (hl : lv_has ls 9 [(0, .ref bs), (1, .ref lo), (2, .ref mo), (3, .ref ao), (4, .int (iI (((i : Nat) : Int))))]) : W pp l ee room_1 (ss.setDrawn d0) mm #[Value.ref bs] bl me co H locs cl9 sl9 Q9 (F0 mm 514 ls []) := by
  have hE := E.redraw d0
  have hX0 := X.redraw d0
  have hS0 : zSc bs Ls xs (ss.setDrawn d0) AA := S9
  obtain ⟨hI, hcc, hR, hc9, hs9⟩ := id T
  obtain ⟨y1, y2, y3, y4, y5, y6, y7, y8, y9⟩ := id hI.1
  have y44 := y4.2.2.2.2.1
  have hccr : rng cc := ⟨by omega, by omega⟩
  have hs48 : st ≤ 48 := by omega
  have hb9 : 0 ≤ bc ∧ bc ≤ 20000 := by omega
  have v1 := iI_rng (xs (i + 1))
  have v2 := iI_rng (xs (i + 2))
  have v3 := iI_rng (xs (i + 3))
  have v4 := iI_rng (xs (i + 4))
  by_cases c0 : (xs (i + 1)).toInt < 0 ∨ ((n : Nat) : Int) ≤ (xs (i + 1)).toInt
  · have T2 := T.next (cc' := cc) (mc := (1) + (0)) (ms := (6) + (0)) hI (by omega) (by omega) (by omega) (by omega)
    have hr := T2.room (by omega)
    exact s_meter_0 hl9 hE hX0 hS0 i hi5 lo lnow lsl lcl lba ldu nsh nrk h1 r1 q1 h2 r2 q2 ta sa n p st cc bc pot gr bk nw bal due S1 S2 tx sg (xs (i + 1)).toInt (xs (i + 2)).toInt (xs (i + 3)).toInt (xs (i + 4)).toInt mo mnw mte mge mus mco mfl mba mdu th btw bhd NW TE GE US CO FL BA DU ao O hI.1 (by omega) hI.1.1 hI.1.2.1 hs48 hccr hb9 rfl rfl rfl rfl hr.1 hr.2 G hl (fun H locs ls G hl => N hd T2 (by omega) G hl)
  obtain ⟨m, hx91⟩ : ∃ m : Nat, (xs (i + 1)).toInt = ((m : Nat) : Int) := ⟨_, (Int.toNat_of_nonneg (by omega)).symm⟩
  have hm : m < n := by omega
  by_cases c1 : (xs (i + 2)).toInt < 0 ∨ 47 < (xs (i + 2)).toInt
  · have T2 := T.next (cc' := cc) (mc := (1) + (0)) (ms := (6) + (0)) hI (by omega) (by omega) (by omega) (by omega)
    have hr := T2.room (by omega)
    exact s_meter_1 hl9 hE hX0 hS0 i hi5 lo lnow lsl lcl lba ldu nsh nrk h1 r1 q1 h2 r2 q2 ta sa n p st cc bc pot gr bk nw bal due S1 S2 tx sg m (xs (i + 2)).toInt (xs (i + 3)).toInt (xs (i + 4)).toInt mo mnw mte mge mus mco mfl mba mdu th btw bhd NW TE GE US CO FL BA DU ao O hI.1 (by omega) (by omega) hI.1.1 hI.1.2.1 hs48 hccr hb9 hx91 rfl rfl rfl hr.1 hr.2 G hl (fun H locs ls G hl => N hd T2 (by omega) G hl)
  obtain ⟨k, hx92⟩ : ∃ k : Nat, (xs (i + 2)).toInt = ((k : Nat) : Int) := ⟨_, (Int.toNat_of_nonneg (by omega)).symm⟩
  have hk : k < 48 := by omega
  by_cases c2 : (xs (i + 3)).toInt < 0 ∨ 5000 < (xs (i + 3)).toInt
  · have T2 := T.next (cc' := cc) (mc := (1) + (0)) (ms := (6) + (0)) hI (by omega) (by omega) (by omega) (by omega)
    have hr := T2.room (by omega)
    exact s_meter_2 hl9 hE hX0 hS0 i hi5 lo lnow lsl lcl lba ldu nsh nrk h1 r1 q1 h2 r2 q2 ta sa n p st cc bc pot gr bk nw bal due S1 S2 tx sg m k (xs (i + 3)).toInt (xs (i + 4)).toInt mo mnw mte mge mus mco mfl mba mdu th btw bhd NW TE GE US CO FL BA DU ao O hI.1 (by omega) (by omega) (by omega) hI.1.1 hI.1.2.1 hs48 hccr hb9 hx91 hx92 rfl rfl hr.1 hr.2 G hl (fun H locs ls G hl => N hd T2 (by omega) G hl)
  by_cases c3 : (xs (i + 4)).toInt < 0 ∨ 5000 < (xs (i + 4)).toInt
  · have T2 := T.next (cc' := cc) (mc := (1) + (0)) (ms := (6) + (0)) hI (by omega) (by omega) (by omega) (by omega)
    have hr := T2.room (by omega)
    exact s_meter_3 hl9 hE hX0 hS0 i hi5 lo lnow lsl lcl lba ldu nsh nrk h1 r1 q1 h2 r2 q2 ta sa n p st cc bc pot gr bk nw bal due S1 S2 tx sg m k (xs (i + 3)).toInt (xs (i + 4)).toInt mo mnw mte mge mus mco mfl mba mdu th btw bhd NW TE GE US CO FL BA DU ao O hI.1 (by omega) (by omega) (by omega) (by omega) hI.1.1 hI.1.2.1 hs48 hccr hb9 hx91 hx92 rfl rfl hr.1 hr.2 G hl (fun H locs ls G hl => N hd T2 (by omega) G hl)
  by_cases c4 : k < p
  · have T2 := T.next (cc' := cc) (mc := (1) + (0)) (ms := (6) + (0)) hI (by omega) (by omega) (by omega) (by omega)
    have hr := T2.room (by omega)
    exact s_meter_4 hl9 hE hX0 hS0 i hi5 lo lnow lsl lcl lba ldu nsh nrk h1 r1 q1 h2 r2 q2 ta sa n p st cc bc pot gr bk nw bal due S1 S2 tx sg m k (xs (i + 3)).toInt (xs (i + 4)).toInt mo mnw mte mge mus mco mfl mba mdu th btw bhd NW TE GE US CO FL BA DU ao O hI.1 (by omega) (by omega) (by omega) (by omega) (by omega) hI.1.1 hI.1.2.1 hs48 hccr hb9 hx91 hx92 rfl rfl hr.1 hr.2 G hl (fun H locs ls G hl => N hd T2 (by omega) G hl)
  have c8 := rcN_set (GE := GE) (US := US) (m := m) (a := (xs (i + 3)).toInt) (b := (xs (i + 4)).toInt) hk 48 (Nat.le_refl _)
  rw [if_pos hk] at c8
  have T2 := T.next (cc' := cc) (mc := (0) + (0)) (ms := (0) + (0)) (hI.meter (a := (xs (i + 3)).toInt) (b := (xs (i + 4)).toInt) hm hk (by omega) (by omega)) (by omega) (by omega) (by omega) (by omega)
  have hr := T2.room (by omega)
  exact s_meter hl9 hE hX0 hS0 i hi5 lo lnow lsl lcl lba ldu nsh nrk h1 r1 q1 h2 r2 q2 ta sa n p st cc bc pot gr bk nw bal due S1 S2 tx sg m k (xs (i + 3)).toInt (xs (i + 4)).toInt mo mnw mte mge mus mco mfl mba mdu th btw bhd NW TE GE US CO FL BA DU ao O hI.1 (by omega) (by omega) (by omega) (by omega) (by omega) ((hI.rows k hk).1 m (by omega)) ((hI.rows k hk).2.1 m (by omega)) hI.1.1 hI.1.2.1 hs48 hccr hb9 hx91 hx92 rfl rfl (by rw [(hI.2.2.2.2.1 k hk).1 m (by omega), (hI.2.2.2.2.1 k hk).2.1 m (by omega)]) hr.1 hr.2 G hl (fun H locs ls G hl => N hd T2 (by omega) G hl)
