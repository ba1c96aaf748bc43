set_option maxHeartbeats 4000000 in
set_option maxRecDepth 100000 in
theorem k_account {pp : Program} {l : Launch} {ee : Env} {ss : State} {mm : MethodId} {bl : List Frame} {me : Method} {co : Code} {AA : Nat → Prop} {Q9 : State → Prop} {D : va_G} {k4 : Nat → ClassId} {bs Ls : Nat} {xs : Nat → Int32} (hl9 : l.stackTraces = false) (E : zE pp mm co cL_law 9 ss #[Value.ref bs] RL D k4) (X : zEL ss AA) (S9 : zSc bs Ls xs ss AA) (lo lnow lsl lcl lba ldu nsh nrk h1 r1 q1 h2 r2 q2 : Nat) (ta : Nat → Nat) (sa : Nat → Nat → Nat) (mo mnw mte mge mus mco mfl mba mdu ao : Nat) (i : Nat) (hi5 : i + 4 < Ls) (N : Nx pp l ee ss mm bl me co AA Q9 D k4 bs lo lnow lsl lcl lba ldu nsh nrk h1 r1 q1 h2 r2 q2 ta sa mo mnw mte mge mus mco mfl mba mdu ao i) (d0 : Drawn) (u : Nat) (n p st : Nat) (cc bc pot gr bk : Int) (nw bal due : Nat → Int) (S1 S2 : sS) (tx : Nat → Nat → Int) (sg : Nat → Nat → Nat → Int) (th btw bhd : Int) (NW TE GE US CO FL BA DU : Nat → Int) (O : Nat → Int) (H : Heap) (locs : List Loc) (ls : Array Slot) (cl9 sl9 : Nat) (hd : ss.drawn.sameBut d0 lw_cs) (T : ST n p st u cc bc nw bal due S1 S2 tx sg NW TE GE US CO FL BA DU cl9 sl9) (h5 : 5 * (p + u) ≤ i) (h6 : i ≤ 2555) (G : zG D AA ss.heap (lW k4 lo lnow lsl lcl lba ldu nsh nrk h1 r1 q1 h2 r2 q2 ta sa mo mnw mte mge mus mco mfl mba mdu ao n p st cc bc pot gr bk nw bal due S1 S2 tx sg th btw bhd NW TE GE US CO FL BA DU O) H locs) (hl : lv_has ls 9 [(0, .ref bs), (1, .ref lo), (2, .ref mo), (3, .ref ao), (4, .int (iI (((i : Nat) : Int))))]) : W pp l ee room_1 (ss.setDrawn d0) mm #[Value.ref bs] bl me co H locs cl9 sl9 Q9 (F0 mm 1117 ls []) := by
  have hE := E.redraw d0
  have hX0 := X.redraw d0
  have hS0 : zSc bs Ls xs (ss.setDrawn d0) AA := S9
  obtain ⟨hI, hcc, hR, hc9, hs9⟩ := id T
  obtain ⟨y1, y2, y3, y4, y5, y6, y7, y8, y9⟩ := id hI.1
  have y44 := y4.2.2.2.2.1
  have hccr : rng cc := ⟨by omega, by omega⟩
  have hs48 : st ≤ 48 := by omega
  have hb9 : 0 ≤ bc ∧ bc ≤ 20000 := by omega
  have v1 := iI_rng (xs (i + 1))
  have v2 := iI_rng (xs (i + 2))
  have v3 := iI_rng (xs (i + 3))
  have v4 := iI_rng (xs (i + 4))
  by_cases c9 : (xs (i + 2)).toInt = 0
  · skip
    by_cases c0 : (xs (i + 1)).toInt < 0 ∨ ((n : Nat) : Int) ≤ (xs (i + 1)).toInt
    · have T2 := T.next (cc' := cc) (mc := (1) + (0)) (ms := (6) + (0)) hI (by omega) (by omega) (by omega) (by omega)
      have hr := T2.room (by omega)
      exact s_account_0i0 hl9 hE hX0 hS0 i hi5 lo lnow lsl lcl lba ldu nsh nrk h1 r1 q1 h2 r2 q2 ta sa n p st cc bc pot gr bk nw bal due S1 S2 tx sg (xs (i + 1)).toInt mo mnw mte mge mus mco mfl mba mdu th btw bhd NW TE GE US CO FL BA DU ao O hI.1 (by omega) hI.1.1 hI.1.2.1 hs48 hccr hb9 rfl c9 hr.1 hr.2 G hl (fun H locs ls G hl => N hd T2 (by omega) G hl)
    obtain ⟨m, hx91⟩ : ∃ m : Nat, (xs (i + 1)).toInt = ((m : Nat) : Int) := ⟨_, (Int.toNat_of_nonneg (by omega)).symm⟩
    have hm : m < n := by omega
    have T2 := T.next (cc' := cc) (mc := (0) + (0)) (ms := (0) + (0)) (hI) (by omega) (by omega) (by omega) (by omega)
    have hr := T2.room (by omega)
    exact s_accounti0 hl9 hE hX0 hS0 i hi5 lo lnow lsl lcl lba ldu nsh nrk h1 r1 q1 h2 r2 q2 ta sa n p st cc bc pot gr bk nw bal due S1 S2 tx sg m mo mnw mte mge mus mco mfl mba mdu th btw bhd NW TE GE US CO FL BA DU ao O hI.1 (by omega) hI.1.1 hI.1.2.1 hs48 hccr hb9 hx91 c9 (by rw [if_pos rfl, if_pos rfl]; exact hI.2.2.1 m (by omega)) hr.1 hr.2 G hl (fun H locs ls G hl => N hd T2 (by omega) G hl)
  · skip
    by_cases c0 : (xs (i + 1)).toInt < 0 ∨ ((n : Nat) : Int) ≤ (xs (i + 1)).toInt
    · have T2 := T.next (cc' := cc) (mc := (1) + (0)) (ms := (6) + (0)) hI (by omega) (by omega) (by omega) (by omega)
      have hr := T2.room (by omega)
      exact s_account_0i1 hl9 hE hX0 hS0 i hi5 lo lnow lsl lcl lba ldu nsh nrk h1 r1 q1 h2 r2 q2 ta sa n p st cc bc pot gr bk nw bal due S1 S2 tx sg (xs (i + 1)).toInt mo mnw mte mge mus mco mfl mba mdu th btw bhd NW TE GE US CO FL BA DU ao O hI.1 (by omega) hI.1.1 hI.1.2.1 hs48 hccr hb9 rfl c9 hr.1 hr.2 G hl (fun H locs ls G hl => N hd T2 (by omega) G hl)
    obtain ⟨m, hx91⟩ : ∃ m : Nat, (xs (i + 1)).toInt = ((m : Nat) : Int) := ⟨_, (Int.toNat_of_nonneg (by omega)).symm⟩
    have hm : m < n := by omega
    have T2 := T.next (cc' := cc) (mc := (0) + (0)) (ms := (0) + (0)) (hI) (by omega) (by omega) (by omega) (by omega)
    have hr := T2.room (by omega)
    exact s_accounti1 hl9 hE hX0 hS0 i hi5 lo lnow lsl lcl lba ldu nsh nrk h1 r1 q1 h2 r2 q2 ta sa n p st cc bc pot gr bk nw bal due S1 S2 tx sg m mo mnw mte mge mus mco mfl mba mdu th btw bhd NW TE GE US CO FL BA DU ao O hI.1 (by omega) hI.1.1 hI.1.2.1 hs48 hccr hb9 hx91 c9 (by rw [if_neg (by decide), if_neg (by decide)]; exact hI.2.2.2.1 m (by omega)) hr.1 hr.2 G hl (fun H locs ls G hl => N hd T2 (by omega) G hl)

set_option maxHeartbeats 4000000 in
set_option maxRecDepth 100000 in
theorem k_common {pp : Program} {l : Launch} {ee : Env} {ss : State} {mm : MethodId} {bl : List Frame} {me : Method} {co : Code} {AA : Nat → Prop} {Q9 : State → Prop} {D : va_G} {k4 : Nat → ClassId} {bs Ls : Nat} {xs : Nat → Int32} (hl9 : l.stackTraces = false) (E : zE pp mm co cL_law 9 ss #[Value.ref bs] RL D k4) (X : zEL ss AA) (S9 : zSc bs Ls xs ss AA) (lo lnow lsl lcl lba ldu nsh nrk h1 r1 q1 h2 r2 q2 : Nat) (ta : Nat → Nat) (sa : Nat → Nat → Nat) (mo mnw mte mge mus mco mfl mba mdu ao : Nat) (i : Nat) (hi5 : i + 4 < Ls) (N : Nx pp l ee ss mm bl me co AA Q9 D k4 bs lo lnow lsl lcl lba ldu nsh nrk h1 r1 q1 h2 r2 q2 ta sa mo mnw mte mge mus mco mfl mba mdu ao i) (d0 : Drawn) (u : Nat) (n p st : Nat) (cc bc pot gr bk : Int) (nw bal due : Nat → Int) (S1 S2 : sS) (tx : Nat → Nat → Int) (sg : Nat → Nat → Nat → Int) (th btw bhd : Int) (NW TE GE US CO FL BA DU : Nat → Int) (O : Nat → Int) (H : Heap) (locs : List Loc) (ls : Array Slot) (cl9 sl9 : Nat) (hd : ss.drawn.sameBut d0 lw_cs) (T : ST n p st u cc bc nw bal due S1 S2 tx sg NW TE GE US CO FL BA DU cl9 sl9) (h5 : 5 * (p + u) ≤ i) (h6 : i ≤ 2555) (G : zG D AA ss.heap (lW k4 lo lnow lsl lcl lba ldu nsh nrk h1 r1 q1 h2 r2 q2 ta sa mo mnw mte mge mus mco mfl mba mdu ao n p st cc bc pot gr bk nw bal due S1 S2 tx sg th btw bhd NW TE GE US CO FL BA DU O) H locs) (hl : lv_has ls 9 [(0, .ref bs), (1, .ref lo), (2, .ref mo), (3, .ref ao), (4, .int (iI (((i : Nat) : Int))))]) : W pp l ee room_1 (ss.setDrawn d0) mm #[Value.ref bs] bl me co H locs cl9 sl9 Q9 (F0 mm 1200 ls []) := by
  have hE := E.redraw d0
  have hX0 := X.redraw d0
  have hS0 : zSc bs Ls xs (ss.setDrawn d0) AA := S9
  obtain ⟨hI, hcc, hR, hc9, hs9⟩ := id T
  obtain ⟨y1, y2, y3, y4, y5, y6, y7, y8, y9⟩ := id hI.1
  have y44 := y4.2.2.2.2.1
  have hccr : rng cc := ⟨by omega, by omega⟩
  have hs48 : st ≤ 48 := by omega
  have hb9 : 0 ≤ bc ∧ bc ≤ 20000 := by omega
  have v1 := iI_rng (xs (i + 1))
  have v2 := iI_rng (xs (i + 2))
  have v3 := iI_rng (xs (i + 3))
  have v4 := iI_rng (xs (i + 4))
  by_cases c0 : (xs (i + 1)).toInt < 0 ∨ 2 < (xs (i + 1)).toInt
  · have T2 := T.next (cc' := cc) (mc := (1) + (0)) (ms := (6) + (0)) hI (by omega) (by omega) (by omega) (by omega)
    have hr := T2.room (by omega)
    exact s_common_0 hl9 hE hX0 hS0 i hi5 lo lnow lsl lcl lba ldu nsh nrk h1 r1 q1 h2 r2 q2 ta sa n p st cc bc pot gr bk nw bal due S1 S2 tx sg (xs (i + 1)).toInt mo mnw mte mge mus mco mfl mba mdu th btw bhd NW TE GE US CO FL BA DU ao O hI.1 (by omega) hI.1.1 hI.1.2.1 hs48 hccr hb9 rfl hr.1 hr.2 G hl (fun H locs ls G hl => N hd T2 (by omega) G hl)
  have T2 := T.next (cc' := cc) (mc := (0) + (0)) (ms := (0) + (0)) (hI) (by omega) (by omega) (by omega) (by omega)
  have hr := T2.room (by omega)
  exact s_common hl9 hE hX0 hS0 i hi5 lo lnow lsl lcl lba ldu nsh nrk h1 r1 q1 h2 r2 q2 ta sa n p st cc bc pot gr bk nw bal due S1 S2 tx sg (xs (i + 1)).toInt mo mnw mte mge mus mco mfl mba mdu th btw bhd NW TE GE US CO FL BA DU ao O (by omega) hI.1.1 hI.1.2.1 hs48 hccr hb9 rfl hr.1 hr.2 G hl (fun H locs ls G hl => N hd T2 (by omega) G hl)

set_option maxHeartbeats 4000000 in
set_option maxRecDepth 100000 in
theorem k_settle {pp : Program} {l : Launch} {ee : Env} {ss : State} {mm : MethodId} {bl : List Frame} {me : Method} {co : Code} {AA : Nat → Prop} {Q9 : State → Prop} {D : va_G} {k4 : Nat → ClassId} {bs Ls : Nat} {xs : Nat → Int32} (hl9 : l.stackTraces = false) (E : zE pp mm co cL_law 9 ss #[Value.ref bs] RL D k4) (X : zEL ss AA) (S9 : zSc bs Ls xs ss AA) (lo lnow lsl lcl lba ldu nsh nrk h1 r1 q1 h2 r2 q2 : Nat) (ta : Nat → Nat) (sa : Nat → Nat → Nat) (mo mnw mte mge mus mco mfl mba mdu ao : Nat) (i : Nat) (hi5 : i + 4 < Ls) (N : Nx pp l ee ss mm bl me co AA Q9 D k4 bs lo lnow lsl lcl lba ldu nsh nrk h1 r1 q1 h2 r2 q2 ta sa mo mnw mte mge mus mco mfl mba mdu ao i) (d0 : Drawn) (u : Nat) (n p st : Nat) (cc bc pot gr bk : Int) (nw bal due : Nat → Int) (S1 S2 : sS) (tx : Nat → Nat → Int) (sg : Nat → Nat → Nat → Int) (th btw bhd : Int) (NW TE GE US CO FL BA DU : Nat → Int) (O : Nat → Int) (H : Heap) (locs : List Loc) (ls : Array Slot) (cl9 sl9 : Nat) (hd : ss.drawn.sameBut d0 lw_cs) (T : ST n p st u cc bc nw bal due S1 S2 tx sg NW TE GE US CO FL BA DU cl9 sl9) (h5 : 5 * (p + u) ≤ i) (h6 : i ≤ 2555) (G : zG D AA ss.heap (lW k4 lo lnow lsl lcl lba ldu nsh nrk h1 r1 q1 h2 r2 q2 ta sa mo mnw mte mge mus mco mfl mba mdu ao n p st cc bc pot gr bk nw bal due S1 S2 tx sg th btw bhd NW TE GE US CO FL BA DU O) H locs) (hl : lv_has ls 9 [(0, .ref bs), (1, .ref lo), (2, .ref mo), (3, .ref ao), (4, .int (iI (((i : Nat) : Int))))]) : W pp l ee room_1 (ss.setDrawn d0) mm #[Value.ref bs] bl me co H locs cl9 sl9 Q9 (F0 mm 1255 ls []) := by
  have hE := E.redraw d0
  have hX0 := X.redraw d0
  have hS0 : zSc bs Ls xs (ss.setDrawn d0) AA := S9
  obtain ⟨hI, hcc, hR, hc9, hs9⟩ := id T
  obtain ⟨y1, y2, y3, y4, y5, y6, y7, y8, y9⟩ := id hI.1
  have y44 := y4.2.2.2.2.1
  have hccr : rng cc := ⟨by omega, by omega⟩
  have hs48 : st ≤ 48 := by omega
  have hb9 : 0 ≤ bc ∧ bc ≤ 20000 := by omega
  have v1 := iI_rng (xs (i + 1))
  have v2 := iI_rng (xs (i + 2))
  have v3 := iI_rng (xs (i + 3))
  have v4 := iI_rng (xs (i + 4))
  by_cases c0 : (xs (i + 1)).toInt < 0 ∨ 10000 < (xs (i + 1)).toInt
  · have T2 := T.next (cc' := cc) (mc := (1) + (0)) (ms := (6) + (0)) hI (by omega) (by omega) (by omega) (by omega)
    have hr := T2.room (by omega)
    exact s_settle_0 hl9 hE hX0 hS0 i hi5 lo lnow lsl lcl lba ldu nsh nrk h1 r1 q1 h2 r2 q2 ta sa n p st cc bc pot gr bk nw bal due S1 S2 tx sg (xs (i + 1)).toInt mo mnw mte mge mus mco mfl mba mdu th btw bhd NW TE GE US CO FL BA DU ao O hI.1 (by omega) hI.1.1 hI.1.2.1 hs48 hccr hb9 rfl hr.1 hr.2 G hl (fun H locs ls G hl => N hd T2 (by omega) G hl)
  have T2 := T.next (cc' := cc) (mc := (0) + (0)) (ms := (0) + (0)) (hI.bk (Nat.le_refl p) (setB_eq hI.2.2.1 n) (setD_eq (fee := (xs (i + 1)).toInt) hI.2.2.1 hI.2.2.2.1 n hI.1.1)) (by omega) (by omega) (by omega) (by omega)
  have hr := T2.room (by omega)
  exact s_settle hl9 hE hX0 hS0 i hi5 lo lnow lsl lcl lba ldu nsh nrk h1 r1 q1 h2 r2 q2 ta sa n p st cc bc pot gr bk nw bal due S1 S2 tx sg (xs (i + 1)).toInt mo mnw mte mge mus mco mfl mba mdu th btw bhd NW TE GE US CO FL BA DU ao O hI.1 (by omega) hI.1.1 hI.1.2.1 hs48 hccr hb9 rfl ⟨by omega, by omega⟩ hr.1 hr.2 G hl (fun H locs ls G hl => N hd T2 (by omega) G hl)

set_option maxHeartbeats 4000000 in
set_option maxRecDepth 100000 in
theorem k_pay {pp : Program} {l : Launch} {ee : Env} {ss : State} {mm : MethodId} {bl : List Frame} {me : Method} {co : Code} {AA : Nat → Prop} {Q9 : State → Prop} {D : va_G} {k4 : Nat → ClassId} {bs Ls : Nat} {xs : Nat → Int32} (hl9 : l.stackTraces = false) (E : zE pp mm co cL_law 9 ss #[Value.ref bs] RL D k4) (X : zEL ss AA) (S9 : zSc bs Ls xs ss AA) (lo lnow lsl lcl lba ldu nsh nrk h1 r1 q1 h2 r2 q2 : Nat) (ta : Nat → Nat) (sa : Nat → Nat → Nat) (mo mnw mte mge mus mco mfl mba mdu ao : Nat) (i : Nat) (hi5 : i + 4 < Ls) (N : Nx pp l ee ss mm bl me co AA Q9 D k4 bs lo lnow lsl lcl lba ldu nsh nrk h1 r1 q1 h2 r2 q2 ta sa mo mnw mte mge mus mco mfl mba mdu ao i) (d0 : Drawn) (u : Nat) (n p st : Nat) (cc bc pot gr bk : Int) (nw bal due : Nat → Int) (S1 S2 : sS) (tx : Nat → Nat → Int) (sg : Nat → Nat → Nat → Int) (th btw bhd : Int) (NW TE GE US CO FL BA DU : Nat → Int) (O : Nat → Int) (H : Heap) (locs : List Loc) (ls : Array Slot) (cl9 sl9 : Nat) (hd : ss.drawn.sameBut d0 lw_cs) (T : ST n p st u cc bc nw bal due S1 S2 tx sg NW TE GE US CO FL BA DU cl9 sl9) (h5 : 5 * (p + u) ≤ i) (h6 : i ≤ 2555) (G : zG D AA ss.heap (lW k4 lo lnow lsl lcl lba ldu nsh nrk h1 r1 q1 h2 r2 q2 ta sa mo mnw mte mge mus mco mfl mba mdu ao n p st cc bc pot gr bk nw bal due S1 S2 tx sg th btw bhd NW TE GE US CO FL BA DU O) H locs) (hl : lv_has ls 9 [(0, .ref bs), (1, .ref lo), (2, .ref mo), (3, .ref ao), (4, .int (iI (((i : Nat) : Int))))]) : W pp l ee room_1 (ss.setDrawn d0) mm #[Value.ref bs] bl me co H locs cl9 sl9 Q9 (F0 mm 1311 ls []) := by
  have hE := E.redraw d0
  have hX0 := X.redraw d0
  have hS0 : zSc bs Ls xs (ss.setDrawn d0) AA := S9
  obtain ⟨hI, hcc, hR, hc9, hs9⟩ := id T
  obtain ⟨y1, y2, y3, y4, y5, y6, y7, y8, y9⟩ := id hI.1
  have y44 := y4.2.2.2.2.1
  have hccr : rng cc := ⟨by omega, by omega⟩
  have hs48 : st ≤ 48 := by omega
  have hb9 : 0 ≤ bc ∧ bc ≤ 20000 := by omega
  have v1 := iI_rng (xs (i + 1))
  have v2 := iI_rng (xs (i + 2))
  have v3 := iI_rng (xs (i + 3))
  have v4 := iI_rng (xs (i + 4))
  by_cases c0 : (xs (i + 1)).toInt < 0 ∨ ((n : Nat) : Int) ≤ (xs (i + 1)).toInt
  · have T2 := T.next (cc' := cc) (mc := (1) + (0)) (ms := (6) + (0)) hI (by omega) (by omega) (by omega) (by omega)
    have hr := T2.room (by omega)
    exact s_pay_0 hl9 hE hX0 hS0 i hi5 lo lnow lsl lcl lba ldu nsh nrk h1 r1 q1 h2 r2 q2 ta sa n p st cc bc pot gr bk nw bal due S1 S2 tx sg (xs (i + 1)).toInt (xs (i + 2)).toInt mo mnw mte mge mus mco mfl mba mdu th btw bhd NW TE GE US CO FL BA DU ao O hI.1 (by omega) hI.1.1 hI.1.2.1 hs48 hccr hb9 rfl rfl hr.1 hr.2 G hl (fun H locs ls G hl => N hd T2 (by omega) G hl)
  obtain ⟨m, hx91⟩ : ∃ m : Nat, (xs (i + 1)).toInt = ((m : Nat) : Int) := ⟨_, (Int.toNat_of_nonneg (by omega)).symm⟩
  have hm : m < n := by omega
  by_cases c1 : (xs (i + 2)).toInt < -1000000 ∨ 1000000 < (xs (i + 2)).toInt
  · have T2 := T.next (cc' := cc) (mc := (1) + (0)) (ms := (6) + (0)) hI (by omega) (by omega) (by omega) (by omega)
    have hr := T2.room (by omega)
    exact s_pay_1 hl9 hE hX0 hS0 i hi5 lo lnow lsl lcl lba ldu nsh nrk h1 r1 q1 h2 r2 q2 ta sa n p st cc bc pot gr bk nw bal due S1 S2 tx sg m (xs (i + 2)).toInt mo mnw mte mge mus mco mfl mba mdu th btw bhd NW TE GE US CO FL BA DU ao O hI.1 (by omega) (by omega) hI.1.1 hI.1.2.1 hs48 hccr hb9 hx91 rfl hr.1 hr.2 G hl (fun H locs ls G hl => N hd T2 (by omega) G hl)
  by_cases c2 : (xs (i + 2)).toInt = 0
  · have T2 := T.next (cc' := cc) (mc := (1) + (0)) (ms := (6) + (0)) hI (by omega) (by omega) (by omega) (by omega)
    have hr := T2.room (by omega)
    exact s_pay_2 hl9 hE hX0 hS0 i hi5 lo lnow lsl lcl lba ldu nsh nrk h1 r1 q1 h2 r2 q2 ta sa n p st cc bc pot gr bk nw bal due S1 S2 tx sg m (xs (i + 2)).toInt mo mnw mte mge mus mco mfl mba mdu th btw bhd NW TE GE US CO FL BA DU ao O hI.1 (by omega) (by omega) hI.1.1 hI.1.2.1 hs48 hccr hb9 hx91 rfl hr.1 hr.2 G hl (fun H locs ls G hl => N hd T2 (by omega) G hl)
  have T2 := T.next (cc' := cc) (mc := (0) + (0)) (ms := (0) + (0)) (hI.bk hI.1.2.2.1 hI.2.2.1 (eq6_up (k := m) hI.2.2.2.1 (congrArg (fun z => z + (xs (i + 2)).toInt) (hI.2.2.2.1 m (by omega))))) (by omega) (by omega) (by omega) (by omega)
  have hr := T2.room (by omega)
  exact s_pay hl9 hE hX0 hS0 i hi5 lo lnow lsl lcl lba ldu nsh nrk h1 r1 q1 h2 r2 q2 ta sa n p st cc bc pot gr bk nw bal due S1 S2 tx sg m (xs (i + 2)).toInt mo mnw mte mge mus mco mfl mba mdu th btw bhd NW TE GE US CO FL BA DU ao O hI.1 (by omega) (by omega) (by omega) hI.1.1 hI.1.2.1 hs48 hccr hb9 hx91 rfl (congrArg (fun z => z + (xs (i + 2)).toInt) (hI.2.2.2.1 m (by omega))) hr.1 hr.2 G hl (fun H locs ls G hl => N hd T2 (by omega) G hl)
