set_option maxHeartbeats 4000000 in
set_option maxRecDepth 100000 in
theorem law_loop {pp : Program} {l : Launch} {ee : Env} {ss : State} {mm : MethodId} {bl : List Frame} {me : Method} {co : Code} {AA : Nat → Prop} {Q9 : State → Prop} {D : va_G} {k4 : Nat → ClassId} {bs Ls : Nat} {xs : Nat → Int32} (E : zE pp mm co cL_law 18 ss #[Value.ref bs] RL D k4) (S9 : zSc bs Ls xs ss AA) (lo lnow lsl lcl lba ldu nsh nrk h1 r1 q1 h2 r2 q2 : Nat) (ta : Nat → Nat) (sa : Nat → Nat → Nat) (n : Nat) (tx : Nat → Nat → Int) (ea pa ao : Nat) (c0 s0 : Nat) (hc : c0 + 1176 ≤ room_1.cells) (hs : s0 + 9408 ≤ room_1.slots)
    (hQ : ∀ (d0 : Drawn) (H : Heap) (locs : List Loc) (ls : Array Slot) (c9 s9 : Nat), ss.drawn.sameBut d0 lw_cs → va_S AA ss.heap H locs → c9 ≤ room_1.cells → s9 ≤ room_1.slots → W pp l ee room_1 (ss.setDrawn d0) mm #[Value.ref bs] bl me co H locs (c9) (s9) Q9 (F0 mm 626 ls [])) :
    ∀ (f t : Nat) (d0 : Drawn) (cc bc pot gr : Int) (nw bal EF CP T : Nat → Int) (S1 S2 : sS) (sg : Nat → Nat → Nat → Int) (H : Heap) (locs : List Loc) (ls : Array Slot), 14 - t < f → t ≤ 14 → ss.drawn.sameBut d0 lw_cs → LH n t bc pot gr nw bal T EF CP S1 S2 tx sg → zG D AA ss.heap ((ea, .inl (k4 0, 48, .inl (fun i9 => iI (EF i9)))) :: (pa, .inl (k4 0, 48, .inl (fun i9 => iI (CP i9)))) :: (ao, .inl (k4 0, 19, .inl (fun i9 => iI (T i9)))) :: (xW k4 lo lnow lsl lcl lba ldu nsh nrk h1 r1 q1 h2 r2 q2 ta sa n t 0 cc bc pot gr 0 nw bal (fun _ => 0) S1 S2 tx sg)) H locs → lv_has ls 18 [(6, .int (iI (((t : Nat) : Int)))), (5, .ref pa), (4, .ref ea), (3, .int (iI (((n : Nat) : Int)))), (2, .ref ao), (1, .ref lo), (0, .ref bs)] → W pp l ee room_1 (ss.setDrawn d0) mm #[Value.ref bs] bl me co H locs (c0 + 84 * t) (s0 + 672 * t) Q9 (F0 mm 42 ls []) := by
  intro f
  induction f with
  | zero => intro t d0 cc bc pot gr nw bal EF CP T S1 S2 sg H locs ls hf; exact absurd hf (by omega)
  | succ f ih =>
    intro t d0 cc bc pot gr nw bal EF CP T S1 S2 sg H locs ls hf ht9 hd hI G hl
    have hE := E.redraw d0
    have hS : zSc bs Ls xs (ss.setDrawn d0) AA := S9
    refine z_iload hE hl 0 rfl dL_law_42 ?_
    refine z_bipush hE dL_law_44 (by decide) ?_
    refine z_icmp_ge (tgt := 626) hE dL_law_46 (by decide) ⟨by omega, by omega⟩ ⟨by omega, by omega⟩ (fun c9 => ?_) (fun c9 => ?_)
    · exact hQ d0 _ _ _ _ _ hd G.2.2.1 (by omega) (by omega)
    have ht : t < 14 := by omega
    refine t_begin hE hS lo lnow lsl lcl lba ldu nsh nrk h1 r1 q1 h2 r2 q2 ta sa n t cc bc pot gr nw bal S1 S2 tx sg ea pa ao EF CP T ht (by omega) (by omega) G (lv_sub hl [0, 1, 2, 3, 4, 5, 6] rfl) (fun x H locs ls G hl => ?_)
    refine t_meter hE hS lo lnow lsl lcl lba ldu nsh nrk h1 r1 q1 h2 r2 q2 ta sa n t cc bc pot gr nw bal S1 S2 tx sg ea pa ao EF CP T x hI ht (by omega) (by omega) G (lv_sub hl [0, 1, 2, 3, 4, 5, 6, 7, 8, 9] rfl) (fun SGm H locs ls hJ G hl => ?_)
    refine t_terms hE hS lo lnow lsl lcl lba ldu nsh nrk h1 r1 q1 h2 r2 q2 ta sa n t cc bc pot gr nw bal S1 S2 tx SGm ea pa ao EF CP T x hJ (by omega) (by omega) G (lv_sub hl [0, 1, 2, 3, 4, 5, 6, 7, 8] rfl) (fun bc9 nw9 T9 H locs ls hM G hl => ?_)
    refine t_close hE hS lo lnow lsl lcl lba ldu nsh nrk h1 r1 q1 h2 r2 q2 ta sa n t cc bc9 pot gr nw9 bal S1 S2 tx SGm ea pa ao EF CP T9 x hM ht (by omega) (by omega) G (lv_sub hl [0, 1, 2, 3, 4, 5, 6, 7, 8] rfl) (fun bc8 pt8 gr8 bl8 EF8 CP8 A8 B8 sg8 H locs ls hK G hl => ?_)
    refine t_corr hE hS lo lnow lsl lcl lba ldu nsh nrk h1 r1 q1 h2 r2 q2 ta sa n t cc bc8 pt8 gr8 nw9 bl8 A8 B8 tx sg8 ea pa ao EF8 CP8 T9 x hK ht (by omega) (by omega) G (lv_sub hl [0, 1, 2, 3, 4, 5, 6, 7, 8] rfl) (fun cc7 bc7 pt7 gr7 bl7 A7 B7 sg7 H locs ls hN G hl => ?_)
    refine z_iconst hE dL_law_212 ?_
    refine z_istore hE [(9, .int (iI (0))), (8, .int (iI (((t : Nat) : Int)))), (7, .int (iI (x))), (6, .int (iI (((t : Nat) : Int)))), (5, .ref pa), (4, .ref ea), (3, .int (iI (((n : Nat) : Int)))), (2, .ref ao), (1, .ref lo), (0, .ref bs)] dL_law_213 hl (by decide) rfl (fun ls hl => ?_)
    refine z_iconst hE dL_law_215 ?_
    refine z_istore hE [(10, .int (iI (0))), (9, .int (iI (0))), (8, .int (iI (((t : Nat) : Int)))), (7, .int (iI (x))), (6, .int (iI (((t : Nat) : Int)))), (5, .ref pa), (4, .ref ea), (3, .int (iI (((n : Nat) : Int)))), (2, .ref ao), (1, .ref lo), (0, .ref bs)] dL_law_216 hl (by decide) rfl (fun ls hl => ?_)
    refine t_slot hE hS lo lnow lsl lcl lba ldu nsh nrk h1 r1 q1 h2 r2 q2 ta sa n t cc7 bc7 pt7 gr7 nw9 bl7 A7 B7 tx sg7 ea pa ao EF8 CP8 T9 x hN (by omega) (by omega) G (lv_sub hl [0, 1, 2, 3, 4, 5, 6, 7, 8, 9, 10] rfl) (fun H locs ls G hl => ?_)
    refine t_sum hE hS lo lnow lsl lcl lba ldu nsh nrk h1 r1 q1 h2 r2 q2 ta sa n t cc7 bc7 pt7 gr7 nw9 bl7 A7 B7 tx sg7 ea pa ao EF8 CP8 T9 x hN (by omega) (by omega) G (lv_sub hl [0, 1, 2, 3, 4, 5, 6, 7, 8, 9] rfl) (fun H locs ls G hl => ?_)
    refine t_ind hE hS lo lnow lsl lcl lba ldu nsh nrk h1 r1 q1 h2 r2 q2 ta sa n t cc7 bc7 pt7 gr7 nw9 bl7 A7 B7 tx sg7 ea pa ao EF8 CP8 T9 x hN.1 (by omega) (by omega) G (lv_sub hl [0, 1, 2, 3, 4, 5, 6, 7, 8] rfl) (fun d' H locs ls hd9 G hl => ?_)
    have hd8 : ss.drawn.sameBut d' lw_cs := hd.trans hd9
    have hE := E.redraw d'
    refine z_iinc (s := ss.setDrawn d') hE [(6, .int (iI (((t : Nat) : Int) + 1))), (8, .int (iI (((t : Nat) : Int)))), (7, .int (iI (x))), (5, .ref pa), (4, .ref ea), (3, .int (iI (((n : Nat) : Int)))), (2, .ref ao), (1, .ref lo), (0, .ref bs)] dL_law_620 hl (k := 2) rfl (by decide) rfl (fun ls hl => ?_)
    refine z_goto (tgt := 42) hE dL_law_623 (by decide) ?_
    refine W.cs (cells' := c0 + 84 * (t + 1)) (slots' := s0 + 672 * (t + 1)) (by omega) (by omega) ?_
    exact ih (t + 1) d' cc7 bc7 pt7 gr7 nw9 bl7 EF8 CP8 T9 A7 B7 sg7 _ _ _ (by omega) (by omega) hd8 hN G (lv_sub hl [0, 3, 4, 5, 6, 7, 8] rfl)
