set_option maxHeartbeats 4000000 in
set_option maxRecDepth 100000 in
theorem t_close {pp : Program} {l : Launch} {ee : Env} {ss : State} {mm : MethodId} {bl : List Frame} {me : Method} {co : Code} {AA : Nat → Prop} {H : Heap} {locs : List Loc} {ls : Array Slot} {Q9 : State → Prop} {D : va_G} {k4 : Nat → ClassId} {bs Ls : Nat} {xs : Nat → Int32} {cl9 sl9 : Nat} (E : zE pp mm co cL_law 18 ss #[Value.ref bs] RL D k4) (S9 : zSc bs Ls xs ss AA) (lo lnow lsl lcl lba ldu nsh nrk h1 r1 q1 h2 r2 q2 : Nat) (ta : Nat → Nat) (sa : Nat → Nat → Nat) (n t : Nat) (cc bc pot gr : Int) (nw bal : Nat → Int) (S1 S2 : sS) (tx : Nat → Nat → Int) (sg : Nat → Nat → Nat → Int) (ea pa ao : Nat) (EF CP T : Nat → Int) (x : Int) (hI : LM n t bc pot gr nw bal T EF CP S1 S2 tx sg) (ht : t < 14) (hc9 : cl9 ≤ room_1.cells) (hs9 : sl9 ≤ room_1.slots) (G : zG D AA ss.heap ((ea, .inl (k4 0, 48, .inl (fun i9 => iI (EF i9)))) :: (pa, .inl (k4 0, 48, .inl (fun i9 => iI (CP i9)))) :: (ao, .inl (k4 0, 19, .inl (fun i9 => iI (T i9)))) :: (xW k4 lo lnow lsl lcl lba ldu nsh nrk h1 r1 q1 h2 r2 q2 ta sa n t 0 cc bc pot gr 0 nw bal (fun _ => 0) S1 S2 tx sg)) H locs) (hl : lv_has ls 18 [(8, .int (iI (((t : Nat) : Int)))), (7, .int (iI (x))), (6, .int (iI (((t : Nat) : Int)))), (5, .ref pa), (4, .ref ea), (3, .int (iI (((n : Nat) : Int)))), (2, .ref ao), (1, .ref lo), (0, .ref bs)]) (kk : ∀ (bc9 pt9 gr9 : Int) (bl9 EF9 CP9 : Nat → Int) (A9 B9 : sS) (sg9 : Nat → Nat → Nat → Int) (H : Heap) (locs : List Loc) (ls : Array Slot), (LH n (t + 1) bc9 pt9 gr9 nw bl9 T EF9 CP9 A9 B9 tx sg9) → zG D AA ss.heap ((ea, .inl (k4 0, 48, .inl (fun i9 => iI (EF9 i9)))) :: (pa, .inl (k4 0, 48, .inl (fun i9 => iI (CP9 i9)))) :: (ao, .inl (k4 0, 19, .inl (fun i9 => iI (T i9)))) :: (xW k4 lo lnow lsl lcl lba ldu nsh nrk h1 r1 q1 h2 r2 q2 ta sa n (t + 1) 0 cc bc9 pt9 gr9 0 nw bl9 (fun _ => 0) A9 B9 tx sg9)) H locs → lv_has ls 18 [(8, .int (iI (((t : Nat) : Int)))), (7, .int (iI (x))), (6, .int (iI (((t : Nat) : Int)))), (5, .ref pa), (4, .ref ea), (3, .int (iI (((n : Nat) : Int)))), (2, .ref ao), (1, .ref lo), (0, .ref bs)] → W pp l ee room_1 ss mm #[Value.ref bs] bl me co H locs (cl9) (sl9) Q9 (F0 mm 160 ls [])) : W pp l ee room_1 ss mm #[Value.ref bs] bl me co H locs (cl9) (sl9) Q9 (F0 mm 137 ls []) := by
  have hn2 := hI.1.1.1
  refine z_aload E hl 4 rfl dL_law_137 ?_
  refine z_iload E hl 0 rfl dL_law_139 ?_
  refine z_aload_n E hl 6 rfl dL_law_141 rfl ?_
  refine z_bipush E dL_law_142 (by decide) ?_
  refine z_iald E G 2 rfl (17) rfl (by decide) (by decide) dL_law_144 ?_
  refine z_iast E G 0 rfl (t) rfl (by omega) (by decide) dL_law_145 (fun H locs G => ?_)
  have G : zG D AA ss.heap ((ea, .inl (k4 0, 48, .inl (fun i9 => iI ((up EF (t) (T 17)) i9)))) :: (pa, .inl (k4 0, 48, .inl (fun i9 => iI (CP i9)))) :: (ao, .inl (k4 0, 19, .inl (fun i9 => iI (T i9)))) :: (xW k4 lo lnow lsl lcl lba ldu nsh nrk h1 r1 q1 h2 r2 q2 ta sa n t 0 cc bc pot gr 0 nw bal (fun _ => 0) S1 S2 tx sg)) H locs := G
  refine z_aload E hl 3 rfl dL_law_146 ?_
  refine z_iload E hl 0 rfl dL_law_148 ?_
  refine z_aload_n E hl 6 rfl dL_law_150 rfl ?_
  refine z_bipush E dL_law_151 (by decide) ?_
  refine z_iald E G 2 rfl (15) rfl (by decide) (by decide) dL_law_153 ?_
  refine z_iast E G 1 rfl (t) rfl (by omega) (by decide) dL_law_154 (fun H locs G => ?_)
  have G : zG D AA ss.heap ((ea, .inl (k4 0, 48, .inl (fun i9 => iI ((up EF (t) (T 17)) i9)))) :: (pa, .inl (k4 0, 48, .inl (fun i9 => iI ((up CP (t) (T 15)) i9)))) :: (ao, .inl (k4 0, 19, .inl (fun i9 => iI (T i9)))) :: (xW k4 lo lnow lsl lcl lba ldu nsh nrk h1 r1 q1 h2 r2 q2 ta sa n t 0 cc bc pot gr 0 nw bal (fun _ => 0) S1 S2 tx sg)) H locs := G
  refine z_aload_n E hl 7 rfl dL_law_155 rfl ?_
  refine z_callVs (pre := [(ea, .inl (k4 0, 48, .inl (fun i9 => iI ((up EF (t) (T 17)) i9)))), (pa, .inl (k4 0, 48, .inl (fun i9 => iI ((up CP (t) (T 15)) i9)))), (ao, .inl (k4 0, 19, .inl (fun i9 => iI (T i9))))]) E G hl.1 (c_X4_close l D k4 lo lnow lsl lcl lba ldu nsh nrk h1 r1 q1 h2 r2 q2 ta sa n t 0 cc bc pot gr 0 nw bal (fun _ => 0) S1 S2 tx sg hI.1.2.1 (by omega) (by omega)) kV_L_61 ⟨rfl, rfl, Nat.le_of_ble_eq_true rfl, Nat.le_of_ble_eq_true rfl⟩ 3 4 rfl rfl rfl rfl rfl (Nat.le_of_ble_eq_true rfl) dL_law_156 ⟨(by omega), (by omega)⟩ (fun v9 w9 H locs hq G => ?_)
  obtain ⟨rfl, rfl⟩ := hq
  refine W.eq (g2 := F0 mm 159 ls [.int (iI (sumN (fun m => (clZ (sg t 1) (sg t 2) nw bc S1 S2 (sg t 3)).2.2 (m * 8 + 1)) 6))]) rfl ?_
  have G : zG D AA ss.heap ((ea, .inl (k4 0, 48, .inl (fun i9 => iI ((up EF (t) (T 17)) i9)))) :: (pa, .inl (k4 0, 48, .inl (fun i9 => iI ((up CP (t) (T 15)) i9)))) :: (ao, .inl (k4 0, 19, .inl (fun i9 => iI (T i9)))) :: (xW k4 lo lnow lsl lcl lba ldu nsh nrk h1 r1 q1 h2 r2 q2 ta sa n (t + 1) 0 cc (clA (sg t 1) (sg t 2) nw bc S1 S2 (sg t 3)) (pot + bookP nw (clZ (sg t 1) (sg t 2) nw bc S1 S2 (sg t 3)).2.2 1) (gr + bookG nw (clZ (sg t 1) (sg t 2) nw bc S1 S2 (sg t 3)).2.2 1) 0 nw (bookB bal (clZ (sg t 1) (sg t 2) nw bc S1 S2 (sg t 3)).2.2 1 n) (fun _ => 0) ((clZ (sg t 1) (sg t 2) nw bc S1 S2 (sg t 3)).1) ((clZ (sg t 1) (sg t 2) nw bc S1 S2 (sg t 3)).2.1) tx (upS sg t (mkS nw (sg t 1) (sg t 2) (clZ (sg t 1) (sg t 2) nw bc S1 S2 (sg t 3)).2.2 (bc) ((clA (sg t 1) (sg t 2) nw bc S1 S2 (sg t 3))))))) H locs := G
  refine z_pop E dL_law_159 rfl ?_
  exact kk (clA (sg t 1) (sg t 2) nw bc S1 S2 (sg t 3)) (pot + bookP nw (clZ (sg t 1) (sg t 2) nw bc S1 S2 (sg t 3)).2.2 1) (gr + bookG nw (clZ (sg t 1) (sg t 2) nw bc S1 S2 (sg t 3)).2.2 1) (bookB bal (clZ (sg t 1) (sg t 2) nw bc S1 S2 (sg t 3)).2.2 1 n) (up EF (t) (T 17)) (up CP (t) (T 15)) ((clZ (sg t 1) (sg t 2) nw bc S1 S2 (sg t 3)).1) ((clZ (sg t 1) (sg t 2) nw bc S1 S2 (sg t 3)).2.1) (upS sg t (mkS nw (sg t 1) (sg t 2) (clZ (sg t 1) (sg t 2) nw bc S1 S2 (sg t 3)).2.2 (bc) ((clA (sg t 1) (sg t 2) nw bc S1 S2 (sg t 3))))) _ _ _ (hI.close ht) G (lv_sub hl [0, 1, 2, 3, 4, 5, 6, 7, 8] rfl)

set_option maxHeartbeats 4000000 in
set_option maxRecDepth 100000 in
theorem t_corr {pp : Program} {l : Launch} {ee : Env} {ss : State} {mm : MethodId} {bl : List Frame} {me : Method} {co : Code} {AA : Nat → Prop} {H : Heap} {locs : List Loc} {ls : Array Slot} {Q9 : State → Prop} {D : va_G} {k4 : Nat → ClassId} {bs Ls : Nat} {xs : Nat → Int32} {cl9 sl9 : Nat} (E : zE pp mm co cL_law 18 ss #[Value.ref bs] RL D k4) (S9 : zSc bs Ls xs ss AA) (lo lnow lsl lcl lba ldu nsh nrk h1 r1 q1 h2 r2 q2 : Nat) (ta : Nat → Nat) (sa : Nat → Nat → Nat) (n t : Nat) (cc bc pot gr : Int) (nw bal : Nat → Int) (S1 S2 : sS) (tx : Nat → Nat → Int) (sg : Nat → Nat → Nat → Int) (ea pa ao : Nat) (EF CP T : Nat → Int) (x : Int) (hI : LH n (t + 1) bc pot gr nw bal T EF CP S1 S2 tx sg) (ht : t < 14) (hc9 : cl9 ≤ room_1.cells) (hs9 : sl9 ≤ room_1.slots) (G : zG D AA ss.heap ((ea, .inl (k4 0, 48, .inl (fun i9 => iI (EF i9)))) :: (pa, .inl (k4 0, 48, .inl (fun i9 => iI (CP i9)))) :: (ao, .inl (k4 0, 19, .inl (fun i9 => iI (T i9)))) :: (xW k4 lo lnow lsl lcl lba ldu nsh nrk h1 r1 q1 h2 r2 q2 ta sa n (t + 1) 0 cc bc pot gr 0 nw bal (fun _ => 0) S1 S2 tx sg)) H locs) (hl : lv_has ls 18 [(8, .int (iI (((t : Nat) : Int)))), (7, .int (iI (x))), (6, .int (iI (((t : Nat) : Int)))), (5, .ref pa), (4, .ref ea), (3, .int (iI (((n : Nat) : Int)))), (2, .ref ao), (1, .ref lo), (0, .ref bs)]) (kk : ∀ (cc9 bc9 pt9 gr9 : Int) (bl9 : Nat → Int) (A9 B9 : sS) (sg9 : Nat → Nat → Nat → Int) (H : Heap) (locs : List Loc) (ls : Array Slot), (LH n (t + 1) bc9 pt9 gr9 nw bl9 T EF CP A9 B9 tx sg9) → zG D AA ss.heap ((ea, .inl (k4 0, 48, .inl (fun i9 => iI (EF i9)))) :: (pa, .inl (k4 0, 48, .inl (fun i9 => iI (CP i9)))) :: (ao, .inl (k4 0, 19, .inl (fun i9 => iI (T i9)))) :: (xW k4 lo lnow lsl lcl lba ldu nsh nrk h1 r1 q1 h2 r2 q2 ta sa n (t + 1) 0 cc9 bc9 pt9 gr9 0 nw bl9 (fun _ => 0) A9 B9 tx sg9)) H locs → lv_has ls 18 [(8, .int (iI (((t : Nat) : Int)))), (7, .int (iI (x))), (6, .int (iI (((t : Nat) : Int)))), (5, .ref pa), (4, .ref ea), (3, .int (iI (((n : Nat) : Int)))), (2, .ref ao), (1, .ref lo), (0, .ref bs)] → W pp l ee room_1 ss mm #[Value.ref bs] bl me co H locs (cl9) (sl9) Q9 (F0 mm 212 ls [])) : W pp l ee room_1 ss mm #[Value.ref bs] bl me co H locs (cl9) (sl9) Q9 (F0 mm 160 ls []) := by
  have hn2 := hI.1.1.1
  have hX := hI.1.2.1
  have y1 := hX.1
  refine z_iload E hl 1 rfl dL_law_160 ?_
  refine z_iconst E dL_law_162 ?_
  refine z_ishr E dL_law_163 (fun z1 hz1 => ?_)
  refine z_iconst E dL_law_164 ?_
  refine z_callS E G hl.1 (c_L_below l D k4 (z1) (3) (by decide)) kS_L_15 ⟨rfl, rfl, Nat.le_of_ble_eq_true rfl, Nat.le_of_ble_eq_true rfl⟩ [] rfl (by decide) rfl rfl (Nat.le_of_ble_eq_true rfl) dL_law_165 ⟨(by omega), (by omega)⟩ (fun v9 w9 H locs hq G => ?_)
  obtain ⟨z2, rfl, rfl, hz2⟩ := hq
  refine W.eq (g2 := F0 mm 168 ls [.int (iI (z2))]) rfl ?_
  have G : zG D AA ss.heap ((ea, .inl (k4 0, 48, .inl (fun i9 => iI (EF i9)))) :: (pa, .inl (k4 0, 48, .inl (fun i9 => iI (CP i9)))) :: (ao, .inl (k4 0, 19, .inl (fun i9 => iI (T i9)))) :: (xW k4 lo lnow lsl lcl lba ldu nsh nrk h1 r1 q1 h2 r2 q2 ta sa n (t + 1) 0 cc bc pot gr 0 nw bal (fun _ => 0) S1 S2 tx sg)) H locs := G
  refine z_if_ne (tgt := 212) E dL_law_168 (by decide) ⟨by omega, by omega⟩ (fun c_168 => ?_) (fun c_168 => ?_)
  · skip
    exact kk cc bc pot gr bal S1 S2 sg _ _ _ hI G (lv_sub hl [0, 1, 2, 3, 4, 5, 6, 7, 8] rfl)
  · skip
    refine z_aload_n E hl 7 rfl dL_law_171 rfl ?_
    refine z_iload E hl 1 rfl dL_law_172 ?_
    refine z_iconst E dL_law_174 ?_
    refine z_ishr E dL_law_175 (fun z3 hz3 => ?_)
    refine z_iload_n E hl 5 rfl dL_law_176 rfl ?_
    refine z_callS E G hl.1 (c_L_below l D k4 (z3) (((n : Nat) : Int)) (by omega)) kS_L_15 ⟨rfl, rfl, Nat.le_of_ble_eq_true rfl, Nat.le_of_ble_eq_true rfl⟩ [] rfl (by decide) rfl rfl (Nat.le_of_ble_eq_true rfl) dL_law_177 ⟨(by omega), (by omega)⟩ (fun v9 w9 H locs hq G => ?_)
    obtain ⟨z4, rfl, rfl, hz4⟩ := hq
    refine W.eq (g2 := F0 mm 180 ls [.int (iI (z4)), .ref lo]) rfl ?_
    have G : zG D AA ss.heap ((ea, .inl (k4 0, 48, .inl (fun i9 => iI (EF i9)))) :: (pa, .inl (k4 0, 48, .inl (fun i9 => iI (CP i9)))) :: (ao, .inl (k4 0, 19, .inl (fun i9 => iI (T i9)))) :: (xW k4 lo lnow lsl lcl lba ldu nsh nrk h1 r1 q1 h2 r2 q2 ta sa n (t + 1) 0 cc bc pot gr 0 nw bal (fun _ => 0) S1 S2 tx sg)) H locs := G
    obtain ⟨m, rfl⟩ : ∃ m : Nat, z4 = ((m : Nat) : Int) := ⟨z4.toNat, by omega⟩
    refine z_iload E hl 1 rfl dL_law_180 ?_
    refine z_bipush E dL_law_182 (by decide) ?_
    refine z_ishr E dL_law_184 (fun z5 hz5 => ?_)
    refine z_iload E hl 0 rfl dL_law_185 ?_
    refine z_iconst E dL_law_187 ?_
    refine z_iadd E dL_law_188 ?_
    refine z_callS E G hl.1 (c_L_below l D k4 (z5) ((((t : Nat) : Int)) + (1)) (by omega)) kS_L_15 ⟨rfl, rfl, Nat.le_of_ble_eq_true rfl, Nat.le_of_ble_eq_true rfl⟩ [] rfl (by decide) rfl rfl (Nat.le_of_ble_eq_true rfl) dL_law_189 ⟨(by omega), (by omega)⟩ (fun v9 w9 H locs hq G => ?_)
    obtain ⟨z6, rfl, rfl, hz6⟩ := hq
    refine W.eq (g2 := F0 mm 192 ls [.int (iI (z6)), .int (iI (((m : Nat) : Int))), .ref lo]) rfl ?_
    have G : zG D AA ss.heap ((ea, .inl (k4 0, 48, .inl (fun i9 => iI (EF i9)))) :: (pa, .inl (k4 0, 48, .inl (fun i9 => iI (CP i9)))) :: (ao, .inl (k4 0, 19, .inl (fun i9 => iI (T i9)))) :: (xW k4 lo lnow lsl lcl lba ldu nsh nrk h1 r1 q1 h2 r2 q2 ta sa n (t + 1) 0 cc bc pot gr 0 nw bal (fun _ => 0) S1 S2 tx sg)) H locs := G
    obtain ⟨k, rfl⟩ : ∃ k : Nat, z6 = ((k : Nat) : Int) := ⟨z6.toNat, by omega⟩
    refine z_iload E hl 1 rfl dL_law_192 ?_
    refine z_bipush E dL_law_194 (by decide) ?_
    refine z_ishr E dL_law_196 (fun z7 hz7 => ?_)
    refine z_callS E G hl.1 (c_L_generated l D k4 (z7)) kS_L_51 ⟨rfl, rfl, Nat.le_of_ble_eq_true rfl, Nat.le_of_ble_eq_true rfl⟩ [] rfl (by decide) rfl rfl (Nat.le_of_ble_eq_true rfl) dL_law_197 ⟨(by omega), (by omega)⟩ (fun v9 w9 H locs hq G => ?_)
    obtain ⟨z8, rfl, rfl, hz8⟩ := hq
    refine W.eq (g2 := F0 mm 200 ls [.int (iI (z8)), .int (iI (((k : Nat) : Int))), .int (iI (((m : Nat) : Int))), .ref lo]) rfl ?_
    have G : zG D AA ss.heap ((ea, .inl (k4 0, 48, .inl (fun i9 => iI (EF i9)))) :: (pa, .inl (k4 0, 48, .inl (fun i9 => iI (CP i9)))) :: (ao, .inl (k4 0, 19, .inl (fun i9 => iI (T i9)))) :: (xW k4 lo lnow lsl lcl lba ldu nsh nrk h1 r1 q1 h2 r2 q2 ta sa n (t + 1) 0 cc bc pot gr 0 nw bal (fun _ => 0) S1 S2 tx sg)) H locs := G
    refine z_iload E hl 1 rfl dL_law_200 ?_
    refine z_bipush E dL_law_202 (by decide) ?_
    refine z_ishr E dL_law_204 (fun z9 hz9 => ?_)
    refine z_callS E G hl.1 (c_L_used l D k4 (z9)) kS_L_54 ⟨rfl, rfl, Nat.le_of_ble_eq_true rfl, Nat.le_of_ble_eq_true rfl⟩ [] rfl (by decide) rfl rfl (Nat.le_of_ble_eq_true rfl) dL_law_205 ⟨(by omega), (by omega)⟩ (fun v9 w9 H locs hq G => ?_)
    obtain ⟨z10, rfl, rfl, hz10⟩ := hq
    refine W.eq (g2 := F0 mm 208 ls [.int (iI (z10)), .int (iI (z8)), .int (iI (((k : Nat) : Int))), .int (iI (((m : Nat) : Int))), .ref lo]) rfl ?_
    have G : zG D AA ss.heap ((ea, .inl (k4 0, 48, .inl (fun i9 => iI (EF i9)))) :: (pa, .inl (k4 0, 48, .inl (fun i9 => iI (CP i9)))) :: (ao, .inl (k4 0, 19, .inl (fun i9 => iI (T i9)))) :: (xW k4 lo lnow lsl lcl lba ldu nsh nrk h1 r1 q1 h2 r2 q2 ta sa n (t + 1) 0 cc bc pot gr 0 nw bal (fun _ => 0) S1 S2 tx sg)) H locs := G
    refine z_callVs (pre := [(ea, .inl (k4 0, 48, .inl (fun i9 => iI (EF i9)))), (pa, .inl (k4 0, 48, .inl (fun i9 => iI (CP i9)))), (ao, .inl (k4 0, 19, .inl (fun i9 => iI (T i9))))]) E G hl.1 (c_X4_correct l D k4 lo lnow lsl lcl lba ldu nsh nrk h1 r1 q1 h2 r2 q2 ta sa n (t + 1) 0 cc bc pot gr 0 nw bal (fun _ => 0) S1 S2 tx sg m k z8 z10 hX (by omega) (by omega) (by omega) (by omega) (by omega) (by omega)) kV_L_64 ⟨rfl, rfl, Nat.le_of_ble_eq_true rfl, Nat.le_of_ble_eq_true rfl⟩ 3 4 rfl rfl rfl rfl rfl (Nat.le_of_ble_eq_true rfl) dL_law_208 ⟨(by omega), (by omega)⟩ (fun v9 w9 H locs hq G => ?_)
    obtain ⟨Z, rfl, rfl, hZ⟩ := hq
    refine W.eq (g2 := F0 mm 211 ls [.long (lI (Z.2.2.2.1 m - bal m))]) rfl ?_
    have G : zG D AA ss.heap ((ea, .inl (k4 0, 48, .inl (fun i9 => iI (EF i9)))) :: (pa, .inl (k4 0, 48, .inl (fun i9 => iI (CP i9)))) :: (ao, .inl (k4 0, 19, .inl (fun i9 => iI (T i9)))) :: (xW k4 lo lnow lsl lcl lba ldu nsh nrk h1 r1 q1 h2 r2 q2 ta sa n (t + 1) 0 (cc + 1) (min Z.2.2.2.2.2.2 (nw 4)) Z.2.2.2.2.1 Z.2.2.2.2.2.1 0 nw Z.2.2.2.1 (fun _ => 0) Z.2.1 Z.2.2.1 tx Z.1)) H locs := G
    refine lv_pop2_2 E.1 E.2.1 dL_law_211 rfl ?_
    exact kk (cc + 1) (min Z.2.2.2.2.2.2 (nw 4)) Z.2.2.2.2.1 Z.2.2.2.2.2.1 Z.2.2.2.1 Z.2.1 Z.2.2.1 Z.1 _ _ _ (hI.correct (m := m) (k := k) (a := z8) (b := z10) (by omega) (by omega) (by omega) (by omega) hZ) G (lv_sub hl [0, 1, 2, 3, 4, 5, 6, 7, 8] rfl)
