def q_c_L_build (k4 : Nat → ClassId) (lo lnow lsl lcl lba ldu nsh nrk h1 r1 q1 h2 r2 q2 : Nat) (ta : Nat → Nat) (sa : Nat → Nat → Nat) (cc bc pot gr bk : Int) (nw bal due : Nat → Int) (S1 S2 : sS) (tx : Nat → Nat → Int) (sg : Nat → Nat → Nat → Int) (ao : Nat) (T : Nat → Int) : Option Value → va_W → Prop := (fun (v9 : Option Value) (w9 : va_W) => ∃ (n : Nat) (T9 N9 : Nat → Int), v9 = some (.int (iI (((n : Nat) : Int)))) ∧ w9 = ((ao, .inl (k4 0, 19, .inl (fun i9 => iI (T9 i9)))) :: (xW k4 lo lnow lsl lcl lba ldu nsh nrk h1 r1 q1 h2 r2 q2 ta sa n 0 0 cc (min bc (N9 4)) pot gr bk N9 bal due S1 S2 tx sg)) ∧ (2 ≤ n ∧ n ≤ 6) ∧ tOK N9 ∧ (T9 15 = N9 4 ∧ T9 17 = N9 6))
set_option maxHeartbeats 4000000 in
set_option maxRecDepth 100000 in
theorem c_L_build (l : Launch) (D : va_G) (k4 : Nat → ClassId) (lo lnow lsl lcl lba ldu nsh nrk h1 r1 q1 h2 r2 q2 : Nat) (ta : Nat → Nat) (sa : Nat → Nat → Nat) (cc bc pot gr bk : Int) (nw bal due : Nat → Int) (S1 S2 : sS) (tx : Nat → Nat → Int) (sg : Nat → Nat → Nat → Int) (ao : Nat) (T : Nat → Int) (bs Ls : Nat) (xs : Nat → Int32) (hLs : Ls ≤ 2560) (hX : xOK 0 0 0 bc nw S1 S2 tx sg) : zCs l yL_build (zW yL_build cL_build 7 (some .int)) ({ frames := 3, cells := 0, slots := 0, locals := 68 } : Room) D k4 [.ref lo, .ref bs, .int (iI (0)), .ref ao] ((ao, .inl (k4 0, 19, .inl (fun i9 => iI (T i9)))) :: (xW k4 lo lnow lsl lcl lba ldu nsh nrk h1 r1 q1 h2 r2 q2 ta sa 0 0 0 cc bc pot gr bk nw bal due S1 S2 tx sg)) (0) (0) bs Ls xs (q_c_L_build k4 lo lnow lsl lcl lba ldu nsh nrk h1 r1 q1 h2 r2 q2 ta sa cc bc pot gr bk nw bal due S1 S2 tx sg ao T) := by
  refine zCs_of (cc := cL_build) hLs (by decide) (Nat.le_of_ble_eq_true rfl) (fun pp ee ss mm bl me co AA H locs ls E hr hlocks S9 G hl => ?_)
  have hl : lv_has ls 7 [(0, .ref lo), (1, .ref bs), (2, .int (iI (0))), (3, .ref ao)] := hl
  refine z_iconst E dL_build_0 ?_
  refine z_aload_n E hl 1 rfl dL_build_1 rfl ?_
  refine z_iload_n E hl 2 rfl dL_build_2 rfl ?_
  refine z_callSs E S9 G hl.1 (c_L_cell l D k4 (0) bs Ls xs S9.2.2.2 (by omega)) kS_L_9 ⟨rfl, rfl, Nat.le_of_ble_eq_true rfl, Nat.le_of_ble_eq_true rfl⟩ [] rfl (by decide) rfl rfl (Nat.le_of_ble_eq_true rfl) dL_build_3 ⟨(by first | exact Nat.le_of_ble_eq_true rfl | omega | (show _ ≤ (0); omega)), (by first | exact Nat.le_of_ble_eq_true rfl | omega | (show _ ≤ (0); omega))⟩ (fun v9 w9 H locs hq G => ?_)
  obtain ⟨z1, rfl, rfl⟩ := hq
  refine W.eq (g2 := F0 mm 6 ls [.int (iI (z1)), .int (iI (2))]) rfl ?_
  have G : zG D AA ss.heap ((ao, .inl (k4 0, 19, .inl (fun i9 => iI (T i9)))) :: (xW k4 lo lnow lsl lcl lba ldu nsh nrk h1 r1 q1 h2 r2 q2 ta sa 0 0 0 cc bc pot gr bk nw bal due S1 S2 tx sg)) H locs := G
  refine z_iconst E dL_build_6 ?_
  refine z_callS E G hl.1 (c_L_below l D k4 (z1) (5) (by decide)) kS_L_15 ⟨rfl, rfl, Nat.le_of_ble_eq_true rfl, Nat.le_of_ble_eq_true rfl⟩ [] rfl (by decide) rfl rfl (Nat.le_of_ble_eq_true rfl) dL_build_7 ⟨(by first | exact Nat.le_of_ble_eq_true rfl | omega | (show _ ≤ (0); omega)), (by first | exact Nat.le_of_ble_eq_true rfl | omega | (show _ ≤ (0); omega))⟩ (fun v9 w9 H locs hq G => ?_)
  obtain ⟨z2, rfl, rfl, hz2⟩ := hq
  refine W.eq (g2 := F0 mm 10 ls [.int (iI (z2)), .int (iI (2))]) rfl ?_
  have G : zG D AA ss.heap ((ao, .inl (k4 0, 19, .inl (fun i9 => iI (T i9)))) :: (xW k4 lo lnow lsl lcl lba ldu nsh nrk h1 r1 q1 h2 r2 q2 ta sa 0 0 0 cc bc pot gr bk nw bal due S1 S2 tx sg)) H locs := G
  refine z_iadd E dL_build_10 ?_
  obtain ⟨n, hn⟩ : ∃ n : Nat, (2) + (z2) = ((n : Nat) : Int) := ⟨((2) + (z2)).toNat, by omega⟩
  refine z_eq (y := ((n : Nat) : Int)) hn ?_
  refine z_istore E [(4, .int (iI (((n : Nat) : Int)))), (0, .ref lo), (1, .ref bs), (2, .int (iI (0))), (3, .ref ao)] dL_build_11 hl (by decide) rfl (fun ls hl => ?_)
  refine z_iconst E dL_build_13 ?_
  refine z_istore E [(5, .int (iI (0))), (4, .int (iI (((n : Nat) : Int)))), (0, .ref lo), (1, .ref bs), (2, .int (iI (0))), (3, .ref ao)] dL_build_14 hl (by decide) rfl (fun ls hl => ?_)
  have hp16_1 : ∀ (n9 : Nat) (j : Nat) (TT NN : Nat → Int) (H : Heap) (locs : List Loc) (ls : Array Slot), (n - j < n9) → (j ≤ n) → (xOK j 0 0 bc NN S1 S2 tx sg) → zG D AA ss.heap ((ao, .inl (k4 0, 19, .inl (fun i9 => iI (TT i9)))) :: (xW k4 lo lnow lsl lcl lba ldu nsh nrk h1 r1 q1 h2 r2 q2 ta sa j 0 0 cc bc pot gr bk NN bal due S1 S2 tx sg)) H locs → lv_has ls 7 [(0, .ref lo), (1, .ref bs), (2, .int (iI (0))), (3, .ref ao), (4, .int (iI (((n : Nat) : Int)))), (5, .int (iI (((j : Nat) : Int))))] → W pp l ee ({ frames := 3, cells := 0, slots := 0, locals := 68 } : Room) ss mm ([.ref lo, .ref bs, .int (iI (0)), .ref ao] : List Value).toArray bl me co H locs (0) (0) (MQ bl (zQ D ((ao, .inl (k4 0, 19, .inl (fun i9 => iI (T i9)))) :: (xW k4 lo lnow lsl lcl lba ldu nsh nrk h1 r1 q1 h2 r2 q2 ta sa 0 0 0 cc bc pot gr bk nw bal due S1 S2 tx sg)) AA (q_c_L_build k4 lo lnow lsl lcl lba ldu nsh nrk h1 r1 q1 h2 r2 q2 ta sa cc bc pot gr bk nw bal due S1 S2 tx sg ao T)) ([.ref lo, .ref bs, .int (iI (0)), .ref ao] : List Value).toArray ss (0) (0) AA) (F0 mm 16 ls []) := by
    intro n9
    induction n9 with
    | zero => intro j TT NN H locs ls hn9 hj hXj G hl; exact absurd hn9 (by omega)
    | succ n9 ih =>
      intro j TT NN H locs ls hn9 hj hXj G hl
      have ih16_1 := @ih
      refine z_iload E hl 5 rfl dL_build_16 ?_
      refine z_iload E hl 4 rfl dL_build_18 ?_
      refine z_icmp_ge (tgt := 119) E dL_build_20 (by decide) ⟨by omega, by omega⟩ ⟨by omega, by omega⟩ (fun c_20 => ?_) (fun c_20 => ?_)
      · skip
        obtain rfl : j = n := by omega
        refine z_aload_n E hl 0 rfl dL_build_119 rfl ?_
        refine z_aload_n E hl 1 rfl dL_build_120 rfl ?_
        refine z_iload_n E hl 2 rfl dL_build_121 rfl ?_
        refine z_iconst E dL_build_122 ?_
        refine z_iadd E dL_build_123 ?_
        refine z_callSs E S9 G hl.1 (c_L_cell l D k4 (1) bs Ls xs S9.2.2.2 (by omega)) kS_L_9 ⟨rfl, rfl, Nat.le_of_ble_eq_true rfl, Nat.le_of_ble_eq_true rfl⟩ [] rfl (by decide) rfl rfl (Nat.le_of_ble_eq_true rfl) dL_build_124 ⟨(by first | exact Nat.le_of_ble_eq_true rfl | omega | (show _ ≤ (0); omega)), (by first | exact Nat.le_of_ble_eq_true rfl | omega | (show _ ≤ (0); omega))⟩ (fun v9 w9 H locs hq G => ?_)
        obtain ⟨z3, rfl, rfl⟩ := hq
        refine W.eq (g2 := F0 mm 127 ls [.int (iI (z3)), .ref lo]) rfl ?_
        have G : zG D AA ss.heap ((ao, .inl (k4 0, 19, .inl (fun i9 => iI (TT i9)))) :: (xW k4 lo lnow lsl lcl lba ldu nsh nrk h1 r1 q1 h2 r2 q2 ta sa j 0 0 cc bc pot gr bk NN bal due S1 S2 tx sg)) H locs := G
        refine z_aload_n E hl 3 rfl dL_build_127 rfl ?_
        refine z_callSx (pre := []) E G hl.1 (c_L_set l D k4 lo lnow lsl lcl lba ldu nsh nrk h1 r1 q1 h2 r2 q2 ta sa j 0 0 cc bc pot gr bk NN bal due S1 S2 tx sg ao TT z3 hXj) kS_L_29 ⟨rfl, rfl, Nat.le_of_ble_eq_true rfl, Nat.le_of_ble_eq_true rfl⟩ rfl rfl (Nat.le_of_ble_eq_true rfl) dL_build_128 ⟨(by first | exact Nat.le_of_ble_eq_true rfl | omega | (show _ ≤ (0); omega)), (by first | exact Nat.le_of_ble_eq_true rfl | omega | (show _ ≤ (0); omega))⟩ (fun v9 w9 H locs hq G => ?_)
        obtain ⟨a1, a2, a3, c4, c5, c6, ru, rfl, rfl, hf128_0, hf128_1, hf128_2, hf128_3, hf128_4, hf128_5, hf128_6⟩ := hq
        refine W.eq (g2 := F0 mm 131 ls []) rfl ?_
        have G : zG D AA ss.heap ((ao, .inl (k4 0, 19, .inl (fun i9 => iI ((up (up (up (up (up (up (up TT 12 (a1)) 13 (a2)) 14 (a3)) 15 (c4)) 16 (c5)) 17 (c6)) 18 (ru)) i9)))) :: (xW k4 lo lnow lsl lcl lba ldu nsh nrk h1 r1 q1 h2 r2 q2 ta sa j 0 0 cc (min bc c4) pot gr bk (up (up (up (up (up (up (up NN 1 a1) 2 a2) 3 a3) 4 c4) 5 c5) 6 c6) 0 ru) bal due S1 S2 tx sg)) H locs := G
        refine z_iload E hl 4 rfl dL_build_131 ?_
        exact z_iret (w' := ((ao, .inl (k4 0, 19, .inl (fun i9 => iI ((up (up (up (up (up (up (up TT 12 (a1)) 13 (a2)) 14 (a3)) 15 (c4)) 16 (c5)) 17 (c6)) 18 (ru)) i9)))) :: (xW k4 lo lnow lsl lcl lba ldu nsh nrk h1 r1 q1 h2 r2 q2 ta sa j 0 0 cc (min bc c4) pot gr bk (up (up (up (up (up (up (up NN 1 a1) 2 a2) 3 a3) 4 c4) 5 c5) 6 c6) 0 ru) bal due S1 S2 tx sg))) (v := ((j : Nat) : Int)) E hr hlocks G dL_build_133 (by omega) (by omega) (zx0 rfl) ⟨j, (up (up (up (up (up (up (up TT 12 (a1)) 13 (a2)) 14 (a3)) 15 (c4)) 16 (c5)) 17 (c6)) 18 (ru)), (up (up (up (up (up (up (up NN 1 a1) 2 a2) 3 a3) 4 c4) 5 c5) 6 c6) 0 ru), rfl, rfl, by omega, tOK_set hXj.2.2.2.1 (by omega) (by omega) (by omega) (by omega) (by omega) (by omega) (by omega), rfl, rfl⟩
      · skip
        refine z_aload_n E hl 0 rfl dL_build_23 rfl ?_
        refine z_callVs (pre := [(ao, .inl (k4 0, 19, .inl (fun i9 => iI (TT i9))))]) E G hl.1 (c_X4_addMember l D k4 lo lnow lsl lcl lba ldu nsh nrk h1 r1 q1 h2 r2 q2 ta sa j 0 0 cc bc pot gr bk NN bal due S1 S2 tx sg hXj (by omega) rfl) kV_L_19 ⟨rfl, rfl, Nat.le_of_ble_eq_true rfl, Nat.le_of_ble_eq_true rfl⟩ 1 4 rfl rfl rfl rfl rfl (Nat.le_of_ble_eq_true rfl) dL_build_24 ⟨(by first | exact Nat.le_of_ble_eq_true rfl | omega | (show _ ≤ (0); omega)), (by first | exact Nat.le_of_ble_eq_true rfl | omega | (show _ ≤ (0); omega))⟩ (fun v9 w9 H locs hq G => ?_)
        obtain ⟨rfl, rfl⟩ := hq
        refine W.eq (g2 := F0 mm 27 ls [.int (iI (((j : Nat) : Int)))]) rfl ?_
        have G : zG D AA ss.heap ((ao, .inl (k4 0, 19, .inl (fun i9 => iI (TT i9)))) :: (xW k4 lo lnow lsl lcl lba ldu nsh nrk h1 r1 q1 h2 r2 q2 ta sa (j + 1) 0 0 cc bc pot gr bk (up (up NN (7 + j) 10) (13 + j) j) bal due S1 S2 tx sg)) H locs := G
        refine z_iload E hl 5 rfl dL_build_27 ?_
        refine z_icmp_eq (tgt := 34) E dL_build_29 (by decide) ⟨by omega, by omega⟩ ⟨by omega, by omega⟩ (fun c_29 => ?_) (fun c_29 => absurd c_29 (by omega))
        refine z_aload_n E hl 1 rfl dL_build_34 rfl ?_
        refine z_iload_n E hl 2 rfl dL_build_35 rfl ?_
        refine z_callSs E S9 G hl.1 (c_L_cell l D k4 (0) bs Ls xs S9.2.2.2 (by omega)) kS_L_9 ⟨rfl, rfl, Nat.le_of_ble_eq_true rfl, Nat.le_of_ble_eq_true rfl⟩ [] rfl (by decide) rfl rfl (Nat.le_of_ble_eq_true rfl) dL_build_36 ⟨(by first | exact Nat.le_of_ble_eq_true rfl | omega | (show _ ≤ (0); omega)), (by first | exact Nat.le_of_ble_eq_true rfl | omega | (show _ ≤ (0); omega))⟩ (fun v9 w9 H locs hq G => ?_)
        obtain ⟨z4, rfl, rfl⟩ := hq
        refine W.eq (g2 := F0 mm 39 ls [.int (iI (z4))]) rfl ?_
        have G : zG D AA ss.heap ((ao, .inl (k4 0, 19, .inl (fun i9 => iI (TT i9)))) :: (xW k4 lo lnow lsl lcl lba ldu nsh nrk h1 r1 q1 h2 r2 q2 ta sa (j + 1) 0 0 cc bc pot gr bk (up (up NN (7 + j) 10) (13 + j) j) bal due S1 S2 tx sg)) H locs := G
        refine z_iconst E dL_build_39 ?_
        refine z_iconst E dL_build_40 ?_
        refine z_iload E hl 5 rfl dL_build_41 ?_
        refine z_imul E dL_build_43 ?_
        refine z_iadd E dL_build_44 ?_
        refine z_ishr E dL_build_45 (fun z5 hz5 => ?_)
        refine z_istore E [(6, .int (iI (z5))), (0, .ref lo), (1, .ref bs), (2, .int (iI (0))), (3, .ref ao), (4, .int (iI (((n : Nat) : Int)))), (5, .int (iI (((j : Nat) : Int))))] dL_build_46 hl (by decide) rfl (fun ls hl => ?_)
        refine z_aload_n E hl 4 rfl dL_build_48 rfl ?_
        refine z_iload E hl 6 rfl dL_build_49 ?_
        refine z_iload E hl 0 rfl dL_build_51 ?_
        refine z_iconst E dL_build_53 ?_
        refine z_callS E G hl.1 (c_L_below l D k4 (z5) (4) (by decide)) kS_L_15 ⟨rfl, rfl, Nat.le_of_ble_eq_true rfl, Nat.le_of_ble_eq_true rfl⟩ [] rfl (by decide) rfl rfl (Nat.le_of_ble_eq_true rfl) dL_build_54 ⟨(by first | exact Nat.le_of_ble_eq_true rfl | omega | (show _ ≤ (0); omega)), (by first | exact Nat.le_of_ble_eq_true rfl | omega | (show _ ≤ (0); omega))⟩ (fun v9 w9 H locs hq G => ?_)
        obtain ⟨z6, rfl, rfl, hz6⟩ := hq
        refine W.eq (g2 := F0 mm 57 ls [.int (iI (z6)), .int (iI (((j : Nat) : Int))), .ref ao]) rfl ?_
        have G : zG D AA ss.heap ((ao, .inl (k4 0, 19, .inl (fun i9 => iI (TT i9)))) :: (xW k4 lo lnow lsl lcl lba ldu nsh nrk h1 r1 q1 h2 r2 q2 ta sa (j + 1) 0 0 cc bc pot gr bk (up (up NN (7 + j) 10) (13 + j) j) bal due S1 S2 tx sg)) H locs := G
        refine z_if_ne (tgt := 64) E dL_build_57 (by decide) ⟨by omega, by omega⟩ (fun c_57 => ?_) (fun c_57 => ?_)
        · skip
          refine z_iload E hl 0 rfl dL_build_64 ?_
          refine z_iconst E dL_build_66 ?_
          refine z_ishr E dL_build_67 (fun z7 hz7 => ?_)
          refine z_bipush E dL_build_68 (by decide) ?_
          refine z_callS E G hl.1 (c_L_below l D k4 (z7) (12) (by decide)) kS_L_15 ⟨rfl, rfl, Nat.le_of_ble_eq_true rfl, Nat.le_of_ble_eq_true rfl⟩ [] rfl (by decide) rfl rfl (Nat.le_of_ble_eq_true rfl) dL_build_70 ⟨(by first | exact Nat.le_of_ble_eq_true rfl | omega | (show _ ≤ (0); omega)), (by first | exact Nat.le_of_ble_eq_true rfl | omega | (show _ ≤ (0); omega))⟩ (fun v9 w9 H locs hq G => ?_)
          obtain ⟨z8, rfl, rfl, hz8⟩ := hq
          refine W.eq (g2 := F0 mm 73 ls [.int (iI (z8)), .int (iI (((j : Nat) : Int))), .ref ao]) rfl ?_
          have G : zG D AA ss.heap ((ao, .inl (k4 0, 19, .inl (fun i9 => iI (TT i9)))) :: (xW k4 lo lnow lsl lcl lba ldu nsh nrk h1 r1 q1 h2 r2 q2 ta sa (j + 1) 0 0 cc bc pot gr bk (up (up NN (7 + j) 10) (13 + j) j) bal due S1 S2 tx sg)) H locs := G
          refine z_iast E G 0 rfl (j) rfl (by omega) (by decide) dL_build_73 (fun H locs G => ?_)
          have G : zG D AA ss.heap ((ao, .inl (k4 0, 19, .inl (fun i9 => iI ((up TT (j) (z8)) i9)))) :: (xW k4 lo lnow lsl lcl lba ldu nsh nrk h1 r1 q1 h2 r2 q2 ta sa (j + 1) 0 0 cc bc pot gr bk (up (up NN (7 + j) 10) (13 + j) j) bal due S1 S2 tx sg)) H locs := G
          refine z_aload_n E hl 4 rfl dL_build_74 rfl ?_
          refine z_bipush E dL_build_75 (by decide) ?_
          refine z_iload E hl 6 rfl dL_build_77 ?_
          refine z_iadd E dL_build_79 ?_
          refine z_iload E hl 0 rfl dL_build_80 ?_
          refine z_iconst E dL_build_82 ?_
          refine z_ishr E dL_build_83 (fun z9 hz9 => ?_)
          refine z_iconst E dL_build_84 ?_
          refine z_callS E G hl.1 (c_L_below l D k4 (z9) (4) (by decide)) kS_L_15 ⟨rfl, rfl, Nat.le_of_ble_eq_true rfl, Nat.le_of_ble_eq_true rfl⟩ [] rfl (by decide) rfl rfl (Nat.le_of_ble_eq_true rfl) dL_build_85 ⟨(by first | exact Nat.le_of_ble_eq_true rfl | omega | (show _ ≤ (0); omega)), (by first | exact Nat.le_of_ble_eq_true rfl | omega | (show _ ≤ (0); omega))⟩ (fun v9 w9 H locs hq G => ?_)
          obtain ⟨z10, rfl, rfl, hz10⟩ := hq
          refine W.eq (g2 := F0 mm 88 ls [.int (iI (z10)), .int (iI ((6) + (((j : Nat) : Int)))), .ref ao]) rfl ?_
          have G : zG D AA ss.heap ((ao, .inl (k4 0, 19, .inl (fun i9 => iI ((up TT (j) (z8)) i9)))) :: (xW k4 lo lnow lsl lcl lba ldu nsh nrk h1 r1 q1 h2 r2 q2 ta sa (j + 1) 0 0 cc bc pot gr bk (up (up NN (7 + j) 10) (13 + j) j) bal due S1 S2 tx sg)) H locs := G
          refine z_iast E G 0 rfl ((6 + j)) (by omega) (by omega) (by decide) dL_build_88 (fun H locs G => ?_)
          have G : zG D AA ss.heap ((ao, .inl (k4 0, 19, .inl (fun i9 => iI ((up (up TT (j) (z8)) ((6 + j)) (z10)) i9)))) :: (xW k4 lo lnow lsl lcl lba ldu nsh nrk h1 r1 q1 h2 r2 q2 ta sa (j + 1) 0 0 cc bc pot gr bk (up (up NN (7 + j) 10) (13 + j) j) bal due S1 S2 tx sg)) H locs := G
          refine z_aload_n E hl 1 rfl dL_build_89 rfl ?_
          refine z_iload E hl 6 rfl dL_build_90 ?_
          refine z_aload_n E hl 4 rfl dL_build_92 rfl ?_
          refine z_iload E hl 6 rfl dL_build_93 ?_
          refine z_iald E G 0 rfl (j) (by omega) (by omega) (by decide) dL_build_95 ?_
          refine z_eq (y := z8) (by rw [up_n (by omega), up_s]) ?_
          refine z_aload_n E hl 4 rfl dL_build_96 rfl ?_
          refine z_bipush E dL_build_97 (by decide) ?_
          refine z_iload E hl 6 rfl dL_build_99 ?_
          refine z_iadd E dL_build_101 ?_
          refine z_iald E G 0 rfl ((6 + j)) (by omega) (by omega) (by decide) dL_build_102 ?_
          refine z_eq (y := z10) up_s ?_
          have hX1 := (hXj.mem (m := j) (a := 10) (b := ((j : Nat) : Int)) (by omega) (by omega) (by omega)).cnt (k := j + 1) (by omega)
          refine z_callVs (pre := [(ao, .inl (k4 0, 19, .inl (fun i9 => iI ((up (up TT (j) (z8)) ((6 + j)) (z10)) i9))))]) E G hl.1 (c_X4_setMember l D k4 lo lnow lsl lcl lba ldu nsh nrk h1 r1 q1 h2 r2 q2 ta sa (j + 1) 0 0 cc bc pot gr bk (up (up NN (7 + j) 10) (13 + j) j) bal due S1 S2 tx sg j z8 z10 hX1 (by omega) (by omega) (by omega)) kV_L_25 ⟨rfl, rfl, Nat.le_of_ble_eq_true rfl, Nat.le_of_ble_eq_true rfl⟩ 1 4 rfl rfl rfl rfl rfl (Nat.le_of_ble_eq_true rfl) dL_build_103 ⟨(by first | exact Nat.le_of_ble_eq_true rfl | omega | (show _ ≤ (0); omega)), (by first | exact Nat.le_of_ble_eq_true rfl | omega | (show _ ≤ (0); omega))⟩ (fun v9 w9 H locs hq G => ?_)
          obtain ⟨rfl, rfl⟩ := hq
          refine W.eq (g2 := F0 mm 106 ls [.int (iI ((up (up NN (7 + j) 10) (13 + j) j) (7 + j)))]) rfl ?_
          have G : zG D AA ss.heap ((ao, .inl (k4 0, 19, .inl (fun i9 => iI ((up (up TT (j) (z8)) ((6 + j)) (z10)) i9)))) :: (xW k4 lo lnow lsl lcl lba ldu nsh nrk h1 r1 q1 h2 r2 q2 ta sa (j + 1) 0 0 cc bc pot gr bk (up (up (up (up NN (7 + j) 10) (13 + j) j) (7 + j) z8) (13 + j) z10) bal due S1 S2 tx sg)) H locs := G
          refine z_eq (y := 10) (by rw [up_n (by omega), up_s]) ?_
          refine z_bipush E dL_build_106 (by decide) ?_
          refine z_icmp_eq (tgt := 113) E dL_build_108 (by decide) (by decide) (by decide) (fun c_108 => ?_) (fun c_108 => absurd c_108 (by decide))
          refine z_iinc E [(5, .int (iI (((j : Nat) : Int) + 1))), (6, .int (iI (z5))), (0, .ref lo), (1, .ref bs), (2, .int (iI (0))), (3, .ref ao), (4, .int (iI (((n : Nat) : Int))))] dL_build_113 hl (k := 6) rfl (by decide) rfl (fun ls hl => ?_)
          refine z_goto (tgt := 16) E dL_build_116 (by decide) ?_
          exact ih16_1 (j + 1) (up (up TT (j) (z8)) ((6 + j)) (z10)) (up (up (up (up NN (7 + j) 10) (13 + j) j) (7 + j) z8) (13 + j) z10) _ _ _ (by omega) (by omega) (hX1.mem (m := j) (a := z8) (b := z10) (by omega) (by omega) (by omega)) G (lv_sub hl [2, 3, 4, 5, 6, 0] rfl)
        · skip
          refine z_iconst E dL_build_60 ?_
          refine z_goto (tgt := 73) E dL_build_61 (by decide) ?_
          refine z_iast E G 0 rfl (j) rfl (by omega) (by decide) dL_build_73 (fun H locs G => ?_)
          have G : zG D AA ss.heap ((ao, .inl (k4 0, 19, .inl (fun i9 => iI ((up TT (j) (0)) i9)))) :: (xW k4 lo lnow lsl lcl lba ldu nsh nrk h1 r1 q1 h2 r2 q2 ta sa (j + 1) 0 0 cc bc pot gr bk (up (up NN (7 + j) 10) (13 + j) j) bal due S1 S2 tx sg)) H locs := G
          refine z_aload_n E hl 4 rfl dL_build_74 rfl ?_
          refine z_bipush E dL_build_75 (by decide) ?_
          refine z_iload E hl 6 rfl dL_build_77 ?_
          refine z_iadd E dL_build_79 ?_
          refine z_iload E hl 0 rfl dL_build_80 ?_
          refine z_iconst E dL_build_82 ?_
          refine z_ishr E dL_build_83 (fun z11 hz11 => ?_)
          refine z_iconst E dL_build_84 ?_
          refine z_callS E G hl.1 (c_L_below l D k4 (z11) (4) (by decide)) kS_L_15 ⟨rfl, rfl, Nat.le_of_ble_eq_true rfl, Nat.le_of_ble_eq_true rfl⟩ [] rfl (by decide) rfl rfl (Nat.le_of_ble_eq_true rfl) dL_build_85 ⟨(by first | exact Nat.le_of_ble_eq_true rfl | omega | (show _ ≤ (0); omega)), (by first | exact Nat.le_of_ble_eq_true rfl | omega | (show _ ≤ (0); omega))⟩ (fun v9 w9 H locs hq G => ?_)
          obtain ⟨z12, rfl, rfl, hz12⟩ := hq
          refine W.eq (g2 := F0 mm 88 ls [.int (iI (z12)), .int (iI ((6) + (((j : Nat) : Int)))), .ref ao]) rfl ?_
          have G : zG D AA ss.heap ((ao, .inl (k4 0, 19, .inl (fun i9 => iI ((up TT (j) (0)) i9)))) :: (xW k4 lo lnow lsl lcl lba ldu nsh nrk h1 r1 q1 h2 r2 q2 ta sa (j + 1) 0 0 cc bc pot gr bk (up (up NN (7 + j) 10) (13 + j) j) bal due S1 S2 tx sg)) H locs := G
          refine z_iast E G 0 rfl ((6 + j)) (by omega) (by omega) (by decide) dL_build_88 (fun H locs G => ?_)
          have G : zG D AA ss.heap ((ao, .inl (k4 0, 19, .inl (fun i9 => iI ((up (up TT (j) (0)) ((6 + j)) (z12)) i9)))) :: (xW k4 lo lnow lsl lcl lba ldu nsh nrk h1 r1 q1 h2 r2 q2 ta sa (j + 1) 0 0 cc bc pot gr bk (up (up NN (7 + j) 10) (13 + j) j) bal due S1 S2 tx sg)) H locs := G
          refine z_aload_n E hl 1 rfl dL_build_89 rfl ?_
          refine z_iload E hl 6 rfl dL_build_90 ?_
          refine z_aload_n E hl 4 rfl dL_build_92 rfl ?_
          refine z_iload E hl 6 rfl dL_build_93 ?_
          refine z_iald E G 0 rfl (j) (by omega) (by omega) (by decide) dL_build_95 ?_
          refine z_eq (y := 0) (by rw [up_n (by omega), up_s]) ?_
          refine z_aload_n E hl 4 rfl dL_build_96 rfl ?_
          refine z_bipush E dL_build_97 (by decide) ?_
          refine z_iload E hl 6 rfl dL_build_99 ?_
          refine z_iadd E dL_build_101 ?_
          refine z_iald E G 0 rfl ((6 + j)) (by omega) (by omega) (by decide) dL_build_102 ?_
          refine z_eq (y := z12) up_s ?_
          have hX1 := (hXj.mem (m := j) (a := 10) (b := ((j : Nat) : Int)) (by omega) (by omega) (by omega)).cnt (k := j + 1) (by omega)
          refine z_callVs (pre := [(ao, .inl (k4 0, 19, .inl (fun i9 => iI ((up (up TT (j) (0)) ((6 + j)) (z12)) i9))))]) E G hl.1 (c_X4_setMember l D k4 lo lnow lsl lcl lba ldu nsh nrk h1 r1 q1 h2 r2 q2 ta sa (j + 1) 0 0 cc bc pot gr bk (up (up NN (7 + j) 10) (13 + j) j) bal due S1 S2 tx sg j 0 z12 hX1 (by omega) (by omega) (by omega)) kV_L_25 ⟨rfl, rfl, Nat.le_of_ble_eq_true rfl, Nat.le_of_ble_eq_true rfl⟩ 1 4 rfl rfl rfl rfl rfl (Nat.le_of_ble_eq_true rfl) dL_build_103 ⟨(by first | exact Nat.le_of_ble_eq_true rfl | omega | (show _ ≤ (0); omega)), (by first | exact Nat.le_of_ble_eq_true rfl | omega | (show _ ≤ (0); omega))⟩ (fun v9 w9 H locs hq G => ?_)
          obtain ⟨rfl, rfl⟩ := hq
          refine W.eq (g2 := F0 mm 106 ls [.int (iI ((up (up NN (7 + j) 10) (13 + j) j) (7 + j)))]) rfl ?_
          have G : zG D AA ss.heap ((ao, .inl (k4 0, 19, .inl (fun i9 => iI ((up (up TT (j) (0)) ((6 + j)) (z12)) i9)))) :: (xW k4 lo lnow lsl lcl lba ldu nsh nrk h1 r1 q1 h2 r2 q2 ta sa (j + 1) 0 0 cc bc pot gr bk (up (up (up (up NN (7 + j) 10) (13 + j) j) (7 + j) 0) (13 + j) z12) bal due S1 S2 tx sg)) H locs := G
          refine z_eq (y := 10) (by rw [up_n (by omega), up_s]) ?_
          refine z_bipush E dL_build_106 (by decide) ?_
          refine z_icmp_eq (tgt := 113) E dL_build_108 (by decide) (by decide) (by decide) (fun c_108 => ?_) (fun c_108 => absurd c_108 (by decide))
          refine z_iinc E [(5, .int (iI (((j : Nat) : Int) + 1))), (6, .int (iI (z5))), (0, .ref lo), (1, .ref bs), (2, .int (iI (0))), (3, .ref ao), (4, .int (iI (((n : Nat) : Int))))] dL_build_113 hl (k := 6) rfl (by decide) rfl (fun ls hl => ?_)
          refine z_goto (tgt := 16) E dL_build_116 (by decide) ?_
          exact ih16_1 (j + 1) (up (up TT (j) (0)) ((6 + j)) (z12)) (up (up (up (up NN (7 + j) 10) (13 + j) j) (7 + j) 0) (13 + j) z12) _ _ _ (by omega) (by omega) (hX1.mem (m := j) (a := 0) (b := z12) (by omega) (by omega) (by omega)) G (lv_sub hl [2, 3, 4, 5, 6, 0] rfl)
  exact hp16_1 (n + 1) 0 T nw _ _ _ (by omega) (by omega) hX G (lv_sub hl [2, 3, 4, 5, 1, 0] rfl)

