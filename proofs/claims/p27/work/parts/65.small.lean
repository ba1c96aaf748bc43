def q_c_L_below (k4 : Nat → ClassId) (v n : Int) : Option Value → va_W → Prop := (fun (v9 : Option Value) (w9 : va_W) => ∃ (z : Int), v9 = some (.int (iI (z))) ∧ w9 = [] ∧ (0 ≤ z ∧ z < n))
set_option maxHeartbeats 4000000 in
set_option maxRecDepth 100000 in
theorem c_L_below (l : Launch) (D : va_G) (k4 : Nat → ClassId) (v n : Int) (hn : 0 < n ∧ n < 2147483648) : zC l yL_below (zW yL_below cL_below 2 (some .int)) ({ frames := 0, cells := 0, slots := 0, locals := 0 } : Room) D k4 [.int (iI (v)), .int (iI (n))] [] (0) (0) (q_c_L_below k4 v n) := by
  refine zC_of (cc := cL_below) (by decide) (Nat.le_of_ble_eq_true rfl) (fun pp ee ss mm bl me co AA H locs ls E hr hlocks hin G hl => ?_)
  have hl : lv_has ls 2 [(0, .int (iI (v))), (1, .int (iI (n)))] := hl
  refine z_iload_n E hl 0 rfl dL_below_0 rfl ?_
  refine z_ldc E (n := (2147483647)) zw_72 (by decide +kernel) dL_below_1 ?_
  refine z_iandM E dL_below_3 (fun z1 hz1a hz1b => ?_)
  refine z_iload_n E hl 1 rfl dL_below_4 rfl ?_
  refine z_irem E dL_below_5 ⟨hz1a, hz1b⟩ hn ?_
  exact z_iret (w' := []) (v := (z1) % (n)) E hr hlocks G dL_below_6 (by omega) (by omega) (zx0 rfl) ⟨z1 % n, rfl, rfl, Int.emod_nonneg _ (by omega), Int.emod_lt_of_pos _ (by omega)⟩

def q_c_L_cell (k4 : Nat → ClassId) (k : Nat) : Option Value → va_W → Prop := (fun (v9 : Option Value) (w9 : va_W) => ∃ (z : Int), v9 = some (.int (iI (z))) ∧ w9 = [])
set_option maxHeartbeats 4000000 in
set_option maxRecDepth 100000 in
theorem c_L_cell (l : Launch) (D : va_G) (k4 : Nat → ClassId) (k : Nat) (bs Ls : Nat) (xs : Nat → Int32) (hLs : Ls ≤ 2560) (hk : k ≤ 1000) : zCs l yL_cell (zW yL_cell cL_cell 2 (some .int)) ({ frames := 0, cells := 0, slots := 0, locals := 0 } : Room) D k4 [.ref bs, .int (iI (((k : Nat) : Int)))] [] (0) (0) bs Ls xs (q_c_L_cell k4 k) := by
  refine zCs_of (cc := cL_cell) hLs (by decide) (Nat.le_of_ble_eq_true rfl) (fun pp ee ss mm bl me co AA H locs ls E hr hlocks S9 G hl => ?_)
  have hl : lv_has ls 2 [(0, .ref bs), (1, .int (iI (((k : Nat) : Int))))] := hl
  refine z_iload_n E hl 1 rfl dL_cell_0 rfl ?_
  refine z_aload_n E hl 0 rfl dL_cell_1 rfl ?_
  refine va_slen E.1 E.2.1 S9.1 S9.2.1 S9.2.2.1 G.2.2.1 dL_cell_2 ?_
  rw [iI_len]
  refine z_icmp_ge (tgt := 12) E dL_cell_3 (by decide) ⟨by omega, by omega⟩ ⟨by omega, by omega⟩ (fun c_3 => ?_) (fun c_3 => ?_)
  · skip
    refine z_ldc E (n := (790386105)) zw_68 (by decide +kernel) dL_cell_12 ?_
    refine z_iload_n E hl 1 rfl dL_cell_14 rfl ?_
    refine z_iconst E dL_cell_15 ?_
    refine z_iadd E dL_cell_16 ?_
    refine z_imul E dL_cell_17 ?_
    exact z_iret (w' := []) (v := (790386105) * ((((k : Nat) : Int)) + (3))) E hr hlocks G dL_cell_18 (by omega) (by omega) (zx0 rfl) ⟨_, rfl, rfl⟩
  · skip
    refine z_aload_n E hl 0 rfl dL_cell_6 rfl ?_
    refine z_iload_n E hl 1 rfl dL_cell_7 rfl ?_
    refine z_sld E S9 G (k) rfl (by omega) dL_cell_8 ?_
    refine z_goto (tgt := 18) E dL_cell_9 (by decide) ?_
    exact z_iret (w' := []) (v := (xs (k)).toInt) E hr hlocks G dL_cell_18 (by omega) (by omega) (zx0 rfl) ⟨_, rfl, rfl⟩

def q_c_L_generated (k4 : Nat → ClassId) (x : Int) : Option Value → va_W → Prop := (fun (v9 : Option Value) (w9 : va_W) => ∃ (z : Int), v9 = some (.int (iI (z))) ∧ w9 = [] ∧ (0 ≤ z ∧ z < 40))
set_option maxHeartbeats 4000000 in
set_option maxRecDepth 100000 in
theorem c_L_generated (l : Launch) (D : va_G) (k4 : Nat → ClassId) (x : Int)  : zC l yL_generated (zW yL_generated cL_generated 1 (some .int)) ({ frames := 1, cells := 0, slots := 0, locals := 21 } : Room) D k4 [.int (iI (x))] [] (0) (0) (q_c_L_generated k4 x) := by
  refine zC_of (cc := cL_generated) (by decide) (Nat.le_of_ble_eq_true rfl) (fun pp ee ss mm bl me co AA H locs ls E hr hlocks hin G hl => ?_)
  have hl : lv_has ls 1 [(0, .int (iI (x)))] := hl
  refine z_iload_n E hl 0 rfl dL_generated_0 rfl ?_
  refine z_iconst E dL_generated_1 ?_
  refine z_callS E G hl.1 (c_L_below l D k4 (x) (3) (by decide)) kS_L_15 ⟨rfl, rfl, Nat.le_of_ble_eq_true rfl, Nat.le_of_ble_eq_true rfl⟩ [] rfl (by decide) rfl rfl (Nat.le_of_ble_eq_true rfl) dL_generated_2 ⟨(by first | exact Nat.le_of_ble_eq_true rfl | omega | (show _ ≤ (0); omega)), (by first | exact Nat.le_of_ble_eq_true rfl | omega | (show _ ≤ (0); omega))⟩ (fun v9 w9 H locs hq G => ?_)
  obtain ⟨z1, rfl, rfl, hz1⟩ := hq
  refine W.eq (g2 := F0 mm 5 ls [.int (iI (z1))]) rfl ?_
  have G : zG D AA ss.heap [] H locs := G
  refine z_if_ne (tgt := 12) E dL_generated_5 (by decide) ⟨by omega, by omega⟩ (fun c_5 => ?_) (fun c_5 => ?_)
  · skip
    refine z_iload_n E hl 0 rfl dL_generated_12 rfl ?_
    refine z_iconst E dL_generated_13 ?_
    refine z_ishr E dL_generated_14 (fun z2 hz2 => ?_)
    refine z_bipush E dL_generated_15 (by decide) ?_
    refine z_callS E G hl.1 (c_L_below l D k4 (z2) (40) (by decide)) kS_L_15 ⟨rfl, rfl, Nat.le_of_ble_eq_true rfl, Nat.le_of_ble_eq_true rfl⟩ [] rfl (by decide) rfl rfl (Nat.le_of_ble_eq_true rfl) dL_generated_17 ⟨(by first | exact Nat.le_of_ble_eq_true rfl | omega | (show _ ≤ (0); omega)), (by first | exact Nat.le_of_ble_eq_true rfl | omega | (show _ ≤ (0); omega))⟩ (fun v9 w9 H locs hq G => ?_)
    obtain ⟨z3, rfl, rfl, hz3⟩ := hq
    refine W.eq (g2 := F0 mm 20 ls [.int (iI (z3))]) rfl ?_
    have G : zG D AA ss.heap [] H locs := G
    exact z_iret (w' := []) (v := z3) E hr hlocks G dL_generated_20 (by omega) (by omega) (zx0 rfl) ⟨z3, rfl, rfl, hz3⟩
  · skip
    refine z_iconst E dL_generated_8 ?_
    refine z_goto (tgt := 20) E dL_generated_9 (by decide) ?_
    exact z_iret (w' := []) (v := 0) E hr hlocks G dL_generated_20 (by omega) (by omega) (zx0 rfl) ⟨0, rfl, rfl, by omega⟩

def q_c_L_used (k4 : Nat → ClassId) (x : Int) : Option Value → va_W → Prop := (fun (v9 : Option Value) (w9 : va_W) => ∃ (z : Int), v9 = some (.int (iI (z))) ∧ w9 = [] ∧ (0 ≤ z ∧ z < 40))
set_option maxHeartbeats 4000000 in
set_option maxRecDepth 100000 in
theorem c_L_used (l : Launch) (D : va_G) (k4 : Nat → ClassId) (x : Int)  : zC l yL_used (zW yL_used cL_used 1 (some .int)) ({ frames := 1, cells := 0, slots := 0, locals := 21 } : Room) D k4 [.int (iI (x))] [] (0) (0) (q_c_L_used k4 x) := by
  refine zC_of (cc := cL_used) (by decide) (Nat.le_of_ble_eq_true rfl) (fun pp ee ss mm bl me co AA H locs ls E hr hlocks hin G hl => ?_)
  have hl : lv_has ls 1 [(0, .int (iI (x)))] := hl
  refine z_iload_n E hl 0 rfl dL_used_0 rfl ?_
  refine z_iconst E dL_used_1 ?_
  refine z_ishr E dL_used_2 (fun z1 hz1 => ?_)
  refine z_iconst E dL_used_3 ?_
  refine z_callS E G hl.1 (c_L_below l D k4 (z1) (4) (by decide)) kS_L_15 ⟨rfl, rfl, Nat.le_of_ble_eq_true rfl, Nat.le_of_ble_eq_true rfl⟩ [] rfl (by decide) rfl rfl (Nat.le_of_ble_eq_true rfl) dL_used_4 ⟨(by first | exact Nat.le_of_ble_eq_true rfl | omega | (show _ ≤ (0); omega)), (by first | exact Nat.le_of_ble_eq_true rfl | omega | (show _ ≤ (0); omega))⟩ (fun v9 w9 H locs hq G => ?_)
  obtain ⟨z2, rfl, rfl, hz2⟩ := hq
  refine W.eq (g2 := F0 mm 7 ls [.int (iI (z2))]) rfl ?_
  have G : zG D AA ss.heap [] H locs := G
  refine z_if_ne (tgt := 14) E dL_used_7 (by decide) ⟨by omega, by omega⟩ (fun c_7 => ?_) (fun c_7 => ?_)
  · skip
    refine z_iload_n E hl 0 rfl dL_used_14 rfl ?_
    refine z_bipush E dL_used_15 (by decide) ?_
    refine z_ishr E dL_used_17 (fun z3 hz3 => ?_)
    refine z_bipush E dL_used_18 (by decide) ?_
    refine z_callS E G hl.1 (c_L_below l D k4 (z3) (40) (by decide)) kS_L_15 ⟨rfl, rfl, Nat.le_of_ble_eq_true rfl, Nat.le_of_ble_eq_true rfl⟩ [] rfl (by decide) rfl rfl (Nat.le_of_ble_eq_true rfl) dL_used_20 ⟨(by first | exact Nat.le_of_ble_eq_true rfl | omega | (show _ ≤ (0); omega)), (by first | exact Nat.le_of_ble_eq_true rfl | omega | (show _ ≤ (0); omega))⟩ (fun v9 w9 H locs hq G => ?_)
    obtain ⟨z4, rfl, rfl, hz4⟩ := hq
    refine W.eq (g2 := F0 mm 23 ls [.int (iI (z4))]) rfl ?_
    have G : zG D AA ss.heap [] H locs := G
    exact z_iret (w' := []) (v := z4) E hr hlocks G dL_used_23 (by omega) (by omega) (zx0 rfl) ⟨z4, rfl, rfl, hz4⟩
  · skip
    refine z_iconst E dL_used_10 ?_
    refine z_goto (tgt := 23) E dL_used_11 (by decide) ?_
    exact z_iret (w' := []) (v := 0) E hr hlocks G dL_used_23 (by omega) (by omega) (zx0 rfl) ⟨0, rfl, rfl, by omega⟩

def q_c_L_set (k4 : Nat → ClassId) (lo lnow lsl lcl lba ldu nsh nrk h1 r1 q1 h2 r2 q2 : Nat) (ta : Nat → Nat) (sa : Nat → Nat → Nat) (n p st : Nat) (cc bc pot gr bk : Int) (nw bal due : Nat → Int) (S1 S2 : sS) (tx : Nat → Nat → Int) (sg : Nat → Nat → Nat → Int) (ao : Nat) (T : Nat → Int) (x : Int) : Option Value → va_W → Prop := (fun (v9 : Option Value) (w9 : va_W) => ∃ (a1 a2 a3 c4 c5 c6 ru : Int), v9 = none ∧ w9 = ((ao, .inl (k4 0, 19, .inl (fun i9 => iI ((up (up (up (up (up (up (up T 12 (a1)) 13 (a2)) 14 (a3)) 15 (c4)) 16 (c5)) 17 (c6)) 18 (ru)) i9)))) :: (xW k4 lo lnow lsl lcl lba ldu nsh nrk h1 r1 q1 h2 r2 q2 ta sa n p st cc (min bc c4) pot gr bk (up (up (up (up (up (up (up nw 1 a1) 2 a2) 3 a3) 4 c4) 5 c5) 6 c6) 0 ru) bal due S1 S2 tx sg)) ∧ (0 ≤ a1 ∧ a1 ≤ 100) ∧ (0 ≤ a2 ∧ a2 ≤ 100) ∧ (0 ≤ a3 ∧ a3 ≤ 100) ∧ (0 ≤ c4 ∧ c4 ≤ 20000) ∧ (0 ≤ c5 ∧ c5 ≤ 5000) ∧ (1 ≤ c6 ∧ c6 ≤ 100) ∧ (0 ≤ ru ∧ ru ≤ 3))
set_option maxHeartbeats 4000000 in
set_option maxRecDepth 100000 in
theorem c_L_set (l : Launch) (D : va_G) (k4 : Nat → ClassId) (lo lnow lsl lcl lba ldu nsh nrk h1 r1 q1 h2 r2 q2 : Nat) (ta : Nat → Nat) (sa : Nat → Nat → Nat) (n p st : Nat) (cc bc pot gr bk : Int) (nw bal due : Nat → Int) (S1 S2 : sS) (tx : Nat → Nat → Int) (sg : Nat → Nat → Nat → Int) (ao : Nat) (T : Nat → Int) (x : Int) (hX : xOK n p st bc nw S1 S2 tx sg) : zC l yL_set (zW yL_set cL_set 3 none) ({ frames := 2, cells := 0, slots := 0, locals := 46 } : Room) D k4 [.ref lo, .int (iI (x)), .ref ao] ((ao, .inl (k4 0, 19, .inl (fun i9 => iI (T i9)))) :: (xW k4 lo lnow lsl lcl lba ldu nsh nrk h1 r1 q1 h2 r2 q2 ta sa n p st cc bc pot gr bk nw bal due S1 S2 tx sg)) (0) (0) (q_c_L_set k4 lo lnow lsl lcl lba ldu nsh nrk h1 r1 q1 h2 r2 q2 ta sa n p st cc bc pot gr bk nw bal due S1 S2 tx sg ao T x) := by
  refine zC_of (cc := cL_set) (by decide) (Nat.le_of_ble_eq_true rfl) (fun pp ee ss mm bl me co AA H locs ls E hr hlocks hin G hl => ?_)
  have hl : lv_has ls 3 [(0, .ref lo), (1, .int (iI (x))), (2, .ref ao)] := hl
  refine z_aload_n E hl 2 rfl dL_set_0 rfl ?_
  refine z_bipush E dL_set_1 (by decide) ?_
  refine z_iload_n E hl 1 rfl dL_set_3 rfl ?_
  refine z_bipush E dL_set_4 (by decide) ?_
  refine z_callS E G hl.1 (c_L_below l D k4 (x) (40) (by decide)) kS_L_15 ⟨rfl, rfl, Nat.le_of_ble_eq_true rfl, Nat.le_of_ble_eq_true rfl⟩ [] rfl (by decide) rfl rfl (Nat.le_of_ble_eq_true rfl) dL_set_6 ⟨(by first | exact Nat.le_of_ble_eq_true rfl | omega | (show _ ≤ (0); omega)), (by first | exact Nat.le_of_ble_eq_true rfl | omega | (show _ ≤ (0); omega))⟩ (fun v9 w9 H locs hq G => ?_)
  obtain ⟨z1, rfl, rfl, hz1⟩ := hq
  refine W.eq (g2 := F0 mm 9 ls [.int (iI (z1)), .int (iI (12)), .ref ao]) rfl ?_
  have G : zG D AA ss.heap ((ao, .inl (k4 0, 19, .inl (fun i9 => iI (T i9)))) :: (xW k4 lo lnow lsl lcl lba ldu nsh nrk h1 r1 q1 h2 r2 q2 ta sa n p st cc bc pot gr bk nw bal due S1 S2 tx sg)) H locs := G
  refine z_iast E G 0 rfl (12) rfl (by decide) (by decide) dL_set_9 (fun H locs G => ?_)
  have G : zG D AA ss.heap ((ao, .inl (k4 0, 19, .inl (fun i9 => iI ((up T (12) (z1)) i9)))) :: (xW k4 lo lnow lsl lcl lba ldu nsh nrk h1 r1 q1 h2 r2 q2 ta sa n p st cc bc pot gr bk nw bal due S1 S2 tx sg)) H locs := G
  refine z_aload_n E hl 2 rfl dL_set_10 rfl ?_
  refine z_bipush E dL_set_11 (by decide) ?_
  refine z_iload_n E hl 1 rfl dL_set_13 rfl ?_
  refine z_iconst E dL_set_14 ?_
  refine z_ishr E dL_set_15 (fun z2 hz2 => ?_)
  refine z_bipush E dL_set_16 (by decide) ?_
  refine z_callS E G hl.1 (c_L_below l D k4 (z2) (20) (by decide)) kS_L_15 ⟨rfl, rfl, Nat.le_of_ble_eq_true rfl, Nat.le_of_ble_eq_true rfl⟩ [] rfl (by decide) rfl rfl (Nat.le_of_ble_eq_true rfl) dL_set_18 ⟨(by first | exact Nat.le_of_ble_eq_true rfl | omega | (show _ ≤ (0); omega)), (by first | exact Nat.le_of_ble_eq_true rfl | omega | (show _ ≤ (0); omega))⟩ (fun v9 w9 H locs hq G => ?_)
  obtain ⟨z3, rfl, rfl, hz3⟩ := hq
  refine W.eq (g2 := F0 mm 21 ls [.int (iI (z3)), .int (iI (13)), .ref ao]) rfl ?_
  have G : zG D AA ss.heap ((ao, .inl (k4 0, 19, .inl (fun i9 => iI ((up T (12) (z1)) i9)))) :: (xW k4 lo lnow lsl lcl lba ldu nsh nrk h1 r1 q1 h2 r2 q2 ta sa n p st cc bc pot gr bk nw bal due S1 S2 tx sg)) H locs := G
  refine z_iast E G 0 rfl (13) rfl (by decide) (by decide) dL_set_21 (fun H locs G => ?_)
  have G : zG D AA ss.heap ((ao, .inl (k4 0, 19, .inl (fun i9 => iI ((up (up T (12) (z1)) (13) (z3)) i9)))) :: (xW k4 lo lnow lsl lcl lba ldu nsh nrk h1 r1 q1 h2 r2 q2 ta sa n p st cc bc pot gr bk nw bal due S1 S2 tx sg)) H locs := G
  refine z_aload_n E hl 2 rfl dL_set_22 rfl ?_
  refine z_bipush E dL_set_23 (by decide) ?_
  refine z_iload_n E hl 1 rfl dL_set_25 rfl ?_
  refine z_bipush E dL_set_26 (by decide) ?_
  refine z_ishr E dL_set_28 (fun z4 hz4 => ?_)
  refine z_bipush E dL_set_29 (by decide) ?_
  refine z_callS E G hl.1 (c_L_below l D k4 (z4) (30) (by decide)) kS_L_15 ⟨rfl, rfl, Nat.le_of_ble_eq_true rfl, Nat.le_of_ble_eq_true rfl⟩ [] rfl (by decide) rfl rfl (Nat.le_of_ble_eq_true rfl) dL_set_31 ⟨(by first | exact Nat.le_of_ble_eq_true rfl | omega | (show _ ≤ (0); omega)), (by first | exact Nat.le_of_ble_eq_true rfl | omega | (show _ ≤ (0); omega))⟩ (fun v9 w9 H locs hq G => ?_)
  obtain ⟨z5, rfl, rfl, hz5⟩ := hq
  refine W.eq (g2 := F0 mm 34 ls [.int (iI (z5)), .int (iI (14)), .ref ao]) rfl ?_
  have G : zG D AA ss.heap ((ao, .inl (k4 0, 19, .inl (fun i9 => iI ((up (up T (12) (z1)) (13) (z3)) i9)))) :: (xW k4 lo lnow lsl lcl lba ldu nsh nrk h1 r1 q1 h2 r2 q2 ta sa n p st cc bc pot gr bk nw bal due S1 S2 tx sg)) H locs := G
  refine z_iast E G 0 rfl (14) rfl (by decide) (by decide) dL_set_34 (fun H locs G => ?_)
  have G : zG D AA ss.heap ((ao, .inl (k4 0, 19, .inl (fun i9 => iI ((up (up (up T (12) (z1)) (13) (z3)) (14) (z5)) i9)))) :: (xW k4 lo lnow lsl lcl lba ldu nsh nrk h1 r1 q1 h2 r2 q2 ta sa n p st cc bc pot gr bk nw bal due S1 S2 tx sg)) H locs := G
  refine z_aload_n E hl 2 rfl dL_set_35 rfl ?_
  refine z_bipush E dL_set_36 (by decide) ?_
  refine z_iload_n E hl 1 rfl dL_set_38 rfl ?_
  refine z_bipush E dL_set_39 (by decide) ?_
  refine z_ishr E dL_set_41 (fun z6 hz6 => ?_)
  refine z_iconst E dL_set_42 ?_
  refine z_callS E G hl.1 (c_L_below l D k4 (z6) (4) (by decide)) kS_L_15 ⟨rfl, rfl, Nat.le_of_ble_eq_true rfl, Nat.le_of_ble_eq_true rfl⟩ [] rfl (by decide) rfl rfl (Nat.le_of_ble_eq_true rfl) dL_set_43 ⟨(by first | exact Nat.le_of_ble_eq_true rfl | omega | (show _ ≤ (0); omega)), (by first | exact Nat.le_of_ble_eq_true rfl | omega | (show _ ≤ (0); omega))⟩ (fun v9 w9 H locs hq G => ?_)
  obtain ⟨z7, rfl, rfl, hz7⟩ := hq
  refine W.eq (g2 := F0 mm 46 ls [.int (iI (z7)), .int (iI (15)), .ref ao]) rfl ?_
  have G : zG D AA ss.heap ((ao, .inl (k4 0, 19, .inl (fun i9 => iI ((up (up (up T (12) (z1)) (13) (z3)) (14) (z5)) i9)))) :: (xW k4 lo lnow lsl lcl lba ldu nsh nrk h1 r1 q1 h2 r2 q2 ta sa n p st cc bc pot gr bk nw bal due S1 S2 tx sg)) H locs := G
  refine z_if_ne (tgt := 53) E dL_set_46 (by decide) ⟨by omega, by omega⟩ (fun c_46 => ?_) (fun c_46 => ?_)
  · skip
    refine z_iload_n E hl 1 rfl dL_set_53 rfl ?_
    refine z_bipush E dL_set_54 (by decide) ?_
    refine z_ishr E dL_set_56 (fun z8 hz8 => ?_)
    refine z_bipush E dL_set_57 (by decide) ?_
    refine z_callS E G hl.1 (c_L_below l D k4 (z8) (60) (by decide)) kS_L_15 ⟨rfl, rfl, Nat.le_of_ble_eq_true rfl, Nat.le_of_ble_eq_true rfl⟩ [] rfl (by decide) rfl rfl (Nat.le_of_ble_eq_true rfl) dL_set_59 ⟨(by first | exact Nat.le_of_ble_eq_true rfl | omega | (show _ ≤ (0); omega)), (by first | exact Nat.le_of_ble_eq_true rfl | omega | (show _ ≤ (0); omega))⟩ (fun v9 w9 H locs hq G => ?_)
    obtain ⟨z9, rfl, rfl, hz9⟩ := hq
    refine W.eq (g2 := F0 mm 62 ls [.int (iI (z9)), .int (iI (15)), .ref ao]) rfl ?_
    have G : zG D AA ss.heap ((ao, .inl (k4 0, 19, .inl (fun i9 => iI ((up (up (up T (12) (z1)) (13) (z3)) (14) (z5)) i9)))) :: (xW k4 lo lnow lsl lcl lba ldu nsh nrk h1 r1 q1 h2 r2 q2 ta sa n p st cc bc pot gr bk nw bal due S1 S2 tx sg)) H locs := G
    refine z_iast E G 0 rfl (15) rfl (by decide) (by decide) dL_set_62 (fun H locs G => ?_)
    have G : zG D AA ss.heap ((ao, .inl (k4 0, 19, .inl (fun i9 => iI ((up (up (up (up T (12) (z1)) (13) (z3)) (14) (z5)) (15) (z9)) i9)))) :: (xW k4 lo lnow lsl lcl lba ldu nsh nrk h1 r1 q1 h2 r2 q2 ta sa n p st cc bc pot gr bk nw bal due S1 S2 tx sg)) H locs := G
    refine z_aload_n E hl 2 rfl dL_set_63 rfl ?_
    refine z_bipush E dL_set_64 (by decide) ?_
    refine z_iload_n E hl 1 rfl dL_set_66 rfl ?_
    refine z_bipush E dL_set_67 (by decide) ?_
    refine z_ishr E dL_set_69 (fun z10 hz10 => ?_)
    refine z_bipush E dL_set_70 (by decide) ?_
    refine z_callS E G hl.1 (c_L_below l D k4 (z10) (30) (by decide)) kS_L_15 ⟨rfl, rfl, Nat.le_of_ble_eq_true rfl, Nat.le_of_ble_eq_true rfl⟩ [] rfl (by decide) rfl rfl (Nat.le_of_ble_eq_true rfl) dL_set_72 ⟨(by first | exact Nat.le_of_ble_eq_true rfl | omega | (show _ ≤ (0); omega)), (by first | exact Nat.le_of_ble_eq_true rfl | omega | (show _ ≤ (0); omega))⟩ (fun v9 w9 H locs hq G => ?_)
    obtain ⟨z11, rfl, rfl, hz11⟩ := hq
    refine W.eq (g2 := F0 mm 75 ls [.int (iI (z11)), .int (iI (16)), .ref ao]) rfl ?_
    have G : zG D AA ss.heap ((ao, .inl (k4 0, 19, .inl (fun i9 => iI ((up (up (up (up T (12) (z1)) (13) (z3)) (14) (z5)) (15) (z9)) i9)))) :: (xW k4 lo lnow lsl lcl lba ldu nsh nrk h1 r1 q1 h2 r2 q2 ta sa n p st cc bc pot gr bk nw bal due S1 S2 tx sg)) H locs := G
    refine z_iast E G 0 rfl (16) rfl (by decide) (by decide) dL_set_75 (fun H locs G => ?_)
    have G : zG D AA ss.heap ((ao, .inl (k4 0, 19, .inl (fun i9 => iI ((up (up (up (up (up T (12) (z1)) (13) (z3)) (14) (z5)) (15) (z9)) (16) (z11)) i9)))) :: (xW k4 lo lnow lsl lcl lba ldu nsh nrk h1 r1 q1 h2 r2 q2 ta sa n p st cc bc pot gr bk nw bal due S1 S2 tx sg)) H locs := G
    refine z_aload_n E hl 2 rfl dL_set_76 rfl ?_
    refine z_bipush E dL_set_77 (by decide) ?_
    refine z_iload_n E hl 1 rfl dL_set_79 rfl ?_
    refine z_bipush E dL_set_80 (by decide) ?_
    refine z_ishr E dL_set_82 (fun z12 hz12 => ?_)
    refine z_iconst E dL_set_83 ?_
    refine z_callS E G hl.1 (c_L_below l D k4 (z12) (3) (by decide)) kS_L_15 ⟨rfl, rfl, Nat.le_of_ble_eq_true rfl, Nat.le_of_ble_eq_true rfl⟩ [] rfl (by decide) rfl rfl (Nat.le_of_ble_eq_true rfl) dL_set_84 ⟨(by first | exact Nat.le_of_ble_eq_true rfl | omega | (show _ ≤ (0); omega)), (by first | exact Nat.le_of_ble_eq_true rfl | omega | (show _ ≤ (0); omega))⟩ (fun v9 w9 H locs hq G => ?_)
    obtain ⟨z13, rfl, rfl, hz13⟩ := hq
    refine W.eq (g2 := F0 mm 87 ls [.int (iI (z13)), .int (iI (17)), .ref ao]) rfl ?_
    have G : zG D AA ss.heap ((ao, .inl (k4 0, 19, .inl (fun i9 => iI ((up (up (up (up (up T (12) (z1)) (13) (z3)) (14) (z5)) (15) (z9)) (16) (z11)) i9)))) :: (xW k4 lo lnow lsl lcl lba ldu nsh nrk h1 r1 q1 h2 r2 q2 ta sa n p st cc bc pot gr bk nw bal due S1 S2 tx sg)) H locs := G
    refine z_if_ne (tgt := 95) E dL_set_87 (by decide) ⟨by omega, by omega⟩ (fun c_87 => ?_) (fun c_87 => ?_)
    · skip
      refine z_iconst E dL_set_95 ?_
      refine z_iload_n E hl 1 rfl dL_set_96 rfl ?_
      refine z_bipush E dL_set_97 (by decide) ?_
      refine z_ishr E dL_set_99 (fun z14 hz14 => ?_)
      refine z_bipush E dL_set_100 (by decide) ?_
      refine z_callS E G hl.1 (c_L_below l D k4 (z14) (100) (by decide)) kS_L_15 ⟨rfl, rfl, Nat.le_of_ble_eq_true rfl, Nat.le_of_ble_eq_true rfl⟩ [] rfl (by decide) rfl rfl (Nat.le_of_ble_eq_true rfl) dL_set_102 ⟨(by first | exact Nat.le_of_ble_eq_true rfl | omega | (show _ ≤ (0); omega)), (by first | exact Nat.le_of_ble_eq_true rfl | omega | (show _ ≤ (0); omega))⟩ (fun v9 w9 H locs hq G => ?_)
      obtain ⟨z15, rfl, rfl, hz15⟩ := hq
      refine W.eq (g2 := F0 mm 105 ls [.int (iI (z15)), .int (iI (1)), .int (iI (17)), .ref ao]) rfl ?_
      have G : zG D AA ss.heap ((ao, .inl (k4 0, 19, .inl (fun i9 => iI ((up (up (up (up (up T (12) (z1)) (13) (z3)) (14) (z5)) (15) (z9)) (16) (z11)) i9)))) :: (xW k4 lo lnow lsl lcl lba ldu nsh nrk h1 r1 q1 h2 r2 q2 ta sa n p st cc bc pot gr bk nw bal due S1 S2 tx sg)) H locs := G
      refine z_iadd E dL_set_105 ?_
      refine z_iast E G 0 rfl (17) rfl (by decide) (by decide) dL_set_106 (fun H locs G => ?_)
      have G : zG D AA ss.heap ((ao, .inl (k4 0, 19, .inl (fun i9 => iI ((up (up (up (up (up (up T (12) (z1)) (13) (z3)) (14) (z5)) (15) (z9)) (16) (z11)) (17) ((1) + (z15))) i9)))) :: (xW k4 lo lnow lsl lcl lba ldu nsh nrk h1 r1 q1 h2 r2 q2 ta sa n p st cc bc pot gr bk nw bal due S1 S2 tx sg)) H locs := G
      refine z_aload_n E hl 2 rfl dL_set_107 rfl ?_
      refine z_bipush E dL_set_108 (by decide) ?_
      refine z_iload_n E hl 1 rfl dL_set_110 rfl ?_
      refine z_bipush E dL_set_111 (by decide) ?_
      refine z_ishr E dL_set_113 (fun z16 hz16 => ?_)
      refine z_iconst E dL_set_114 ?_
      refine z_callS E G hl.1 (c_L_below l D k4 (z16) (4) (by decide)) kS_L_15 ⟨rfl, rfl, Nat.le_of_ble_eq_true rfl, Nat.le_of_ble_eq_true rfl⟩ [] rfl (by decide) rfl rfl (Nat.le_of_ble_eq_true rfl) dL_set_115 ⟨(by first | exact Nat.le_of_ble_eq_true rfl | omega | (show _ ≤ (0); omega)), (by first | exact Nat.le_of_ble_eq_true rfl | omega | (show _ ≤ (0); omega))⟩ (fun v9 w9 H locs hq G => ?_)
      obtain ⟨z17, rfl, rfl, hz17⟩ := hq
      refine W.eq (g2 := F0 mm 118 ls [.int (iI (z17)), .int (iI (18)), .ref ao]) rfl ?_
      have G : zG D AA ss.heap ((ao, .inl (k4 0, 19, .inl (fun i9 => iI ((up (up (up (up (up (up T (12) (z1)) (13) (z3)) (14) (z5)) (15) (z9)) (16) (z11)) (17) ((1) + (z15))) i9)))) :: (xW k4 lo lnow lsl lcl lba ldu nsh nrk h1 r1 q1 h2 r2 q2 ta sa n p st cc bc pot gr bk nw bal due S1 S2 tx sg)) H locs := G
      refine z_iast E G 0 rfl (18) rfl (by decide) (by decide) dL_set_118 (fun H locs G => ?_)
      have G : zG D AA ss.heap ((ao, .inl (k4 0, 19, .inl (fun i9 => iI ((up (up (up (up (up (up (up T (12) (z1)) (13) (z3)) (14) (z5)) (15) (z9)) (16) (z11)) (17) ((1) + (z15))) (18) (z17)) i9)))) :: (xW k4 lo lnow lsl lcl lba ldu nsh nrk h1 r1 q1 h2 r2 q2 ta sa n p st cc bc pot gr bk nw bal due S1 S2 tx sg)) H locs := G
      refine z_aload_n E hl 0 rfl dL_set_119 rfl ?_
      refine z_aload_n E hl 2 rfl dL_set_120 rfl ?_
      refine z_bipush E dL_set_121 (by decide) ?_
      refine z_iald E G 0 rfl (12) rfl (by decide) (by decide) dL_set_123 ?_
      refine z_eq (y := z1) rfl ?_
      refine z_aload_n E hl 2 rfl dL_set_124 rfl ?_
      refine z_bipush E dL_set_125 (by decide) ?_
      refine z_iald E G 0 rfl (13) rfl (by decide) (by decide) dL_set_127 ?_
      refine z_eq (y := z3) rfl ?_
      refine z_aload_n E hl 2 rfl dL_set_128 rfl ?_
      refine z_bipush E dL_set_129 (by decide) ?_
      refine z_iald E G 0 rfl (14) rfl (by decide) (by decide) dL_set_131 ?_
      refine z_eq (y := z5) rfl ?_
      refine z_callVs (pre := [(ao, .inl (k4 0, 19, .inl (fun i9 => iI ((up (up (up (up (up (up (up T (12) (z1)) (13) (z3)) (14) (z5)) (15) (z9)) (16) (z11)) (17) ((1) + (z15))) (18) (z17)) i9))))]) E G hl.1 (c_X4_setPrices l D k4 lo lnow lsl lcl lba ldu nsh nrk h1 r1 q1 h2 r2 q2 ta sa n p st cc bc pot gr bk nw bal due S1 S2 tx sg z1 z3 z5 hX (by omega) (by omega) (by omega)) kV_L_33 ⟨rfl, rfl, Nat.le_of_ble_eq_true rfl, Nat.le_of_ble_eq_true rfl⟩ 1 4 rfl rfl rfl rfl rfl (Nat.le_of_ble_eq_true rfl) dL_set_132 ⟨(by first | exact Nat.le_of_ble_eq_true rfl | omega | (show _ ≤ (0); omega)), (by first | exact Nat.le_of_ble_eq_true rfl | omega | (show _ ≤ (0); omega))⟩ (fun v9 w9 H locs hq G => ?_)
      obtain ⟨rfl, rfl⟩ := hq
      refine W.eq (g2 := F0 mm 135 ls [.int (iI (nw 3))]) rfl ?_
      have G : zG D AA ss.heap ((ao, .inl (k4 0, 19, .inl (fun i9 => iI ((up (up (up (up (up (up (up T (12) (z1)) (13) (z3)) (14) (z5)) (15) (z9)) (16) (z11)) (17) ((1) + (z15))) (18) (z17)) i9)))) :: (xW k4 lo lnow lsl lcl lba ldu nsh nrk h1 r1 q1 h2 r2 q2 ta sa n p st cc bc pot gr bk (up (up (up nw 1 (z1)) 2 (z3)) 3 (z5)) bal due S1 S2 tx sg)) H locs := G
      refine z_pop E dL_set_135 rfl ?_
      refine z_aload_n E hl 0 rfl dL_set_136 rfl ?_
      refine z_aload_n E hl 2 rfl dL_set_137 rfl ?_
      refine z_bipush E dL_set_138 (by decide) ?_
      refine z_iald E G 0 rfl (15) rfl (by decide) (by decide) dL_set_140 ?_
      refine z_eq (y := z9) rfl ?_
      refine z_aload_n E hl 2 rfl dL_set_141 rfl ?_
      refine z_bipush E dL_set_142 (by decide) ?_
      refine z_iald E G 0 rfl (16) rfl (by decide) (by decide) dL_set_144 ?_
      refine z_eq (y := z11) rfl ?_
      refine z_aload_n E hl 2 rfl dL_set_145 rfl ?_
      refine z_bipush E dL_set_146 (by decide) ?_
      refine z_iald E G 0 rfl (17) rfl (by decide) (by decide) dL_set_148 ?_
      refine z_eq (y := (1) + (z15)) rfl ?_
      have hX1 := hX.pr (a := z1) (b := z3) (d := z5) (by omega) (by omega) (by omega)
      refine z_callVs (pre := [(ao, .inl (k4 0, 19, .inl (fun i9 => iI ((up (up (up (up (up (up (up T (12) (z1)) (13) (z3)) (14) (z5)) (15) (z9)) (16) (z11)) (17) ((1) + (z15))) (18) (z17)) i9))))]) E G hl.1 (c_X4_setBattery l D k4 lo lnow lsl lcl lba ldu nsh nrk h1 r1 q1 h2 r2 q2 ta sa n p st cc bc pot gr bk (up (up (up nw 1 (z1)) 2 (z3)) 3 (z5)) bal due S1 S2 tx sg z9 z11 ((1) + (z15)) hX1 (by omega) (by omega) (by omega)) kV_L_36 ⟨rfl, rfl, Nat.le_of_ble_eq_true rfl, Nat.le_of_ble_eq_true rfl⟩ 1 4 rfl rfl rfl rfl rfl (Nat.le_of_ble_eq_true rfl) dL_set_149 ⟨(by first | exact Nat.le_of_ble_eq_true rfl | omega | (show _ ≤ (0); omega)), (by first | exact Nat.le_of_ble_eq_true rfl | omega | (show _ ≤ (0); omega))⟩ (fun v9 w9 H locs hq G => ?_)
      obtain ⟨rfl, rfl⟩ := hq
      refine W.eq (g2 := F0 mm 152 ls [.int (iI (bc - min bc z9))]) rfl ?_
      have G : zG D AA ss.heap ((ao, .inl (k4 0, 19, .inl (fun i9 => iI ((up (up (up (up (up (up (up T (12) (z1)) (13) (z3)) (14) (z5)) (15) (z9)) (16) (z11)) (17) ((1) + (z15))) (18) (z17)) i9)))) :: (xW k4 lo lnow lsl lcl lba ldu nsh nrk h1 r1 q1 h2 r2 q2 ta sa n p st cc (min bc z9) pot gr bk (up (up (up (up (up (up nw 1 (z1)) 2 (z3)) 3 (z5)) 4 (z9)) 5 (z11)) 6 (((1) + (z15)))) bal due S1 S2 tx sg)) H locs := G
      refine z_pop E dL_set_152 rfl ?_
      refine z_aload_n E hl 0 rfl dL_set_153 rfl ?_
      refine z_aload_n E hl 2 rfl dL_set_154 rfl ?_
      refine z_bipush E dL_set_155 (by decide) ?_
      refine z_iald E G 0 rfl (18) rfl (by decide) (by decide) dL_set_157 ?_
      refine z_eq (y := z17) rfl ?_
      have hX2 := hX1.ba (a := z9) (b := z11) (d := (1) + (z15)) (by omega) (by omega) (by omega)
      refine z_callVs (pre := [(ao, .inl (k4 0, 19, .inl (fun i9 => iI ((up (up (up (up (up (up (up T (12) (z1)) (13) (z3)) (14) (z5)) (15) (z9)) (16) (z11)) (17) ((1) + (z15))) (18) (z17)) i9))))]) E G hl.1 (c_X4_setRule l D k4 lo lnow lsl lcl lba ldu nsh nrk h1 r1 q1 h2 r2 q2 ta sa n p st cc (min bc z9) pot gr bk (up (up (up (up (up (up nw 1 (z1)) 2 (z3)) 3 (z5)) 4 (z9)) 5 (z11)) 6 (((1) + (z15)))) bal due S1 S2 tx sg z17 hX2 (by omega)) kV_L_39 ⟨rfl, rfl, Nat.le_of_ble_eq_true rfl, Nat.le_of_ble_eq_true rfl⟩ 1 4 rfl rfl rfl rfl rfl (Nat.le_of_ble_eq_true rfl) dL_set_158 ⟨(by first | exact Nat.le_of_ble_eq_true rfl | omega | (show _ ≤ (0); omega)), (by first | exact Nat.le_of_ble_eq_true rfl | omega | (show _ ≤ (0); omega))⟩ (fun v9 w9 H locs hq G => ?_)
      obtain ⟨rfl, rfl⟩ := hq
      refine W.eq (g2 := F0 mm 161 ls [.int (iI ((up (up (up (up (up (up nw 1 (z1)) 2 (z3)) 3 (z5)) 4 (z9)) 5 (z11)) 6 (((1) + (z15)))) 0))]) rfl ?_
      have G : zG D AA ss.heap ((ao, .inl (k4 0, 19, .inl (fun i9 => iI ((up (up (up (up (up (up (up T (12) (z1)) (13) (z3)) (14) (z5)) (15) (z9)) (16) (z11)) (17) ((1) + (z15))) (18) (z17)) i9)))) :: (xW k4 lo lnow lsl lcl lba ldu nsh nrk h1 r1 q1 h2 r2 q2 ta sa n p st cc (min bc z9) pot gr bk (up (up (up (up (up (up (up nw 1 (z1)) 2 (z3)) 3 (z5)) 4 (z9)) 5 (z11)) 6 (((1) + (z15)))) 0 (z17)) bal due S1 S2 tx sg)) H locs := G
      refine z_pop E dL_set_161 rfl ?_
      exact z_vret (w' := ((ao, .inl (k4 0, 19, .inl (fun i9 => iI ((up (up (up (up (up (up (up T (12) (z1)) (13) (z3)) (14) (z5)) (15) (z9)) (16) (z11)) (17) ((1) + (z15))) (18) (z17)) i9)))) :: (xW k4 lo lnow lsl lcl lba ldu nsh nrk h1 r1 q1 h2 r2 q2 ta sa n p st cc (min bc z9) pot gr bk (up (up (up (up (up (up (up nw 1 (z1)) 2 (z3)) 3 (z5)) 4 (z9)) 5 (z11)) 6 (((1) + (z15)))) 0 (z17)) bal due S1 S2 tx sg))) E hr hlocks G dL_set_162 (by omega) (by omega) (zx0 rfl) ⟨z1, z3, z5, z9, z11, (1) + (z15), z17, rfl, rfl, by omega, by omega, by omega, by omega, by omega, by omega, by omega⟩
    · skip
      refine z_bipush E dL_set_90 (by decide) ?_
      refine z_goto (tgt := 106) E dL_set_92 (by decide) ?_
      refine z_iast E G 0 rfl (17) rfl (by decide) (by decide) dL_set_106 (fun H locs G => ?_)
      have G : zG D AA ss.heap ((ao, .inl (k4 0, 19, .inl (fun i9 => iI ((up (up (up (up (up (up T (12) (z1)) (13) (z3)) (14) (z5)) (15) (z9)) (16) (z11)) (17) (100)) i9)))) :: (xW k4 lo lnow lsl lcl lba ldu nsh nrk h1 r1 q1 h2 r2 q2 ta sa n p st cc bc pot gr bk nw bal due S1 S2 tx sg)) H locs := G
      refine z_aload_n E hl 2 rfl dL_set_107 rfl ?_
      refine z_bipush E dL_set_108 (by decide) ?_
      refine z_iload_n E hl 1 rfl dL_set_110 rfl ?_
      refine z_bipush E dL_set_111 (by decide) ?_
      refine z_ishr E dL_set_113 (fun z18 hz18 => ?_)
      refine z_iconst E dL_set_114 ?_
      refine z_callS E G hl.1 (c_L_below l D k4 (z18) (4) (by decide)) kS_L_15 ⟨rfl, rfl, Nat.le_of_ble_eq_true rfl, Nat.le_of_ble_eq_true rfl⟩ [] rfl (by decide) rfl rfl (Nat.le_of_ble_eq_true rfl) dL_set_115 ⟨(by first | exact Nat.le_of_ble_eq_true rfl | omega | (show _ ≤ (0); omega)), (by first | exact Nat.le_of_ble_eq_true rfl | omega | (show _ ≤ (0); omega))⟩ (fun v9 w9 H locs hq G => ?_)
      obtain ⟨z19, rfl, rfl, hz19⟩ := hq
      refine W.eq (g2 := F0 mm 118 ls [.int (iI (z19)), .int (iI (18)), .ref ao]) rfl ?_
      have G : zG D AA ss.heap ((ao, .inl (k4 0, 19, .inl (fun i9 => iI ((up (up (up (up (up (up T (12) (z1)) (13) (z3)) (14) (z5)) (15) (z9)) (16) (z11)) (17) (100)) i9)))) :: (xW k4 lo lnow lsl lcl lba ldu nsh nrk h1 r1 q1 h2 r2 q2 ta sa n p st cc bc pot gr bk nw bal due S1 S2 tx sg)) H locs := G
      refine z_iast E G 0 rfl (18) rfl (by decide) (by decide) dL_set_118 (fun H locs G => ?_)
      have G : zG D AA ss.heap ((ao, .inl (k4 0, 19, .inl (fun i9 => iI ((up (up (up (up (up (up (up T (12) (z1)) (13) (z3)) (14) (z5)) (15) (z9)) (16) (z11)) (17) (100)) (18) (z19)) i9)))) :: (xW k4 lo lnow lsl lcl lba ldu nsh nrk h1 r1 q1 h2 r2 q2 ta sa n p st cc bc pot gr bk nw bal due S1 S2 tx sg)) H locs := G
      refine z_aload_n E hl 0 rfl dL_set_119 rfl ?_
      refine z_aload_n E hl 2 rfl dL_set_120 rfl ?_
      refine z_bipush E dL_set_121 (by decide) ?_
      refine z_iald E G 0 rfl (12) rfl (by decide) (by decide) dL_set_123 ?_
      refine z_eq (y := z1) rfl ?_
      refine z_aload_n E hl 2 rfl dL_set_124 rfl ?_
      refine z_bipush E dL_set_125 (by decide) ?_
      refine z_iald E G 0 rfl (13) rfl (by decide) (by decide) dL_set_127 ?_
      refine z_eq (y := z3) rfl ?_
      refine z_aload_n E hl 2 rfl dL_set_128 rfl ?_
      refine z_bipush E dL_set_129 (by decide) ?_
      refine z_iald E G 0 rfl (14) rfl (by decide) (by decide) dL_set_131 ?_
      refine z_eq (y := z5) rfl ?_
      refine z_callVs (pre := [(ao, .inl (k4 0, 19, .inl (fun i9 => iI ((up (up (up (up (up (up (up T (12) (z1)) (13) (z3)) (14) (z5)) (15) (z9)) (16) (z11)) (17) (100)) (18) (z19)) i9))))]) E G hl.1 (c_X4_setPrices l D k4 lo lnow lsl lcl lba ldu nsh nrk h1 r1 q1 h2 r2 q2 ta sa n p st cc bc pot gr bk nw bal due S1 S2 tx sg z1 z3 z5 hX (by omega) (by omega) (by omega)) kV_L_33 ⟨rfl, rfl, Nat.le_of_ble_eq_true rfl, Nat.le_of_ble_eq_true rfl⟩ 1 4 rfl rfl rfl rfl rfl (Nat.le_of_ble_eq_true rfl) dL_set_132 ⟨(by first | exact Nat.le_of_ble_eq_true rfl | omega | (show _ ≤ (0); omega)), (by first | exact Nat.le_of_ble_eq_true rfl | omega | (show _ ≤ (0); omega))⟩ (fun v9 w9 H locs hq G => ?_)
      obtain ⟨rfl, rfl⟩ := hq
      refine W.eq (g2 := F0 mm 135 ls [.int (iI (nw 3))]) rfl ?_
      have G : zG D AA ss.heap ((ao, .inl (k4 0, 19, .inl (fun i9 => iI ((up (up (up (up (up (up (up T (12) (z1)) (13) (z3)) (14) (z5)) (15) (z9)) (16) (z11)) (17) (100)) (18) (z19)) i9)))) :: (xW k4 lo lnow lsl lcl lba ldu nsh nrk h1 r1 q1 h2 r2 q2 ta sa n p st cc bc pot gr bk (up (up (up nw 1 (z1)) 2 (z3)) 3 (z5)) bal due S1 S2 tx sg)) H locs := G
      refine z_pop E dL_set_135 rfl ?_
      refine z_aload_n E hl 0 rfl dL_set_136 rfl ?_
      refine z_aload_n E hl 2 rfl dL_set_137 rfl ?_
      refine z_bipush E dL_set_138 (by decide) ?_
      refine z_iald E G 0 rfl (15) rfl (by decide) (by decide) dL_set_140 ?_
      refine z_eq (y := z9) rfl ?_
      refine z_aload_n E hl 2 rfl dL_set_141 rfl ?_
      refine z_bipush E dL_set_142 (by decide) ?_
      refine z_iald E G 0 rfl (16) rfl (by decide) (by decide) dL_set_144 ?_
      refine z_eq (y := z11) rfl ?_
      refine z_aload_n E hl 2 rfl dL_set_145 rfl ?_
      refine z_bipush E dL_set_146 (by decide) ?_
      refine z_iald E G 0 rfl (17) rfl (by decide) (by decide) dL_set_148 ?_
      refine z_eq (y := 100) rfl ?_
      have hX1 := hX.pr (a := z1) (b := z3) (d := z5) (by omega) (by omega) (by omega)
      refine z_callVs (pre := [(ao, .inl (k4 0, 19, .inl (fun i9 => iI ((up (up (up (up (up (up (up T (12) (z1)) (13) (z3)) (14) (z5)) (15) (z9)) (16) (z11)) (17) (100)) (18) (z19)) i9))))]) E G hl.1 (c_X4_setBattery l D k4 lo lnow lsl lcl lba ldu nsh nrk h1 r1 q1 h2 r2 q2 ta sa n p st cc bc pot gr bk (up (up (up nw 1 (z1)) 2 (z3)) 3 (z5)) bal due S1 S2 tx sg z9 z11 100 hX1 (by omega) (by omega) (by omega)) kV_L_36 ⟨rfl, rfl, Nat.le_of_ble_eq_true rfl, Nat.le_of_ble_eq_true rfl⟩ 1 4 rfl rfl rfl rfl rfl (Nat.le_of_ble_eq_true rfl) dL_set_149 ⟨(by first | exact Nat.le_of_ble_eq_true rfl | omega | (show _ ≤ (0); omega)), (by first | exact Nat.le_of_ble_eq_true rfl | omega | (show _ ≤ (0); omega))⟩ (fun v9 w9 H locs hq G => ?_)
      obtain ⟨rfl, rfl⟩ := hq
      refine W.eq (g2 := F0 mm 152 ls [.int (iI (bc - min bc z9))]) rfl ?_
      have G : zG D AA ss.heap ((ao, .inl (k4 0, 19, .inl (fun i9 => iI ((up (up (up (up (up (up (up T (12) (z1)) (13) (z3)) (14) (z5)) (15) (z9)) (16) (z11)) (17) (100)) (18) (z19)) i9)))) :: (xW k4 lo lnow lsl lcl lba ldu nsh nrk h1 r1 q1 h2 r2 q2 ta sa n p st cc (min bc z9) pot gr bk (up (up (up (up (up (up nw 1 (z1)) 2 (z3)) 3 (z5)) 4 (z9)) 5 (z11)) 6 (100)) bal due S1 S2 tx sg)) H locs := G
      refine z_pop E dL_set_152 rfl ?_
      refine z_aload_n E hl 0 rfl dL_set_153 rfl ?_
      refine z_aload_n E hl 2 rfl dL_set_154 rfl ?_
      refine z_bipush E dL_set_155 (by decide) ?_
      refine z_iald E G 0 rfl (18) rfl (by decide) (by decide) dL_set_157 ?_
      refine z_eq (y := z19) rfl ?_
      have hX2 := hX1.ba (a := z9) (b := z11) (d := 100) (by omega) (by omega) (by omega)
      refine z_callVs (pre := [(ao, .inl (k4 0, 19, .inl (fun i9 => iI ((up (up (up (up (up (up (up T (12) (z1)) (13) (z3)) (14) (z5)) (15) (z9)) (16) (z11)) (17) (100)) (18) (z19)) i9))))]) E G hl.1 (c_X4_setRule l D k4 lo lnow lsl lcl lba ldu nsh nrk h1 r1 q1 h2 r2 q2 ta sa n p st cc (min bc z9) pot gr bk (up (up (up (up (up (up nw 1 (z1)) 2 (z3)) 3 (z5)) 4 (z9)) 5 (z11)) 6 (100)) bal due S1 S2 tx sg z19 hX2 (by omega)) kV_L_39 ⟨rfl, rfl, Nat.le_of_ble_eq_true rfl, Nat.le_of_ble_eq_true rfl⟩ 1 4 rfl rfl rfl rfl rfl (Nat.le_of_ble_eq_true rfl) dL_set_158 ⟨(by first | exact Nat.le_of_ble_eq_true rfl | omega | (show _ ≤ (0); omega)), (by first | exact Nat.le_of_ble_eq_true rfl | omega | (show _ ≤ (0); omega))⟩ (fun v9 w9 H locs hq G => ?_)
      obtain ⟨rfl, rfl⟩ := hq
      refine W.eq (g2 := F0 mm 161 ls [.int (iI ((up (up (up (up (up (up nw 1 (z1)) 2 (z3)) 3 (z5)) 4 (z9)) 5 (z11)) 6 (100)) 0))]) rfl ?_
      have G : zG D AA ss.heap ((ao, .inl (k4 0, 19, .inl (fun i9 => iI ((up (up (up (up (up (up (up T (12) (z1)) (13) (z3)) (14) (z5)) (15) (z9)) (16) (z11)) (17) (100)) (18) (z19)) i9)))) :: (xW k4 lo lnow lsl lcl lba ldu nsh nrk h1 r1 q1 h2 r2 q2 ta sa n p st cc (min bc z9) pot gr bk (up (up (up (up (up (up (up nw 1 (z1)) 2 (z3)) 3 (z5)) 4 (z9)) 5 (z11)) 6 (100)) 0 (z19)) bal due S1 S2 tx sg)) H locs := G
      refine z_pop E dL_set_161 rfl ?_
      exact z_vret (w' := ((ao, .inl (k4 0, 19, .inl (fun i9 => iI ((up (up (up (up (up (up (up T (12) (z1)) (13) (z3)) (14) (z5)) (15) (z9)) (16) (z11)) (17) (100)) (18) (z19)) i9)))) :: (xW k4 lo lnow lsl lcl lba ldu nsh nrk h1 r1 q1 h2 r2 q2 ta sa n p st cc (min bc z9) pot gr bk (up (up (up (up (up (up (up nw 1 (z1)) 2 (z3)) 3 (z5)) 4 (z9)) 5 (z11)) 6 (100)) 0 (z19)) bal due S1 S2 tx sg))) E hr hlocks G dL_set_162 (by omega) (by omega) (zx0 rfl) ⟨z1, z3, z5, z9, z11, 100, z19, rfl, rfl, by omega, by omega, by omega, by omega, by omega, by omega, by omega⟩
  · skip
    refine z_iconst E dL_set_49 ?_
    refine z_goto (tgt := 62) E dL_set_50 (by decide) ?_
    refine z_iast E G 0 rfl (15) rfl (by decide) (by decide) dL_set_62 (fun H locs G => ?_)
    have G : zG D AA ss.heap ((ao, .inl (k4 0, 19, .inl (fun i9 => iI ((up (up (up (up T (12) (z1)) (13) (z3)) (14) (z5)) (15) (0)) i9)))) :: (xW k4 lo lnow lsl lcl lba ldu nsh nrk h1 r1 q1 h2 r2 q2 ta sa n p st cc bc pot gr bk nw bal due S1 S2 tx sg)) H locs := G
    refine z_aload_n E hl 2 rfl dL_set_63 rfl ?_
    refine z_bipush E dL_set_64 (by decide) ?_
    refine z_iload_n E hl 1 rfl dL_set_66 rfl ?_
    refine z_bipush E dL_set_67 (by decide) ?_
    refine z_ishr E dL_set_69 (fun z20 hz20 => ?_)
    refine z_bipush E dL_set_70 (by decide) ?_
    refine z_callS E G hl.1 (c_L_below l D k4 (z20) (30) (by decide)) kS_L_15 ⟨rfl, rfl, Nat.le_of_ble_eq_true rfl, Nat.le_of_ble_eq_true rfl⟩ [] rfl (by decide) rfl rfl (Nat.le_of_ble_eq_true rfl) dL_set_72 ⟨(by first | exact Nat.le_of_ble_eq_true rfl | omega | (show _ ≤ (0); omega)), (by first | exact Nat.le_of_ble_eq_true rfl | omega | (show _ ≤ (0); omega))⟩ (fun v9 w9 H locs hq G => ?_)
    obtain ⟨z21, rfl, rfl, hz21⟩ := hq
    refine W.eq (g2 := F0 mm 75 ls [.int (iI (z21)), .int (iI (16)), .ref ao]) rfl ?_
    have G : zG D AA ss.heap ((ao, .inl (k4 0, 19, .inl (fun i9 => iI ((up (up (up (up T (12) (z1)) (13) (z3)) (14) (z5)) (15) (0)) i9)))) :: (xW k4 lo lnow lsl lcl lba ldu nsh nrk h1 r1 q1 h2 r2 q2 ta sa n p st cc bc pot gr bk nw bal due S1 S2 tx sg)) H locs := G
    refine z_iast E G 0 rfl (16) rfl (by decide) (by decide) dL_set_75 (fun H locs G => ?_)
    have G : zG D AA ss.heap ((ao, .inl (k4 0, 19, .inl (fun i9 => iI ((up (up (up (up (up T (12) (z1)) (13) (z3)) (14) (z5)) (15) (0)) (16) (z21)) i9)))) :: (xW k4 lo lnow lsl lcl lba ldu nsh nrk h1 r1 q1 h2 r2 q2 ta sa n p st cc bc pot gr bk nw bal due S1 S2 tx sg)) H locs := G
    refine z_aload_n E hl 2 rfl dL_set_76 rfl ?_
    refine z_bipush E dL_set_77 (by decide) ?_
    refine z_iload_n E hl 1 rfl dL_set_79 rfl ?_
    refine z_bipush E dL_set_80 (by decide) ?_
    refine z_ishr E dL_set_82 (fun z22 hz22 => ?_)
    refine z_iconst E dL_set_83 ?_
    refine z_callS E G hl.1 (c_L_below l D k4 (z22) (3) (by decide)) kS_L_15 ⟨rfl, rfl, Nat.le_of_ble_eq_true rfl, Nat.le_of_ble_eq_true rfl⟩ [] rfl (by decide) rfl rfl (Nat.le_of_ble_eq_true rfl) dL_set_84 ⟨(by first | exact Nat.le_of_ble_eq_true rfl | omega | (show _ ≤ (0); omega)), (by first | exact Nat.le_of_ble_eq_true rfl | omega | (show _ ≤ (0); omega))⟩ (fun v9 w9 H locs hq G => ?_)
    obtain ⟨z23, rfl, rfl, hz23⟩ := hq
    refine W.eq (g2 := F0 mm 87 ls [.int (iI (z23)), .int (iI (17)), .ref ao]) rfl ?_
    have G : zG D AA ss.heap ((ao, .inl (k4 0, 19, .inl (fun i9 => iI ((up (up (up (up (up T (12) (z1)) (13) (z3)) (14) (z5)) (15) (0)) (16) (z21)) i9)))) :: (xW k4 lo lnow lsl lcl lba ldu nsh nrk h1 r1 q1 h2 r2 q2 ta sa n p st cc bc pot gr bk nw bal due S1 S2 tx sg)) H locs := G
    refine z_if_ne (tgt := 95) E dL_set_87 (by decide) ⟨by omega, by omega⟩ (fun c_87 => ?_) (fun c_87 => ?_)
    · skip
      refine z_iconst E dL_set_95 ?_
      refine z_iload_n E hl 1 rfl dL_set_96 rfl ?_
      refine z_bipush E dL_set_97 (by decide) ?_
      refine z_ishr E dL_set_99 (fun z24 hz24 => ?_)
      refine z_bipush E dL_set_100 (by decide) ?_
      refine z_callS E G hl.1 (c_L_below l D k4 (z24) (100) (by decide)) kS_L_15 ⟨rfl, rfl, Nat.le_of_ble_eq_true rfl, Nat.le_of_ble_eq_true rfl⟩ [] rfl (by decide) rfl rfl (Nat.le_of_ble_eq_true rfl) dL_set_102 ⟨(by first | exact Nat.le_of_ble_eq_true rfl | omega | (show _ ≤ (0); omega)), (by first | exact Nat.le_of_ble_eq_true rfl | omega | (show _ ≤ (0); omega))⟩ (fun v9 w9 H locs hq G => ?_)
      obtain ⟨z25, rfl, rfl, hz25⟩ := hq
      refine W.eq (g2 := F0 mm 105 ls [.int (iI (z25)), .int (iI (1)), .int (iI (17)), .ref ao]) rfl ?_
      have G : zG D AA ss.heap ((ao, .inl (k4 0, 19, .inl (fun i9 => iI ((up (up (up (up (up T (12) (z1)) (13) (z3)) (14) (z5)) (15) (0)) (16) (z21)) i9)))) :: (xW k4 lo lnow lsl lcl lba ldu nsh nrk h1 r1 q1 h2 r2 q2 ta sa n p st cc bc pot gr bk nw bal due S1 S2 tx sg)) H locs := G
      refine z_iadd E dL_set_105 ?_
      refine z_iast E G 0 rfl (17) rfl (by decide) (by decide) dL_set_106 (fun H locs G => ?_)
      have G : zG D AA ss.heap ((ao, .inl (k4 0, 19, .inl (fun i9 => iI ((up (up (up (up (up (up T (12) (z1)) (13) (z3)) (14) (z5)) (15) (0)) (16) (z21)) (17) ((1) + (z25))) i9)))) :: (xW k4 lo lnow lsl lcl lba ldu nsh nrk h1 r1 q1 h2 r2 q2 ta sa n p st cc bc pot gr bk nw bal due S1 S2 tx sg)) H locs := G
      refine z_aload_n E hl 2 rfl dL_set_107 rfl ?_
      refine z_bipush E dL_set_108 (by decide) ?_
      refine z_iload_n E hl 1 rfl dL_set_110 rfl ?_
      refine z_bipush E dL_set_111 (by decide) ?_
      refine z_ishr E dL_set_113 (fun z26 hz26 => ?_)
      refine z_iconst E dL_set_114 ?_
      refine z_callS E G hl.1 (c_L_below l D k4 (z26) (4) (by decide)) kS_L_15 ⟨rfl, rfl, Nat.le_of_ble_eq_true rfl, Nat.le_of_ble_eq_true rfl⟩ [] rfl (by decide) rfl rfl (Nat.le_of_ble_eq_true rfl) dL_set_115 ⟨(by first | exact Nat.le_of_ble_eq_true rfl | omega | (show _ ≤ (0); omega)), (by first | exact Nat.le_of_ble_eq_true rfl | omega | (show _ ≤ (0); omega))⟩ (fun v9 w9 H locs hq G => ?_)
      obtain ⟨z27, rfl, rfl, hz27⟩ := hq
      refine W.eq (g2 := F0 mm 118 ls [.int (iI (z27)), .int (iI (18)), .ref ao]) rfl ?_
      have G : zG D AA ss.heap ((ao, .inl (k4 0, 19, .inl (fun i9 => iI ((up (up (up (up (up (up T (12) (z1)) (13) (z3)) (14) (z5)) (15) (0)) (16) (z21)) (17) ((1) + (z25))) i9)))) :: (xW k4 lo lnow lsl lcl lba ldu nsh nrk h1 r1 q1 h2 r2 q2 ta sa n p st cc bc pot gr bk nw bal due S1 S2 tx sg)) H locs := G
      refine z_iast E G 0 rfl (18) rfl (by decide) (by decide) dL_set_118 (fun H locs G => ?_)
      have G : zG D AA ss.heap ((ao, .inl (k4 0, 19, .inl (fun i9 => iI ((up (up (up (up (up (up (up T (12) (z1)) (13) (z3)) (14) (z5)) (15) (0)) (16) (z21)) (17) ((1) + (z25))) (18) (z27)) i9)))) :: (xW k4 lo lnow lsl lcl lba ldu nsh nrk h1 r1 q1 h2 r2 q2 ta sa n p st cc bc pot gr bk nw bal due S1 S2 tx sg)) H locs := G
      refine z_aload_n E hl 0 rfl dL_set_119 rfl ?_
      refine z_aload_n E hl 2 rfl dL_set_120 rfl ?_
      refine z_bipush E dL_set_121 (by decide) ?_
      refine z_iald E G 0 rfl (12) rfl (by decide) (by decide) dL_set_123 ?_
      refine z_eq (y := z1) rfl ?_
      refine z_aload_n E hl 2 rfl dL_set_124 rfl ?_
      refine z_bipush E dL_set_125 (by decide) ?_
      refine z_iald E G 0 rfl (13) rfl (by decide) (by decide) dL_set_127 ?_
      refine z_eq (y := z3) rfl ?_
      refine z_aload_n E hl 2 rfl dL_set_128 rfl ?_
      refine z_bipush E dL_set_129 (by decide) ?_
      refine z_iald E G 0 rfl (14) rfl (by decide) (by decide) dL_set_131 ?_
      refine z_eq (y := z5) rfl ?_
      refine z_callVs (pre := [(ao, .inl (k4 0, 19, .inl (fun i9 => iI ((up (up (up (up (up (up (up T (12) (z1)) (13) (z3)) (14) (z5)) (15) (0)) (16) (z21)) (17) ((1) + (z25))) (18) (z27)) i9))))]) E G hl.1 (c_X4_setPrices l D k4 lo lnow lsl lcl lba ldu nsh nrk h1 r1 q1 h2 r2 q2 ta sa n p st cc bc pot gr bk nw bal due S1 S2 tx sg z1 z3 z5 hX (by omega) (by omega) (by omega)) kV_L_33 ⟨rfl, rfl, Nat.le_of_ble_eq_true rfl, Nat.le_of_ble_eq_true rfl⟩ 1 4 rfl rfl rfl rfl rfl (Nat.le_of_ble_eq_true rfl) dL_set_132 ⟨(by first | exact Nat.le_of_ble_eq_true rfl | omega | (show _ ≤ (0); omega)), (by first | exact Nat.le_of_ble_eq_true rfl | omega | (show _ ≤ (0); omega))⟩ (fun v9 w9 H locs hq G => ?_)
      obtain ⟨rfl, rfl⟩ := hq
      refine W.eq (g2 := F0 mm 135 ls [.int (iI (nw 3))]) rfl ?_
      have G : zG D AA ss.heap ((ao, .inl (k4 0, 19, .inl (fun i9 => iI ((up (up (up (up (up (up (up T (12) (z1)) (13) (z3)) (14) (z5)) (15) (0)) (16) (z21)) (17) ((1) + (z25))) (18) (z27)) i9)))) :: (xW k4 lo lnow lsl lcl lba ldu nsh nrk h1 r1 q1 h2 r2 q2 ta sa n p st cc bc pot gr bk (up (up (up nw 1 (z1)) 2 (z3)) 3 (z5)) bal due S1 S2 tx sg)) H locs := G
      refine z_pop E dL_set_135 rfl ?_
      refine z_aload_n E hl 0 rfl dL_set_136 rfl ?_
      refine z_aload_n E hl 2 rfl dL_set_137 rfl ?_
      refine z_bipush E dL_set_138 (by decide) ?_
      refine z_iald E G 0 rfl (15) rfl (by decide) (by decide) dL_set_140 ?_
      refine z_eq (y := 0) rfl ?_
      refine z_aload_n E hl 2 rfl dL_set_141 rfl ?_
      refine z_bipush E dL_set_142 (by decide) ?_
      refine z_iald E G 0 rfl (16) rfl (by decide) (by decide) dL_set_144 ?_
      refine z_eq (y := z21) rfl ?_
      refine z_aload_n E hl 2 rfl dL_set_145 rfl ?_
      refine z_bipush E dL_set_146 (by decide) ?_
      refine z_iald E G 0 rfl (17) rfl (by decide) (by decide) dL_set_148 ?_
      refine z_eq (y := (1) + (z25)) rfl ?_
      have hX1 := hX.pr (a := z1) (b := z3) (d := z5) (by omega) (by omega) (by omega)
      refine z_callVs (pre := [(ao, .inl (k4 0, 19, .inl (fun i9 => iI ((up (up (up (up (up (up (up T (12) (z1)) (13) (z3)) (14) (z5)) (15) (0)) (16) (z21)) (17) ((1) + (z25))) (18) (z27)) i9))))]) E G hl.1 (c_X4_setBattery l D k4 lo lnow lsl lcl lba ldu nsh nrk h1 r1 q1 h2 r2 q2 ta sa n p st cc bc pot gr bk (up (up (up nw 1 (z1)) 2 (z3)) 3 (z5)) bal due S1 S2 tx sg 0 z21 ((1) + (z25)) hX1 (by omega) (by omega) (by omega)) kV_L_36 ⟨rfl, rfl, Nat.le_of_ble_eq_true rfl, Nat.le_of_ble_eq_true rfl⟩ 1 4 rfl rfl rfl rfl rfl (Nat.le_of_ble_eq_true rfl) dL_set_149 ⟨(by first | exact Nat.le_of_ble_eq_true rfl | omega | (show _ ≤ (0); omega)), (by first | exact Nat.le_of_ble_eq_true rfl | omega | (show _ ≤ (0); omega))⟩ (fun v9 w9 H locs hq G => ?_)
      obtain ⟨rfl, rfl⟩ := hq
      refine W.eq (g2 := F0 mm 152 ls [.int (iI (bc - min bc 0))]) rfl ?_
      have G : zG D AA ss.heap ((ao, .inl (k4 0, 19, .inl (fun i9 => iI ((up (up (up (up (up (up (up T (12) (z1)) (13) (z3)) (14) (z5)) (15) (0)) (16) (z21)) (17) ((1) + (z25))) (18) (z27)) i9)))) :: (xW k4 lo lnow lsl lcl lba ldu nsh nrk h1 r1 q1 h2 r2 q2 ta sa n p st cc (min bc 0) pot gr bk (up (up (up (up (up (up nw 1 (z1)) 2 (z3)) 3 (z5)) 4 (0)) 5 (z21)) 6 (((1) + (z25)))) bal due S1 S2 tx sg)) H locs := G
      refine z_pop E dL_set_152 rfl ?_
      refine z_aload_n E hl 0 rfl dL_set_153 rfl ?_
      refine z_aload_n E hl 2 rfl dL_set_154 rfl ?_
      refine z_bipush E dL_set_155 (by decide) ?_
      refine z_iald E G 0 rfl (18) rfl (by decide) (by decide) dL_set_157 ?_
      refine z_eq (y := z27) rfl ?_
      have hX2 := hX1.ba (a := 0) (b := z21) (d := (1) + (z25)) (by omega) (by omega) (by omega)
      refine z_callVs (pre := [(ao, .inl (k4 0, 19, .inl (fun i9 => iI ((up (up (up (up (up (up (up T (12) (z1)) (13) (z3)) (14) (z5)) (15) (0)) (16) (z21)) (17) ((1) + (z25))) (18) (z27)) i9))))]) E G hl.1 (c_X4_setRule l D k4 lo lnow lsl lcl lba ldu nsh nrk h1 r1 q1 h2 r2 q2 ta sa n p st cc (min bc 0) pot gr bk (up (up (up (up (up (up nw 1 (z1)) 2 (z3)) 3 (z5)) 4 (0)) 5 (z21)) 6 (((1) + (z25)))) bal due S1 S2 tx sg z27 hX2 (by omega)) kV_L_39 ⟨rfl, rfl, Nat.le_of_ble_eq_true rfl, Nat.le_of_ble_eq_true rfl⟩ 1 4 rfl rfl rfl rfl rfl (Nat.le_of_ble_eq_true rfl) dL_set_158 ⟨(by first | exact Nat.le_of_ble_eq_true rfl | omega | (show _ ≤ (0); omega)), (by first | exact Nat.le_of_ble_eq_true rfl | omega | (show _ ≤ (0); omega))⟩ (fun v9 w9 H locs hq G => ?_)
      obtain ⟨rfl, rfl⟩ := hq
      refine W.eq (g2 := F0 mm 161 ls [.int (iI ((up (up (up (up (up (up nw 1 (z1)) 2 (z3)) 3 (z5)) 4 (0)) 5 (z21)) 6 (((1) + (z25)))) 0))]) rfl ?_
      have G : zG D AA ss.heap ((ao, .inl (k4 0, 19, .inl (fun i9 => iI ((up (up (up (up (up (up (up T (12) (z1)) (13) (z3)) (14) (z5)) (15) (0)) (16) (z21)) (17) ((1) + (z25))) (18) (z27)) i9)))) :: (xW k4 lo lnow lsl lcl lba ldu nsh nrk h1 r1 q1 h2 r2 q2 ta sa n p st cc (min bc 0) pot gr bk (up (up (up (up (up (up (up nw 1 (z1)) 2 (z3)) 3 (z5)) 4 (0)) 5 (z21)) 6 (((1) + (z25)))) 0 (z27)) bal due S1 S2 tx sg)) H locs := G
      refine z_pop E dL_set_161 rfl ?_
      exact z_vret (w' := ((ao, .inl (k4 0, 19, .inl (fun i9 => iI ((up (up (up (up (up (up (up T (12) (z1)) (13) (z3)) (14) (z5)) (15) (0)) (16) (z21)) (17) ((1) + (z25))) (18) (z27)) i9)))) :: (xW k4 lo lnow lsl lcl lba ldu nsh nrk h1 r1 q1 h2 r2 q2 ta sa n p st cc (min bc 0) pot gr bk (up (up (up (up (up (up (up nw 1 (z1)) 2 (z3)) 3 (z5)) 4 (0)) 5 (z21)) 6 (((1) + (z25)))) 0 (z27)) bal due S1 S2 tx sg))) E hr hlocks G dL_set_162 (by omega) (by omega) (zx0 rfl) ⟨z1, z3, z5, 0, z21, (1) + (z25), z27, rfl, rfl, by omega, by omega, by omega, by omega, by omega, by omega, by omega⟩
    · skip
      refine z_bipush E dL_set_90 (by decide) ?_
      refine z_goto (tgt := 106) E dL_set_92 (by decide) ?_
      refine z_iast E G 0 rfl (17) rfl (by decide) (by decide) dL_set_106 (fun H locs G => ?_)
      have G : zG D AA ss.heap ((ao, .inl (k4 0, 19, .inl (fun i9 => iI ((up (up (up (up (up (up T (12) (z1)) (13) (z3)) (14) (z5)) (15) (0)) (16) (z21)) (17) (100)) i9)))) :: (xW k4 lo lnow lsl lcl lba ldu nsh nrk h1 r1 q1 h2 r2 q2 ta sa n p st cc bc pot gr bk nw bal due S1 S2 tx sg)) H locs := G
      refine z_aload_n E hl 2 rfl dL_set_107 rfl ?_
      refine z_bipush E dL_set_108 (by decide) ?_
      refine z_iload_n E hl 1 rfl dL_set_110 rfl ?_
      refine z_bipush E dL_set_111 (by decide) ?_
      refine z_ishr E dL_set_113 (fun z28 hz28 => ?_)
      refine z_iconst E dL_set_114 ?_
      refine z_callS E G hl.1 (c_L_below l D k4 (z28) (4) (by decide)) kS_L_15 ⟨rfl, rfl, Nat.le_of_ble_eq_true rfl, Nat.le_of_ble_eq_true rfl⟩ [] rfl (by decide) rfl rfl (Nat.le_of_ble_eq_true rfl) dL_set_115 ⟨(by first | exact Nat.le_of_ble_eq_true rfl | omega | (show _ ≤ (0); omega)), (by first | exact Nat.le_of_ble_eq_true rfl | omega | (show _ ≤ (0); omega))⟩ (fun v9 w9 H locs hq G => ?_)
      obtain ⟨z29, rfl, rfl, hz29⟩ := hq
      refine W.eq (g2 := F0 mm 118 ls [.int (iI (z29)), .int (iI (18)), .ref ao]) rfl ?_
      have G : zG D AA ss.heap ((ao, .inl (k4 0, 19, .inl (fun i9 => iI ((up (up (up (up (up (up T (12) (z1)) (13) (z3)) (14) (z5)) (15) (0)) (16) (z21)) (17) (100)) i9)))) :: (xW k4 lo lnow lsl lcl lba ldu nsh nrk h1 r1 q1 h2 r2 q2 ta sa n p st cc bc pot gr bk nw bal due S1 S2 tx sg)) H locs := G
      refine z_iast E G 0 rfl (18) rfl (by decide) (by decide) dL_set_118 (fun H locs G => ?_)
      have G : zG D AA ss.heap ((ao, .inl (k4 0, 19, .inl (fun i9 => iI ((up (up (up (up (up (up (up T (12) (z1)) (13) (z3)) (14) (z5)) (15) (0)) (16) (z21)) (17) (100)) (18) (z29)) i9)))) :: (xW k4 lo lnow lsl lcl lba ldu nsh nrk h1 r1 q1 h2 r2 q2 ta sa n p st cc bc pot gr bk nw bal due S1 S2 tx sg)) H locs := G
      refine z_aload_n E hl 0 rfl dL_set_119 rfl ?_
      refine z_aload_n E hl 2 rfl dL_set_120 rfl ?_
      refine z_bipush E dL_set_121 (by decide) ?_
      refine z_iald E G 0 rfl (12) rfl (by decide) (by decide) dL_set_123 ?_
      refine z_eq (y := z1) rfl ?_
      refine z_aload_n E hl 2 rfl dL_set_124 rfl ?_
      refine z_bipush E dL_set_125 (by decide) ?_
      refine z_iald E G 0 rfl (13) rfl (by decide) (by decide) dL_set_127 ?_
      refine z_eq (y := z3) rfl ?_
      refine z_aload_n E hl 2 rfl dL_set_128 rfl ?_
      refine z_bipush E dL_set_129 (by decide) ?_
      refine z_iald E G 0 rfl (14) rfl (by decide) (by decide) dL_set_131 ?_
      refine z_eq (y := z5) rfl ?_
      refine z_callVs (pre := [(ao, .inl (k4 0, 19, .inl (fun i9 => iI ((up (up (up (up (up (up (up T (12) (z1)) (13) (z3)) (14) (z5)) (15) (0)) (16) (z21)) (17) (100)) (18) (z29)) i9))))]) E G hl.1 (c_X4_setPrices l D k4 lo lnow lsl lcl lba ldu nsh nrk h1 r1 q1 h2 r2 q2 ta sa n p st cc bc pot gr bk nw bal due S1 S2 tx sg z1 z3 z5 hX (by omega) (by omega) (by omega)) kV_L_33 ⟨rfl, rfl, Nat.le_of_ble_eq_true rfl, Nat.le_of_ble_eq_true rfl⟩ 1 4 rfl rfl rfl rfl rfl (Nat.le_of_ble_eq_true rfl) dL_set_132 ⟨(by first | exact Nat.le_of_ble_eq_true rfl | omega | (show _ ≤ (0); omega)), (by first | exact Nat.le_of_ble_eq_true rfl | omega | (show _ ≤ (0); omega))⟩ (fun v9 w9 H locs hq G => ?_)
      obtain ⟨rfl, rfl⟩ := hq
      refine W.eq (g2 := F0 mm 135 ls [.int (iI (nw 3))]) rfl ?_
      have G : zG D AA ss.heap ((ao, .inl (k4 0, 19, .inl (fun i9 => iI ((up (up (up (up (up (up (up T (12) (z1)) (13) (z3)) (14) (z5)) (15) (0)) (16) (z21)) (17) (100)) (18) (z29)) i9)))) :: (xW k4 lo lnow lsl lcl lba ldu nsh nrk h1 r1 q1 h2 r2 q2 ta sa n p st cc bc pot gr bk (up (up (up nw 1 (z1)) 2 (z3)) 3 (z5)) bal due S1 S2 tx sg)) H locs := G
      refine z_pop E dL_set_135 rfl ?_
      refine z_aload_n E hl 0 rfl dL_set_136 rfl ?_
      refine z_aload_n E hl 2 rfl dL_set_137 rfl ?_
      refine z_bipush E dL_set_138 (by decide) ?_
      refine z_iald E G 0 rfl (15) rfl (by decide) (by decide) dL_set_140 ?_
      refine z_eq (y := 0) rfl ?_
      refine z_aload_n E hl 2 rfl dL_set_141 rfl ?_
      refine z_bipush E dL_set_142 (by decide) ?_
      refine z_iald E G 0 rfl (16) rfl (by decide) (by decide) dL_set_144 ?_
      refine z_eq (y := z21) rfl ?_
      refine z_aload_n E hl 2 rfl dL_set_145 rfl ?_
      refine z_bipush E dL_set_146 (by decide) ?_
      refine z_iald E G 0 rfl (17) rfl (by decide) (by decide) dL_set_148 ?_
      refine z_eq (y := 100) rfl ?_
      have hX1 := hX.pr (a := z1) (b := z3) (d := z5) (by omega) (by omega) (by omega)
      refine z_callVs (pre := [(ao, .inl (k4 0, 19, .inl (fun i9 => iI ((up (up (up (up (up (up (up T (12) (z1)) (13) (z3)) (14) (z5)) (15) (0)) (16) (z21)) (17) (100)) (18) (z29)) i9))))]) E G hl.1 (c_X4_setBattery l D k4 lo lnow lsl lcl lba ldu nsh nrk h1 r1 q1 h2 r2 q2 ta sa n p st cc bc pot gr bk (up (up (up nw 1 (z1)) 2 (z3)) 3 (z5)) bal due S1 S2 tx sg 0 z21 100 hX1 (by omega) (by omega) (by omega)) kV_L_36 ⟨rfl, rfl, Nat.le_of_ble_eq_true rfl, Nat.le_of_ble_eq_true rfl⟩ 1 4 rfl rfl rfl rfl rfl (Nat.le_of_ble_eq_true rfl) dL_set_149 ⟨(by first | exact Nat.le_of_ble_eq_true rfl | omega | (show _ ≤ (0); omega)), (by first | exact Nat.le_of_ble_eq_true rfl | omega | (show _ ≤ (0); omega))⟩ (fun v9 w9 H locs hq G => ?_)
      obtain ⟨rfl, rfl⟩ := hq
      refine W.eq (g2 := F0 mm 152 ls [.int (iI (bc - min bc 0))]) rfl ?_
      have G : zG D AA ss.heap ((ao, .inl (k4 0, 19, .inl (fun i9 => iI ((up (up (up (up (up (up (up T (12) (z1)) (13) (z3)) (14) (z5)) (15) (0)) (16) (z21)) (17) (100)) (18) (z29)) i9)))) :: (xW k4 lo lnow lsl lcl lba ldu nsh nrk h1 r1 q1 h2 r2 q2 ta sa n p st cc (min bc 0) pot gr bk (up (up (up (up (up (up nw 1 (z1)) 2 (z3)) 3 (z5)) 4 (0)) 5 (z21)) 6 (100)) bal due S1 S2 tx sg)) H locs := G
      refine z_pop E dL_set_152 rfl ?_
      refine z_aload_n E hl 0 rfl dL_set_153 rfl ?_
      refine z_aload_n E hl 2 rfl dL_set_154 rfl ?_
      refine z_bipush E dL_set_155 (by decide) ?_
      refine z_iald E G 0 rfl (18) rfl (by decide) (by decide) dL_set_157 ?_
      refine z_eq (y := z29) rfl ?_
      have hX2 := hX1.ba (a := 0) (b := z21) (d := 100) (by omega) (by omega) (by omega)
      refine z_callVs (pre := [(ao, .inl (k4 0, 19, .inl (fun i9 => iI ((up (up (up (up (up (up (up T (12) (z1)) (13) (z3)) (14) (z5)) (15) (0)) (16) (z21)) (17) (100)) (18) (z29)) i9))))]) E G hl.1 (c_X4_setRule l D k4 lo lnow lsl lcl lba ldu nsh nrk h1 r1 q1 h2 r2 q2 ta sa n p st cc (min bc 0) pot gr bk (up (up (up (up (up (up nw 1 (z1)) 2 (z3)) 3 (z5)) 4 (0)) 5 (z21)) 6 (100)) bal due S1 S2 tx sg z29 hX2 (by omega)) kV_L_39 ⟨rfl, rfl, Nat.le_of_ble_eq_true rfl, Nat.le_of_ble_eq_true rfl⟩ 1 4 rfl rfl rfl rfl rfl (Nat.le_of_ble_eq_true rfl) dL_set_158 ⟨(by first | exact Nat.le_of_ble_eq_true rfl | omega | (show _ ≤ (0); omega)), (by first | exact Nat.le_of_ble_eq_true rfl | omega | (show _ ≤ (0); omega))⟩ (fun v9 w9 H locs hq G => ?_)
      obtain ⟨rfl, rfl⟩ := hq
      refine W.eq (g2 := F0 mm 161 ls [.int (iI ((up (up (up (up (up (up nw 1 (z1)) 2 (z3)) 3 (z5)) 4 (0)) 5 (z21)) 6 (100)) 0))]) rfl ?_
      have G : zG D AA ss.heap ((ao, .inl (k4 0, 19, .inl (fun i9 => iI ((up (up (up (up (up (up (up T (12) (z1)) (13) (z3)) (14) (z5)) (15) (0)) (16) (z21)) (17) (100)) (18) (z29)) i9)))) :: (xW k4 lo lnow lsl lcl lba ldu nsh nrk h1 r1 q1 h2 r2 q2 ta sa n p st cc (min bc 0) pot gr bk (up (up (up (up (up (up (up nw 1 (z1)) 2 (z3)) 3 (z5)) 4 (0)) 5 (z21)) 6 (100)) 0 (z29)) bal due S1 S2 tx sg)) H locs := G
      refine z_pop E dL_set_161 rfl ?_
      exact z_vret (w' := ((ao, .inl (k4 0, 19, .inl (fun i9 => iI ((up (up (up (up (up (up (up T (12) (z1)) (13) (z3)) (14) (z5)) (15) (0)) (16) (z21)) (17) (100)) (18) (z29)) i9)))) :: (xW k4 lo lnow lsl lcl lba ldu nsh nrk h1 r1 q1 h2 r2 q2 ta sa n p st cc (min bc 0) pot gr bk (up (up (up (up (up (up (up nw 1 (z1)) 2 (z3)) 3 (z5)) 4 (0)) 5 (z21)) 6 (100)) 0 (z29)) bal due S1 S2 tx sg))) E hr hlocks G dL_set_162 (by omega) (by omega) (zx0 rfl) ⟨z1, z3, z5, 0, z21, 100, z29, rfl, rfl, by omega, by omega, by omega, by omega, by omega, by omega, by omega⟩

